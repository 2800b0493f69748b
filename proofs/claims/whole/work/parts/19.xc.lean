section XX
variable {sc : Nat × (Nat → Int32)} {d : Nat} {Q : PRes → Prop} {h : PH} {l0 l1 l2 l3 l4 l5 l6 l7 l8 l9 l10 l11 l12 l13 l14 l15 l16 l17 l18 l19 l20 l21 l22 l23 l24 l25 l26 l27 : Option Value} {x i0 i1 i2 i3 i4 i5 i6 i7 i8 i9 i10 i11 : Int32} {xl j0 j1 j2 j3 j4 j5 j6 j7 j8 j9 j10 j11 : Int64} {xk k0 k1 k2 k3 k4 k5 k6 k7 k8 k9 k10 k11 : Nat}
theorem r_155 : mR 155 = none := by decide +kernel
theorem k_155_0 : lk 155 0 = some (.aload_n 0, 1, 0, 0, .null) := by decide +kernel
theorem x_155_0 : Tr sc d 155 (0, [some (.ref xk), l1], [], h) Q = Tr sc d 155 (1, [some (.ref xk), l1], [.ref xk], h) Q := t_aload_n k_155_0 rfl
theorem k_155_1 : lk 155 1 = some (.invokespecial 1, 4, 9000, 0, .null) := by decide +kernel
theorem x_155_1 : Tr sc d 155 (1, [l0, l1], [.ref k0], h) Q = Tr sc d 155 (4, [l0, l1], [], h) Q := t_go k_155_1 rfl
theorem k_155_4 : lk 155 4 = some (.aload_n 0, 5, 0, 0, .null) := by decide +kernel
theorem x_155_4 : Tr sc d 155 (4, [some (.ref xk), l1], [], h) Q = Tr sc d 155 (5, [some (.ref xk), l1], [.ref xk], h) Q := t_aload_n k_155_4 rfl
theorem k_155_5 : lk 155 5 = some (.bipush 6, 7, 0, 0, .int 6) := by decide +kernel
theorem x_155_5 : Tr sc d 155 (5, [l0, l1], [.ref k0], h) Q = Tr sc d 155 (7, [l0, l1], [.int 6, .ref k0], h) Q := t_go k_155_5 rfl
theorem k_155_7 : lk 155 7 = some (.newarray .int, 9, 11, 0, .null) := by decide +kernel
theorem x_155_7 : Tr sc d 155 (7, [l0, l1], [.int i1, .ref k0], h) Q = ((hN h < 1000 ∧ TG (hN h) = 11 ∧ (¬ i1 < 0) ∧ LN (hN h) = i1.toNatClampNeg ∧ LN (hN h) ≤ 60000) ∧ Tr sc d 155 (9, [l0, l1], [.ref (hN h), .ref k0], nH h) Q) := t_gd k_155_7 rfl
theorem k_155_9 : lk 155 9 = some (.putfield 7, 12, 10, 1, .null) := by decide +kernel
theorem x_155_9 : Tr sc d 155 (9, [l0, l1], [.ref k1, .ref k0], h) Q = (okp h k0 10 = true ∧ Tr sc d 155 (12, [l0, l1], [], (sR h k0 1 (some k1))) Q) := t_gd k_155_9 rfl
theorem k_155_12 : lk 155 12 = some (.aload_n 0, 13, 0, 0, .null) := by decide +kernel
theorem x_155_12 : Tr sc d 155 (12, [some (.ref xk), l1], [], h) Q = Tr sc d 155 (13, [some (.ref xk), l1], [.ref xk], h) Q := t_aload_n k_155_12 rfl
theorem k_155_13 : lk 155 13 = some (.lconst 1, 14, 0, 0, .long 1) := by decide +kernel
theorem x_155_13 : Tr sc d 155 (13, [l0, l1], [.ref k0], h) Q = Tr sc d 155 (14, [l0, l1], [.long 1, .ref k0], h) Q := t_go k_155_13 rfl
theorem k_155_14 : lk 155 14 = some (.putfield 13, 17, 10, 5, .long 0) := by decide +kernel
theorem x_155_14 : Tr sc d 155 (14, [l0, l1], [.long j1, .ref k0], h) Q = (okp h k0 10 = true ∧ Tr sc d 155 (17, [l0, l1], [], (sL h k0 5 j1)) Q) := t_gd k_155_14 rfl
theorem k_155_17 : lk 155 17 = some (.aload_n 0, 18, 0, 0, .null) := by decide +kernel
theorem x_155_17 : Tr sc d 155 (17, [some (.ref xk), l1], [], h) Q = Tr sc d 155 (18, [some (.ref xk), l1], [.ref xk], h) Q := t_aload_n k_155_17 rfl
theorem k_155_18 : lk 155 18 = some (.bipush 6, 20, 0, 0, .int 6) := by decide +kernel
theorem x_155_18 : Tr sc d 155 (18, [l0, l1], [.ref k0], h) Q = Tr sc d 155 (20, [l0, l1], [.int 6, .ref k0], h) Q := t_go k_155_18 rfl
theorem k_155_20 : lk 155 20 = some (.newarray .int, 22, 11, 0, .null) := by decide +kernel
theorem x_155_20 : Tr sc d 155 (20, [l0, l1], [.int i1, .ref k0], h) Q = ((hN h < 1000 ∧ TG (hN h) = 11 ∧ (¬ i1 < 0) ∧ LN (hN h) = i1.toNatClampNeg ∧ LN (hN h) ≤ 60000) ∧ Tr sc d 155 (22, [l0, l1], [.ref (hN h), .ref k0], nH h) Q) := t_gd k_155_20 rfl
theorem k_155_22 : lk 155 22 = some (.putfield 17, 25, 10, 6, .null) := by decide +kernel
theorem x_155_22 : Tr sc d 155 (22, [l0, l1], [.ref k1, .ref k0], h) Q = (okp h k0 10 = true ∧ Tr sc d 155 (25, [l0, l1], [], (sR h k0 6 (some k1))) Q) := t_gd k_155_22 rfl
theorem k_155_25 : lk 155 25 = some (.aload_n 0, 26, 0, 0, .null) := by decide +kernel
theorem x_155_25 : Tr sc d 155 (25, [some (.ref xk), l1], [], h) Q = Tr sc d 155 (26, [some (.ref xk), l1], [.ref xk], h) Q := t_aload_n k_155_25 rfl
theorem k_155_26 : lk 155 26 = some (.sipush 240, 29, 0, 0, .int 240) := by decide +kernel
theorem x_155_26 : Tr sc d 155 (26, [l0, l1], [.ref k0], h) Q = Tr sc d 155 (29, [l0, l1], [.int 240, .ref k0], h) Q := t_go k_155_26 rfl
theorem k_155_29 : lk 155 29 = some (.newarray .int, 31, 11, 0, .null) := by decide +kernel
theorem x_155_29 : Tr sc d 155 (29, [l0, l1], [.int i1, .ref k0], h) Q = ((hN h < 1000 ∧ TG (hN h) = 11 ∧ (¬ i1 < 0) ∧ LN (hN h) = i1.toNatClampNeg ∧ LN (hN h) ≤ 60000) ∧ Tr sc d 155 (31, [l0, l1], [.ref (hN h), .ref k0], nH h) Q) := t_gd k_155_29 rfl
theorem k_155_31 : lk 155 31 = some (.putfield 20, 34, 10, 7, .null) := by decide +kernel
theorem x_155_31 : Tr sc d 155 (31, [l0, l1], [.ref k1, .ref k0], h) Q = (okp h k0 10 = true ∧ Tr sc d 155 (34, [l0, l1], [], (sR h k0 7 (some k1))) Q) := t_gd k_155_31 rfl
theorem k_155_34 : lk 155 34 = some (.aload_n 0, 35, 0, 0, .null) := by decide +kernel
theorem x_155_34 : Tr sc d 155 (34, [some (.ref xk), l1], [], h) Q = Tr sc d 155 (35, [some (.ref xk), l1], [.ref xk], h) Q := t_aload_n k_155_34 rfl
theorem k_155_35 : lk 155 35 = some (.bipush 40, 37, 0, 0, .int 40) := by decide +kernel
theorem x_155_35 : Tr sc d 155 (35, [l0, l1], [.ref k0], h) Q = Tr sc d 155 (37, [l0, l1], [.int 40, .ref k0], h) Q := t_go k_155_35 rfl
theorem k_155_37 : lk 155 37 = some (.newarray .int, 39, 11, 0, .null) := by decide +kernel
theorem x_155_37 : Tr sc d 155 (37, [l0, l1], [.int i1, .ref k0], h) Q = ((hN h < 1000 ∧ TG (hN h) = 11 ∧ (¬ i1 < 0) ∧ LN (hN h) = i1.toNatClampNeg ∧ LN (hN h) ≤ 60000) ∧ Tr sc d 155 (39, [l0, l1], [.ref (hN h), .ref k0], nH h) Q) := t_gd k_155_37 rfl
theorem k_155_39 : lk 155 39 = some (.putfield 23, 42, 10, 8, .null) := by decide +kernel
theorem x_155_39 : Tr sc d 155 (39, [l0, l1], [.ref k1, .ref k0], h) Q = (okp h k0 10 = true ∧ Tr sc d 155 (42, [l0, l1], [], (sR h k0 8 (some k1))) Q) := t_gd k_155_39 rfl
theorem k_155_42 : lk 155 42 = some (.aload_n 0, 43, 0, 0, .null) := by decide +kernel
theorem x_155_42 : Tr sc d 155 (42, [some (.ref xk), l1], [], h) Q = Tr sc d 155 (43, [some (.ref xk), l1], [.ref xk], h) Q := t_aload_n k_155_42 rfl
theorem k_155_43 : lk 155 43 = some (.iconst 4, 44, 0, 0, .int 4) := by decide +kernel
theorem x_155_43 : Tr sc d 155 (43, [l0, l1], [.ref k0], h) Q = Tr sc d 155 (44, [l0, l1], [.int 4, .ref k0], h) Q := t_go k_155_43 rfl
theorem k_155_44 : lk 155 44 = some (.newarray .int, 46, 11, 0, .null) := by decide +kernel
theorem x_155_44 : Tr sc d 155 (44, [l0, l1], [.int i1, .ref k0], h) Q = ((hN h < 1000 ∧ TG (hN h) = 11 ∧ (¬ i1 < 0) ∧ LN (hN h) = i1.toNatClampNeg ∧ LN (hN h) ≤ 60000) ∧ Tr sc d 155 (46, [l0, l1], [.ref (hN h), .ref k0], nH h) Q) := t_gd k_155_44 rfl
theorem k_155_46 : lk 155 46 = some (.putfield 26, 49, 10, 9, .null) := by decide +kernel
theorem x_155_46 : Tr sc d 155 (46, [l0, l1], [.ref k1, .ref k0], h) Q = (okp h k0 10 = true ∧ Tr sc d 155 (49, [l0, l1], [], (sR h k0 9 (some k1))) Q) := t_gd k_155_46 rfl
theorem k_155_49 : lk 155 49 = some (.aload_n 0, 50, 0, 0, .null) := by decide +kernel
theorem x_155_49 : Tr sc d 155 (49, [some (.ref xk), l1], [], h) Q = Tr sc d 155 (50, [some (.ref xk), l1], [.ref xk], h) Q := t_aload_n k_155_49 rfl
theorem k_155_50 : lk 155 50 = some (.sipush 240, 53, 0, 0, .int 240) := by decide +kernel
theorem x_155_50 : Tr sc d 155 (50, [l0, l1], [.ref k0], h) Q = Tr sc d 155 (53, [l0, l1], [.int 240, .ref k0], h) Q := t_go k_155_50 rfl
theorem k_155_53 : lk 155 53 = some (.newarray .int, 55, 11, 0, .null) := by decide +kernel
theorem x_155_53 : Tr sc d 155 (53, [l0, l1], [.int i1, .ref k0], h) Q = ((hN h < 1000 ∧ TG (hN h) = 11 ∧ (¬ i1 < 0) ∧ LN (hN h) = i1.toNatClampNeg ∧ LN (hN h) ≤ 60000) ∧ Tr sc d 155 (55, [l0, l1], [.ref (hN h), .ref k0], nH h) Q) := t_gd k_155_53 rfl
theorem k_155_55 : lk 155 55 = some (.putfield 29, 58, 10, 10, .null) := by decide +kernel
theorem x_155_55 : Tr sc d 155 (55, [l0, l1], [.ref k1, .ref k0], h) Q = (okp h k0 10 = true ∧ Tr sc d 155 (58, [l0, l1], [], (sR h k0 10 (some k1))) Q) := t_gd k_155_55 rfl
theorem k_155_58 : lk 155 58 = some (.aload_n 0, 59, 0, 0, .null) := by decide +kernel
theorem x_155_58 : Tr sc d 155 (58, [some (.ref xk), l1], [], h) Q = Tr sc d 155 (59, [some (.ref xk), l1], [.ref xk], h) Q := t_aload_n k_155_58 rfl
theorem k_155_59 : lk 155 59 = some (.bipush 18, 61, 0, 0, .int 18) := by decide +kernel
theorem x_155_59 : Tr sc d 155 (59, [l0, l1], [.ref k0], h) Q = Tr sc d 155 (61, [l0, l1], [.int 18, .ref k0], h) Q := t_go k_155_59 rfl
theorem k_155_61 : lk 155 61 = some (.newarray .int, 63, 11, 0, .null) := by decide +kernel
theorem x_155_61 : Tr sc d 155 (61, [l0, l1], [.int i1, .ref k0], h) Q = ((hN h < 1000 ∧ TG (hN h) = 11 ∧ (¬ i1 < 0) ∧ LN (hN h) = i1.toNatClampNeg ∧ LN (hN h) ≤ 60000) ∧ Tr sc d 155 (63, [l0, l1], [.ref (hN h), .ref k0], nH h) Q) := t_gd k_155_61 rfl
theorem k_155_63 : lk 155 63 = some (.putfield 32, 66, 10, 13, .null) := by decide +kernel
theorem x_155_63 : Tr sc d 155 (63, [l0, l1], [.ref k1, .ref k0], h) Q = (okp h k0 10 = true ∧ Tr sc d 155 (66, [l0, l1], [], (sR h k0 13 (some k1))) Q) := t_gd k_155_63 rfl
theorem k_155_66 : lk 155 66 = some (.aload_n 0, 67, 0, 0, .null) := by decide +kernel
theorem x_155_66 : Tr sc d 155 (66, [some (.ref xk), l1], [], h) Q = Tr sc d 155 (67, [some (.ref xk), l1], [.ref xk], h) Q := t_aload_n k_155_66 rfl
theorem k_155_67 : lk 155 67 = some (.bipush 8, 69, 0, 0, .int 8) := by decide +kernel
theorem x_155_67 : Tr sc d 155 (67, [l0, l1], [.ref k0], h) Q = Tr sc d 155 (69, [l0, l1], [.int 8, .ref k0], h) Q := t_go k_155_67 rfl
theorem k_155_69 : lk 155 69 = some (.newarray .int, 71, 11, 0, .null) := by decide +kernel
theorem x_155_69 : Tr sc d 155 (69, [l0, l1], [.int i1, .ref k0], h) Q = ((hN h < 1000 ∧ TG (hN h) = 11 ∧ (¬ i1 < 0) ∧ LN (hN h) = i1.toNatClampNeg ∧ LN (hN h) ≤ 60000) ∧ Tr sc d 155 (71, [l0, l1], [.ref (hN h), .ref k0], nH h) Q) := t_gd k_155_69 rfl
theorem k_155_71 : lk 155 71 = some (.putfield 35, 74, 10, 16, .null) := by decide +kernel
theorem x_155_71 : Tr sc d 155 (71, [l0, l1], [.ref k1, .ref k0], h) Q = (okp h k0 10 = true ∧ Tr sc d 155 (74, [l0, l1], [], (sR h k0 16 (some k1))) Q) := t_gd k_155_71 rfl
theorem k_155_74 : lk 155 74 = some (.aload_n 0, 75, 0, 0, .null) := by decide +kernel
theorem x_155_74 : Tr sc d 155 (74, [some (.ref xk), l1], [], h) Q = Tr sc d 155 (75, [some (.ref xk), l1], [.ref xk], h) Q := t_aload_n k_155_74 rfl
theorem k_155_75 : lk 155 75 = some (.bipush 8, 77, 0, 0, .int 8) := by decide +kernel
theorem x_155_75 : Tr sc d 155 (75, [l0, l1], [.ref k0], h) Q = Tr sc d 155 (77, [l0, l1], [.int 8, .ref k0], h) Q := t_go k_155_75 rfl
theorem k_155_77 : lk 155 77 = some (.newarray .int, 79, 11, 0, .null) := by decide +kernel
theorem x_155_77 : Tr sc d 155 (77, [l0, l1], [.int i1, .ref k0], h) Q = ((hN h < 1000 ∧ TG (hN h) = 11 ∧ (¬ i1 < 0) ∧ LN (hN h) = i1.toNatClampNeg ∧ LN (hN h) ≤ 60000) ∧ Tr sc d 155 (79, [l0, l1], [.ref (hN h), .ref k0], nH h) Q) := t_gd k_155_77 rfl
theorem k_155_79 : lk 155 79 = some (.putfield 38, 82, 10, 17, .null) := by decide +kernel
theorem x_155_79 : Tr sc d 155 (79, [l0, l1], [.ref k1, .ref k0], h) Q = (okp h k0 10 = true ∧ Tr sc d 155 (82, [l0, l1], [], (sR h k0 17 (some k1))) Q) := t_gd k_155_79 rfl
theorem k_155_82 : lk 155 82 = some (.aload_n 0, 83, 0, 0, .null) := by decide +kernel
theorem x_155_82 : Tr sc d 155 (82, [some (.ref xk), l1], [], h) Q = Tr sc d 155 (83, [some (.ref xk), l1], [.ref xk], h) Q := t_aload_n k_155_82 rfl
theorem k_155_83 : lk 155 83 = some (.bipush 8, 85, 0, 0, .int 8) := by decide +kernel
theorem x_155_83 : Tr sc d 155 (83, [l0, l1], [.ref k0], h) Q = Tr sc d 155 (85, [l0, l1], [.int 8, .ref k0], h) Q := t_go k_155_83 rfl
theorem k_155_85 : lk 155 85 = some (.newarray .int, 87, 11, 0, .null) := by decide +kernel
theorem x_155_85 : Tr sc d 155 (85, [l0, l1], [.int i1, .ref k0], h) Q = ((hN h < 1000 ∧ TG (hN h) = 11 ∧ (¬ i1 < 0) ∧ LN (hN h) = i1.toNatClampNeg ∧ LN (hN h) ≤ 60000) ∧ Tr sc d 155 (87, [l0, l1], [.ref (hN h), .ref k0], nH h) Q) := t_gd k_155_85 rfl
theorem k_155_87 : lk 155 87 = some (.putfield 41, 90, 10, 18, .null) := by decide +kernel
theorem x_155_87 : Tr sc d 155 (87, [l0, l1], [.ref k1, .ref k0], h) Q = (okp h k0 10 = true ∧ Tr sc d 155 (90, [l0, l1], [], (sR h k0 18 (some k1))) Q) := t_gd k_155_87 rfl
theorem k_155_90 : lk 155 90 = some (.aload_n 0, 91, 0, 0, .null) := by decide +kernel
theorem x_155_90 : Tr sc d 155 (90, [some (.ref xk), l1], [], h) Q = Tr sc d 155 (91, [some (.ref xk), l1], [.ref xk], h) Q := t_aload_n k_155_90 rfl
theorem k_155_91 : lk 155 91 = some (.bipush 48, 93, 0, 0, .int 48) := by decide +kernel
theorem x_155_91 : Tr sc d 155 (91, [l0, l1], [.ref k0], h) Q = Tr sc d 155 (93, [l0, l1], [.int 48, .ref k0], h) Q := t_go k_155_91 rfl
theorem k_155_93 : lk 155 93 = some (.newarray .int, 95, 11, 0, .null) := by decide +kernel
theorem x_155_93 : Tr sc d 155 (93, [l0, l1], [.int i1, .ref k0], h) Q = ((hN h < 1000 ∧ TG (hN h) = 11 ∧ (¬ i1 < 0) ∧ LN (hN h) = i1.toNatClampNeg ∧ LN (hN h) ≤ 60000) ∧ Tr sc d 155 (95, [l0, l1], [.ref (hN h), .ref k0], nH h) Q) := t_gd k_155_93 rfl
theorem k_155_95 : lk 155 95 = some (.putfield 44, 98, 10, 19, .null) := by decide +kernel
theorem x_155_95 : Tr sc d 155 (95, [l0, l1], [.ref k1, .ref k0], h) Q = (okp h k0 10 = true ∧ Tr sc d 155 (98, [l0, l1], [], (sR h k0 19 (some k1))) Q) := t_gd k_155_95 rfl
theorem k_155_98 : lk 155 98 = some (.aload_n 0, 99, 0, 0, .null) := by decide +kernel
theorem x_155_98 : Tr sc d 155 (98, [some (.ref xk), l1], [], h) Q = Tr sc d 155 (99, [some (.ref xk), l1], [.ref xk], h) Q := t_aload_n k_155_98 rfl
theorem k_155_99 : lk 155 99 = some (.bipush 48, 101, 0, 0, .int 48) := by decide +kernel
theorem x_155_99 : Tr sc d 155 (99, [l0, l1], [.ref k0], h) Q = Tr sc d 155 (101, [l0, l1], [.int 48, .ref k0], h) Q := t_go k_155_99 rfl
theorem k_155_101 : lk 155 101 = some (.newarray .int, 103, 11, 0, .null) := by decide +kernel
theorem x_155_101 : Tr sc d 155 (101, [l0, l1], [.int i1, .ref k0], h) Q = ((hN h < 1000 ∧ TG (hN h) = 11 ∧ (¬ i1 < 0) ∧ LN (hN h) = i1.toNatClampNeg ∧ LN (hN h) ≤ 60000) ∧ Tr sc d 155 (103, [l0, l1], [.ref (hN h), .ref k0], nH h) Q) := t_gd k_155_101 rfl
theorem k_155_103 : lk 155 103 = some (.putfield 47, 106, 10, 20, .null) := by decide +kernel
theorem x_155_103 : Tr sc d 155 (103, [l0, l1], [.ref k1, .ref k0], h) Q = (okp h k0 10 = true ∧ Tr sc d 155 (106, [l0, l1], [], (sR h k0 20 (some k1))) Q) := t_gd k_155_103 rfl
theorem k_155_106 : lk 155 106 = some (.aload_n 0, 107, 0, 0, .null) := by decide +kernel
theorem x_155_106 : Tr sc d 155 (106, [some (.ref xk), l1], [], h) Q = Tr sc d 155 (107, [some (.ref xk), l1], [.ref xk], h) Q := t_aload_n k_155_106 rfl
theorem k_155_107 : lk 155 107 = some (.bipush 48, 109, 0, 0, .int 48) := by decide +kernel
theorem x_155_107 : Tr sc d 155 (107, [l0, l1], [.ref k0], h) Q = Tr sc d 155 (109, [l0, l1], [.int 48, .ref k0], h) Q := t_go k_155_107 rfl
theorem k_155_109 : lk 155 109 = some (.newarray .int, 111, 11, 0, .null) := by decide +kernel
theorem x_155_109 : Tr sc d 155 (109, [l0, l1], [.int i1, .ref k0], h) Q = ((hN h < 1000 ∧ TG (hN h) = 11 ∧ (¬ i1 < 0) ∧ LN (hN h) = i1.toNatClampNeg ∧ LN (hN h) ≤ 60000) ∧ Tr sc d 155 (111, [l0, l1], [.ref (hN h), .ref k0], nH h) Q) := t_gd k_155_109 rfl
theorem k_155_111 : lk 155 111 = some (.putfield 50, 114, 10, 21, .null) := by decide +kernel
theorem x_155_111 : Tr sc d 155 (111, [l0, l1], [.ref k1, .ref k0], h) Q = (okp h k0 10 = true ∧ Tr sc d 155 (114, [l0, l1], [], (sR h k0 21 (some k1))) Q) := t_gd k_155_111 rfl
theorem k_155_114 : lk 155 114 = some (.aload_n 0, 115, 0, 0, .null) := by decide +kernel
theorem x_155_114 : Tr sc d 155 (114, [some (.ref xk), l1], [], h) Q = Tr sc d 155 (115, [some (.ref xk), l1], [.ref xk], h) Q := t_aload_n k_155_114 rfl
theorem k_155_115 : lk 155 115 = some (.bipush 48, 117, 0, 0, .int 48) := by decide +kernel
theorem x_155_115 : Tr sc d 155 (115, [l0, l1], [.ref k0], h) Q = Tr sc d 155 (117, [l0, l1], [.int 48, .ref k0], h) Q := t_go k_155_115 rfl
theorem k_155_117 : lk 155 117 = some (.newarray .int, 119, 11, 0, .null) := by decide +kernel
theorem x_155_117 : Tr sc d 155 (117, [l0, l1], [.int i1, .ref k0], h) Q = ((hN h < 1000 ∧ TG (hN h) = 11 ∧ (¬ i1 < 0) ∧ LN (hN h) = i1.toNatClampNeg ∧ LN (hN h) ≤ 60000) ∧ Tr sc d 155 (119, [l0, l1], [.ref (hN h), .ref k0], nH h) Q) := t_gd k_155_117 rfl
theorem k_155_119 : lk 155 119 = some (.putfield 53, 122, 10, 22, .null) := by decide +kernel
theorem x_155_119 : Tr sc d 155 (119, [l0, l1], [.ref k1, .ref k0], h) Q = (okp h k0 10 = true ∧ Tr sc d 155 (122, [l0, l1], [], (sR h k0 22 (some k1))) Q) := t_gd k_155_119 rfl
theorem k_155_122 : lk 155 122 = some (.aload_n 0, 123, 0, 0, .null) := by decide +kernel
theorem x_155_122 : Tr sc d 155 (122, [some (.ref xk), l1], [], h) Q = Tr sc d 155 (123, [some (.ref xk), l1], [.ref xk], h) Q := t_aload_n k_155_122 rfl
theorem k_155_123 : lk 155 123 = some (.bipush 6, 125, 0, 0, .int 6) := by decide +kernel
theorem x_155_123 : Tr sc d 155 (123, [l0, l1], [.ref k0], h) Q = Tr sc d 155 (125, [l0, l1], [.int 6, .ref k0], h) Q := t_go k_155_123 rfl
theorem k_155_125 : lk 155 125 = some (.newarray .long, 127, 12, 0, .null) := by decide +kernel
theorem x_155_125 : Tr sc d 155 (125, [l0, l1], [.int i1, .ref k0], h) Q = ((hN h < 1000 ∧ TG (hN h) = 12 ∧ (¬ i1 < 0) ∧ LN (hN h) = i1.toNatClampNeg ∧ LN (hN h) ≤ 60000) ∧ Tr sc d 155 (127, [l0, l1], [.ref (hN h), .ref k0], nH h) Q) := t_gd k_155_125 rfl
theorem k_155_127 : lk 155 127 = some (.putfield 56, 130, 10, 29, .null) := by decide +kernel
theorem x_155_127 : Tr sc d 155 (127, [l0, l1], [.ref k1, .ref k0], h) Q = (okp h k0 10 = true ∧ Tr sc d 155 (130, [l0, l1], [], (sR h k0 29 (some k1))) Q) := t_gd k_155_127 rfl
theorem k_155_130 : lk 155 130 = some (.aload_n 0, 131, 0, 0, .null) := by decide +kernel
theorem x_155_130 : Tr sc d 155 (130, [some (.ref xk), l1], [], h) Q = Tr sc d 155 (131, [some (.ref xk), l1], [.ref xk], h) Q := t_aload_n k_155_130 rfl
theorem k_155_131 : lk 155 131 = some (.bipush 6, 133, 0, 0, .int 6) := by decide +kernel
theorem x_155_131 : Tr sc d 155 (131, [l0, l1], [.ref k0], h) Q = Tr sc d 155 (133, [l0, l1], [.int 6, .ref k0], h) Q := t_go k_155_131 rfl
theorem k_155_133 : lk 155 133 = some (.newarray .long, 135, 12, 0, .null) := by decide +kernel
theorem x_155_133 : Tr sc d 155 (133, [l0, l1], [.int i1, .ref k0], h) Q = ((hN h < 1000 ∧ TG (hN h) = 12 ∧ (¬ i1 < 0) ∧ LN (hN h) = i1.toNatClampNeg ∧ LN (hN h) ≤ 60000) ∧ Tr sc d 155 (135, [l0, l1], [.ref (hN h), .ref k0], nH h) Q) := t_gd k_155_133 rfl
theorem k_155_135 : lk 155 135 = some (.putfield 60, 138, 10, 30, .null) := by decide +kernel
theorem x_155_135 : Tr sc d 155 (135, [l0, l1], [.ref k1, .ref k0], h) Q = (okp h k0 10 = true ∧ Tr sc d 155 (138, [l0, l1], [], (sR h k0 30 (some k1))) Q) := t_gd k_155_135 rfl
theorem k_155_138 : lk 155 138 = some (.aload_n 0, 139, 0, 0, .null) := by decide +kernel
theorem x_155_138 : Tr sc d 155 (138, [some (.ref xk), l1], [], h) Q = Tr sc d 155 (139, [some (.ref xk), l1], [.ref xk], h) Q := t_aload_n k_155_138 rfl
theorem k_155_139 : lk 155 139 = some (.sipush 7776, 142, 0, 0, .int 7776) := by decide +kernel
theorem x_155_139 : Tr sc d 155 (139, [l0, l1], [.ref k0], h) Q = Tr sc d 155 (142, [l0, l1], [.int 7776, .ref k0], h) Q := t_go k_155_139 rfl
theorem k_155_142 : lk 155 142 = some (.newarray .int, 144, 11, 0, .null) := by decide +kernel
theorem x_155_142 : Tr sc d 155 (142, [l0, l1], [.int i1, .ref k0], h) Q = ((hN h < 1000 ∧ TG (hN h) = 11 ∧ (¬ i1 < 0) ∧ LN (hN h) = i1.toNatClampNeg ∧ LN (hN h) ≤ 60000) ∧ Tr sc d 155 (144, [l0, l1], [.ref (hN h), .ref k0], nH h) Q) := t_gd k_155_142 rfl
theorem k_155_144 : lk 155 144 = some (.putfield 63, 147, 10, 32, .null) := by decide +kernel
theorem x_155_144 : Tr sc d 155 (144, [l0, l1], [.ref k1, .ref k0], h) Q = (okp h k0 10 = true ∧ Tr sc d 155 (147, [l0, l1], [], (sR h k0 32 (some k1))) Q) := t_gd k_155_144 rfl
theorem k_155_147 : lk 155 147 = some (.aload_n 0, 148, 0, 0, .null) := by decide +kernel
theorem x_155_147 : Tr sc d 155 (147, [some (.ref xk), l1], [], h) Q = Tr sc d 155 (148, [some (.ref xk), l1], [.ref xk], h) Q := t_aload_n k_155_147 rfl
theorem k_155_148 : lk 155 148 = some (.sipush 7776, 151, 0, 0, .int 7776) := by decide +kernel
theorem x_155_148 : Tr sc d 155 (148, [l0, l1], [.ref k0], h) Q = Tr sc d 155 (151, [l0, l1], [.int 7776, .ref k0], h) Q := t_go k_155_148 rfl
theorem k_155_151 : lk 155 151 = some (.newarray .int, 153, 11, 0, .null) := by decide +kernel
theorem x_155_151 : Tr sc d 155 (151, [l0, l1], [.int i1, .ref k0], h) Q = ((hN h < 1000 ∧ TG (hN h) = 11 ∧ (¬ i1 < 0) ∧ LN (hN h) = i1.toNatClampNeg ∧ LN (hN h) ≤ 60000) ∧ Tr sc d 155 (153, [l0, l1], [.ref (hN h), .ref k0], nH h) Q) := t_gd k_155_151 rfl
theorem k_155_153 : lk 155 153 = some (.putfield 66, 156, 10, 33, .null) := by decide +kernel
theorem x_155_153 : Tr sc d 155 (153, [l0, l1], [.ref k1, .ref k0], h) Q = (okp h k0 10 = true ∧ Tr sc d 155 (156, [l0, l1], [], (sR h k0 33 (some k1))) Q) := t_gd k_155_153 rfl
theorem k_155_156 : lk 155 156 = some (.aload_n 0, 157, 0, 0, .null) := by decide +kernel
theorem x_155_156 : Tr sc d 155 (156, [some (.ref xk), l1], [], h) Q = Tr sc d 155 (157, [some (.ref xk), l1], [.ref xk], h) Q := t_aload_n k_155_156 rfl
theorem k_155_157 : lk 155 157 = some (.sipush 7776, 160, 0, 0, .int 7776) := by decide +kernel
theorem x_155_157 : Tr sc d 155 (157, [l0, l1], [.ref k0], h) Q = Tr sc d 155 (160, [l0, l1], [.int 7776, .ref k0], h) Q := t_go k_155_157 rfl
theorem k_155_160 : lk 155 160 = some (.newarray .int, 162, 11, 0, .null) := by decide +kernel
theorem x_155_160 : Tr sc d 155 (160, [l0, l1], [.int i1, .ref k0], h) Q = ((hN h < 1000 ∧ TG (hN h) = 11 ∧ (¬ i1 < 0) ∧ LN (hN h) = i1.toNatClampNeg ∧ LN (hN h) ≤ 60000) ∧ Tr sc d 155 (162, [l0, l1], [.ref (hN h), .ref k0], nH h) Q) := t_gd k_155_160 rfl
theorem k_155_162 : lk 155 162 = some (.putfield 69, 165, 10, 34, .null) := by decide +kernel
theorem x_155_162 : Tr sc d 155 (162, [l0, l1], [.ref k1, .ref k0], h) Q = (okp h k0 10 = true ∧ Tr sc d 155 (165, [l0, l1], [], (sR h k0 34 (some k1))) Q) := t_gd k_155_162 rfl
theorem k_155_165 : lk 155 165 = some (.aload_n 0, 166, 0, 0, .null) := by decide +kernel
theorem x_155_165 : Tr sc d 155 (165, [some (.ref xk), l1], [], h) Q = Tr sc d 155 (166, [some (.ref xk), l1], [.ref xk], h) Q := t_aload_n k_155_165 rfl
theorem k_155_166 : lk 155 166 = some (.sipush 7776, 169, 0, 0, .int 7776) := by decide +kernel
theorem x_155_166 : Tr sc d 155 (166, [l0, l1], [.ref k0], h) Q = Tr sc d 155 (169, [l0, l1], [.int 7776, .ref k0], h) Q := t_go k_155_166 rfl
theorem k_155_169 : lk 155 169 = some (.newarray .long, 171, 12, 0, .null) := by decide +kernel
theorem x_155_169 : Tr sc d 155 (169, [l0, l1], [.int i1, .ref k0], h) Q = ((hN h < 1000 ∧ TG (hN h) = 12 ∧ (¬ i1 < 0) ∧ LN (hN h) = i1.toNatClampNeg ∧ LN (hN h) ≤ 60000) ∧ Tr sc d 155 (171, [l0, l1], [.ref (hN h), .ref k0], nH h) Q) := t_gd k_155_169 rfl
theorem k_155_171 : lk 155 171 = some (.putfield 72, 174, 10, 35, .null) := by decide +kernel
theorem x_155_171 : Tr sc d 155 (171, [l0, l1], [.ref k1, .ref k0], h) Q = (okp h k0 10 = true ∧ Tr sc d 155 (174, [l0, l1], [], (sR h k0 35 (some k1))) Q) := t_gd k_155_171 rfl
theorem k_155_174 : lk 155 174 = some (.aload_n 0, 175, 0, 0, .null) := by decide +kernel
theorem x_155_174 : Tr sc d 155 (174, [some (.ref xk), l1], [], h) Q = Tr sc d 155 (175, [some (.ref xk), l1], [.ref xk], h) Q := t_aload_n k_155_174 rfl
theorem k_155_175 : lk 155 175 = some (.sipush 7776, 178, 0, 0, .int 7776) := by decide +kernel
theorem x_155_175 : Tr sc d 155 (175, [l0, l1], [.ref k0], h) Q = Tr sc d 155 (178, [l0, l1], [.int 7776, .ref k0], h) Q := t_go k_155_175 rfl
theorem k_155_178 : lk 155 178 = some (.newarray .long, 180, 12, 0, .null) := by decide +kernel
theorem x_155_178 : Tr sc d 155 (178, [l0, l1], [.int i1, .ref k0], h) Q = ((hN h < 1000 ∧ TG (hN h) = 12 ∧ (¬ i1 < 0) ∧ LN (hN h) = i1.toNatClampNeg ∧ LN (hN h) ≤ 60000) ∧ Tr sc d 155 (180, [l0, l1], [.ref (hN h), .ref k0], nH h) Q) := t_gd k_155_178 rfl
theorem k_155_180 : lk 155 180 = some (.putfield 75, 183, 10, 38, .null) := by decide +kernel
theorem x_155_180 : Tr sc d 155 (180, [l0, l1], [.ref k1, .ref k0], h) Q = (okp h k0 10 = true ∧ Tr sc d 155 (183, [l0, l1], [], (sR h k0 38 (some k1))) Q) := t_gd k_155_180 rfl
theorem k_155_183 : lk 155 183 = some (.aload_n 0, 184, 0, 0, .null) := by decide +kernel
theorem x_155_183 : Tr sc d 155 (183, [some (.ref xk), l1], [], h) Q = Tr sc d 155 (184, [some (.ref xk), l1], [.ref xk], h) Q := t_aload_n k_155_183 rfl
theorem k_155_184 : lk 155 184 = some (.sipush 7776, 187, 0, 0, .int 7776) := by decide +kernel
theorem x_155_184 : Tr sc d 155 (184, [l0, l1], [.ref k0], h) Q = Tr sc d 155 (187, [l0, l1], [.int 7776, .ref k0], h) Q := t_go k_155_184 rfl
theorem k_155_187 : lk 155 187 = some (.newarray .int, 189, 11, 0, .null) := by decide +kernel
theorem x_155_187 : Tr sc d 155 (187, [l0, l1], [.int i1, .ref k0], h) Q = ((hN h < 1000 ∧ TG (hN h) = 11 ∧ (¬ i1 < 0) ∧ LN (hN h) = i1.toNatClampNeg ∧ LN (hN h) ≤ 60000) ∧ Tr sc d 155 (189, [l0, l1], [.ref (hN h), .ref k0], nH h) Q) := t_gd k_155_187 rfl
theorem k_155_189 : lk 155 189 = some (.putfield 78, 192, 10, 39, .null) := by decide +kernel
theorem x_155_189 : Tr sc d 155 (189, [l0, l1], [.ref k1, .ref k0], h) Q = (okp h k0 10 = true ∧ Tr sc d 155 (192, [l0, l1], [], (sR h k0 39 (some k1))) Q) := t_gd k_155_189 rfl
theorem k_155_192 : lk 155 192 = some (.aload_n 0, 193, 0, 0, .null) := by decide +kernel
theorem x_155_192 : Tr sc d 155 (192, [some (.ref xk), l1], [], h) Q = Tr sc d 155 (193, [some (.ref xk), l1], [.ref xk], h) Q := t_aload_n k_155_192 rfl
theorem k_155_193 : lk 155 193 = some (.sipush 7776, 196, 0, 0, .int 7776) := by decide +kernel
theorem x_155_193 : Tr sc d 155 (193, [l0, l1], [.ref k0], h) Q = Tr sc d 155 (196, [l0, l1], [.int 7776, .ref k0], h) Q := t_go k_155_193 rfl
theorem k_155_196 : lk 155 196 = some (.newarray .int, 198, 11, 0, .null) := by decide +kernel
theorem x_155_196 : Tr sc d 155 (196, [l0, l1], [.int i1, .ref k0], h) Q = ((hN h < 1000 ∧ TG (hN h) = 11 ∧ (¬ i1 < 0) ∧ LN (hN h) = i1.toNatClampNeg ∧ LN (hN h) ≤ 60000) ∧ Tr sc d 155 (198, [l0, l1], [.ref (hN h), .ref k0], nH h) Q) := t_gd k_155_196 rfl
theorem k_155_198 : lk 155 198 = some (.putfield 81, 201, 10, 40, .null) := by decide +kernel
theorem x_155_198 : Tr sc d 155 (198, [l0, l1], [.ref k1, .ref k0], h) Q = (okp h k0 10 = true ∧ Tr sc d 155 (201, [l0, l1], [], (sR h k0 40 (some k1))) Q) := t_gd k_155_198 rfl
theorem k_155_201 : lk 155 201 = some (.aload_n 0, 202, 0, 0, .null) := by decide +kernel
theorem x_155_201 : Tr sc d 155 (201, [some (.ref xk), l1], [], h) Q = Tr sc d 155 (202, [some (.ref xk), l1], [.ref xk], h) Q := t_aload_n k_155_201 rfl
theorem k_155_202 : lk 155 202 = some (.sipush 1369, 205, 0, 0, .int 1369) := by decide +kernel
theorem x_155_202 : Tr sc d 155 (202, [l0, l1], [.ref k0], h) Q = Tr sc d 155 (205, [l0, l1], [.int 1369, .ref k0], h) Q := t_go k_155_202 rfl
theorem k_155_205 : lk 155 205 = some (.newarray .boolean, 207, 13, 0, .null) := by decide +kernel
theorem x_155_205 : Tr sc d 155 (205, [l0, l1], [.int i1, .ref k0], h) Q = ((hN h < 1000 ∧ TG (hN h) = 13 ∧ (¬ i1 < 0) ∧ LN (hN h) = i1.toNatClampNeg ∧ LN (hN h) ≤ 60000) ∧ Tr sc d 155 (207, [l0, l1], [.ref (hN h), .ref k0], nH h) Q) := t_gd k_155_205 rfl
theorem k_155_207 : lk 155 207 = some (.putfield 84, 210, 10, 45, .null) := by decide +kernel
theorem x_155_207 : Tr sc d 155 (207, [l0, l1], [.ref k1, .ref k0], h) Q = (okp h k0 10 = true ∧ Tr sc d 155 (210, [l0, l1], [], (sR h k0 45 (some k1))) Q) := t_gd k_155_207 rfl
theorem k_155_210 : lk 155 210 = some (.aload_n 0, 211, 0, 0, .null) := by decide +kernel
theorem x_155_210 : Tr sc d 155 (210, [some (.ref xk), l1], [], h) Q = Tr sc d 155 (211, [some (.ref xk), l1], [.ref xk], h) Q := t_aload_n k_155_210 rfl
theorem k_155_211 : lk 155 211 = some (.sipush 1369, 214, 0, 0, .int 1369) := by decide +kernel
theorem x_155_211 : Tr sc d 155 (211, [l0, l1], [.ref k0], h) Q = Tr sc d 155 (214, [l0, l1], [.int 1369, .ref k0], h) Q := t_go k_155_211 rfl
theorem k_155_214 : lk 155 214 = some (.newarray .boolean, 216, 13, 0, .null) := by decide +kernel
theorem x_155_214 : Tr sc d 155 (214, [l0, l1], [.int i1, .ref k0], h) Q = ((hN h < 1000 ∧ TG (hN h) = 13 ∧ (¬ i1 < 0) ∧ LN (hN h) = i1.toNatClampNeg ∧ LN (hN h) ≤ 60000) ∧ Tr sc d 155 (216, [l0, l1], [.ref (hN h), .ref k0], nH h) Q) := t_gd k_155_214 rfl
theorem k_155_216 : lk 155 216 = some (.putfield 88, 219, 10, 46, .null) := by decide +kernel
theorem x_155_216 : Tr sc d 155 (216, [l0, l1], [.ref k1, .ref k0], h) Q = (okp h k0 10 = true ∧ Tr sc d 155 (219, [l0, l1], [], (sR h k0 46 (some k1))) Q) := t_gd k_155_216 rfl
theorem k_155_219 : lk 155 219 = some (.aload_n 0, 220, 0, 0, .null) := by decide +kernel
theorem x_155_219 : Tr sc d 155 (219, [some (.ref xk), l1], [], h) Q = Tr sc d 155 (220, [some (.ref xk), l1], [.ref xk], h) Q := t_aload_n k_155_219 rfl
theorem k_155_220 : lk 155 220 = some (.ldc 91, 222, 0, 1175, .int 46656) := by decide +kernel
theorem x_155_220 : Tr sc d 155 (220, [l0, l1], [.ref k0], h) Q = Tr sc d 155 (222, [l0, l1], [.int 46656, .ref k0], h) Q := t_go k_155_220 rfl
theorem k_155_222 : lk 155 222 = some (.newarray .boolean, 224, 13, 0, .null) := by decide +kernel
theorem x_155_222 : Tr sc d 155 (222, [l0, l1], [.int i1, .ref k0], h) Q = ((hN h < 1000 ∧ TG (hN h) = 13 ∧ (¬ i1 < 0) ∧ LN (hN h) = i1.toNatClampNeg ∧ LN (hN h) ≤ 60000) ∧ Tr sc d 155 (224, [l0, l1], [.ref (hN h), .ref k0], nH h) Q) := t_gd k_155_222 rfl
theorem k_155_224 : lk 155 224 = some (.putfield 92, 227, 10, 47, .null) := by decide +kernel
theorem x_155_224 : Tr sc d 155 (224, [l0, l1], [.ref k1, .ref k0], h) Q = (okp h k0 10 = true ∧ Tr sc d 155 (227, [l0, l1], [], (sR h k0 47 (some k1))) Q) := t_gd k_155_224 rfl
theorem k_155_227 : lk 155 227 = some (.aload_n 0, 228, 0, 0, .null) := by decide +kernel
theorem x_155_227 : Tr sc d 155 (227, [some (.ref xk), l1], [], h) Q = Tr sc d 155 (228, [some (.ref xk), l1], [.ref xk], h) Q := t_aload_n k_155_227 rfl
theorem k_155_228 : lk 155 228 = some (.sipush 216, 231, 0, 0, .int 216) := by decide +kernel
theorem x_155_228 : Tr sc d 155 (228, [l0, l1], [.ref k0], h) Q = Tr sc d 155 (231, [l0, l1], [.int 216, .ref k0], h) Q := t_go k_155_228 rfl
theorem k_155_231 : lk 155 231 = some (.newarray .boolean, 233, 13, 0, .null) := by decide +kernel
theorem x_155_231 : Tr sc d 155 (231, [l0, l1], [.int i1, .ref k0], h) Q = ((hN h < 1000 ∧ TG (hN h) = 13 ∧ (¬ i1 < 0) ∧ LN (hN h) = i1.toNatClampNeg ∧ LN (hN h) ≤ 60000) ∧ Tr sc d 155 (233, [l0, l1], [.ref (hN h), .ref k0], nH h) Q) := t_gd k_155_231 rfl
theorem k_155_233 : lk 155 233 = some (.putfield 95, 236, 10, 48, .null) := by decide +kernel
theorem x_155_233 : Tr sc d 155 (233, [l0, l1], [.ref k1, .ref k0], h) Q = (okp h k0 10 = true ∧ Tr sc d 155 (236, [l0, l1], [], (sR h k0 48 (some k1))) Q) := t_gd k_155_233 rfl
theorem k_155_236 : lk 155 236 = some (.aload_n 0, 237, 0, 0, .null) := by decide +kernel
theorem x_155_236 : Tr sc d 155 (236, [some (.ref xk), l1], [], h) Q = Tr sc d 155 (237, [some (.ref xk), l1], [.ref xk], h) Q := t_aload_n k_155_236 rfl
theorem k_155_237 : lk 155 237 = some (.sipush 216, 240, 0, 0, .int 216) := by decide +kernel
theorem x_155_237 : Tr sc d 155 (237, [l0, l1], [.ref k0], h) Q = Tr sc d 155 (240, [l0, l1], [.int 216, .ref k0], h) Q := t_go k_155_237 rfl
theorem k_155_240 : lk 155 240 = some (.newarray .int, 242, 11, 0, .null) := by decide +kernel
theorem x_155_240 : Tr sc d 155 (240, [l0, l1], [.int i1, .ref k0], h) Q = ((hN h < 1000 ∧ TG (hN h) = 11 ∧ (¬ i1 < 0) ∧ LN (hN h) = i1.toNatClampNeg ∧ LN (hN h) ≤ 60000) ∧ Tr sc d 155 (242, [l0, l1], [.ref (hN h), .ref k0], nH h) Q) := t_gd k_155_240 rfl
theorem k_155_242 : lk 155 242 = some (.putfield 98, 245, 10, 49, .null) := by decide +kernel
theorem x_155_242 : Tr sc d 155 (242, [l0, l1], [.ref k1, .ref k0], h) Q = (okp h k0 10 = true ∧ Tr sc d 155 (245, [l0, l1], [], (sR h k0 49 (some k1))) Q) := t_gd k_155_242 rfl
theorem k_155_245 : lk 155 245 = some (.aload_n 0, 246, 0, 0, .null) := by decide +kernel
theorem x_155_245 : Tr sc d 155 (245, [some (.ref xk), l1], [], h) Q = Tr sc d 155 (246, [some (.ref xk), l1], [.ref xk], h) Q := t_aload_n k_155_245 rfl
theorem k_155_246 : lk 155 246 = some (.sipush 2001, 249, 0, 0, .int 2001) := by decide +kernel
theorem x_155_246 : Tr sc d 155 (246, [l0, l1], [.ref k0], h) Q = Tr sc d 155 (249, [l0, l1], [.int 2001, .ref k0], h) Q := t_go k_155_246 rfl
theorem k_155_249 : lk 155 249 = some (.newarray .int, 251, 11, 0, .null) := by decide +kernel
theorem x_155_249 : Tr sc d 155 (249, [l0, l1], [.int i1, .ref k0], h) Q = ((hN h < 1000 ∧ TG (hN h) = 11 ∧ (¬ i1 < 0) ∧ LN (hN h) = i1.toNatClampNeg ∧ LN (hN h) ≤ 60000) ∧ Tr sc d 155 (251, [l0, l1], [.ref (hN h), .ref k0], nH h) Q) := t_gd k_155_249 rfl
theorem k_155_251 : lk 155 251 = some (.putfield 101, 254, 10, 51, .null) := by decide +kernel
theorem x_155_251 : Tr sc d 155 (251, [l0, l1], [.ref k1, .ref k0], h) Q = (okp h k0 10 = true ∧ Tr sc d 155 (254, [l0, l1], [], (sR h k0 51 (some k1))) Q) := t_gd k_155_251 rfl
theorem k_155_254 : lk 155 254 = some (.aload_n 0, 255, 0, 0, .null) := by decide +kernel
theorem x_155_254 : Tr sc d 155 (254, [some (.ref xk), l1], [], h) Q = Tr sc d 155 (255, [some (.ref xk), l1], [.ref xk], h) Q := t_aload_n k_155_254 rfl
theorem k_155_255 : lk 155 255 = some (.sipush 2001, 258, 0, 0, .int 2001) := by decide +kernel
theorem x_155_255 : Tr sc d 155 (255, [l0, l1], [.ref k0], h) Q = Tr sc d 155 (258, [l0, l1], [.int 2001, .ref k0], h) Q := t_go k_155_255 rfl
theorem k_155_258 : lk 155 258 = some (.newarray .int, 260, 11, 0, .null) := by decide +kernel
theorem x_155_258 : Tr sc d 155 (258, [l0, l1], [.int i1, .ref k0], h) Q = ((hN h < 1000 ∧ TG (hN h) = 11 ∧ (¬ i1 < 0) ∧ LN (hN h) = i1.toNatClampNeg ∧ LN (hN h) ≤ 60000) ∧ Tr sc d 155 (260, [l0, l1], [.ref (hN h), .ref k0], nH h) Q) := t_gd k_155_258 rfl
theorem k_155_260 : lk 155 260 = some (.putfield 104, 263, 10, 52, .null) := by decide +kernel
theorem x_155_260 : Tr sc d 155 (260, [l0, l1], [.ref k1, .ref k0], h) Q = (okp h k0 10 = true ∧ Tr sc d 155 (263, [l0, l1], [], (sR h k0 52 (some k1))) Q) := t_gd k_155_260 rfl
theorem k_155_263 : lk 155 263 = some (.aload_n 0, 264, 0, 0, .null) := by decide +kernel
theorem x_155_263 : Tr sc d 155 (263, [some (.ref xk), l1], [], h) Q = Tr sc d 155 (264, [some (.ref xk), l1], [.ref xk], h) Q := t_aload_n k_155_263 rfl
theorem k_155_264 : lk 155 264 = some (.sipush 2001, 267, 0, 0, .int 2001) := by decide +kernel
theorem x_155_264 : Tr sc d 155 (264, [l0, l1], [.ref k0], h) Q = Tr sc d 155 (267, [l0, l1], [.int 2001, .ref k0], h) Q := t_go k_155_264 rfl
theorem k_155_267 : lk 155 267 = some (.newarray .boolean, 269, 13, 0, .null) := by decide +kernel
theorem x_155_267 : Tr sc d 155 (267, [l0, l1], [.int i1, .ref k0], h) Q = ((hN h < 1000 ∧ TG (hN h) = 13 ∧ (¬ i1 < 0) ∧ LN (hN h) = i1.toNatClampNeg ∧ LN (hN h) ≤ 60000) ∧ Tr sc d 155 (269, [l0, l1], [.ref (hN h), .ref k0], nH h) Q) := t_gd k_155_267 rfl
theorem k_155_269 : lk 155 269 = some (.putfield 107, 272, 10, 53, .null) := by decide +kernel
theorem x_155_269 : Tr sc d 155 (269, [l0, l1], [.ref k1, .ref k0], h) Q = (okp h k0 10 = true ∧ Tr sc d 155 (272, [l0, l1], [], (sR h k0 53 (some k1))) Q) := t_gd k_155_269 rfl
theorem k_155_272 : lk 155 272 = some (.aload_n 0, 273, 0, 0, .null) := by decide +kernel
theorem x_155_272 : Tr sc d 155 (272, [some (.ref xk), l1], [], h) Q = Tr sc d 155 (273, [some (.ref xk), l1], [.ref xk], h) Q := t_aload_n k_155_272 rfl
theorem k_155_273 : lk 155 273 = some (.sipush 12006, 276, 0, 0, .int 12006) := by decide +kernel
theorem x_155_273 : Tr sc d 155 (273, [l0, l1], [.ref k0], h) Q = Tr sc d 155 (276, [l0, l1], [.int 12006, .ref k0], h) Q := t_go k_155_273 rfl
theorem k_155_276 : lk 155 276 = some (.newarray .int, 278, 11, 0, .null) := by decide +kernel
theorem x_155_276 : Tr sc d 155 (276, [l0, l1], [.int i1, .ref k0], h) Q = ((hN h < 1000 ∧ TG (hN h) = 11 ∧ (¬ i1 < 0) ∧ LN (hN h) = i1.toNatClampNeg ∧ LN (hN h) ≤ 60000) ∧ Tr sc d 155 (278, [l0, l1], [.ref (hN h), .ref k0], nH h) Q) := t_gd k_155_276 rfl
theorem k_155_278 : lk 155 278 = some (.putfield 110, 281, 10, 54, .null) := by decide +kernel
theorem x_155_278 : Tr sc d 155 (278, [l0, l1], [.ref k1, .ref k0], h) Q = (okp h k0 10 = true ∧ Tr sc d 155 (281, [l0, l1], [], (sR h k0 54 (some k1))) Q) := t_gd k_155_278 rfl
theorem k_155_281 : lk 155 281 = some (.aload_n 0, 282, 0, 0, .null) := by decide +kernel
theorem x_155_281 : Tr sc d 155 (281, [some (.ref xk), l1], [], h) Q = Tr sc d 155 (282, [some (.ref xk), l1], [.ref xk], h) Q := t_aload_n k_155_281 rfl
theorem k_155_282 : lk 155 282 = some (.iconst 4, 283, 0, 0, .int 4) := by decide +kernel
theorem x_155_282 : Tr sc d 155 (282, [l0, l1], [.ref k0], h) Q = Tr sc d 155 (283, [l0, l1], [.int 4, .ref k0], h) Q := t_go k_155_282 rfl
theorem k_155_283 : lk 155 283 = some (.newarray .int, 285, 11, 0, .null) := by decide +kernel
theorem x_155_283 : Tr sc d 155 (283, [l0, l1], [.int i1, .ref k0], h) Q = ((hN h < 1000 ∧ TG (hN h) = 11 ∧ (¬ i1 < 0) ∧ LN (hN h) = i1.toNatClampNeg ∧ LN (hN h) ≤ 60000) ∧ Tr sc d 155 (285, [l0, l1], [.ref (hN h), .ref k0], nH h) Q) := t_gd k_155_283 rfl
theorem k_155_285 : lk 155 285 = some (.putfield 113, 288, 10, 55, .null) := by decide +kernel
theorem x_155_285 : Tr sc d 155 (285, [l0, l1], [.ref k1, .ref k0], h) Q = (okp h k0 10 = true ∧ Tr sc d 155 (288, [l0, l1], [], (sR h k0 55 (some k1))) Q) := t_gd k_155_285 rfl
theorem k_155_288 : lk 155 288 = some (.aload_n 0, 289, 0, 0, .null) := by decide +kernel
theorem x_155_288 : Tr sc d 155 (288, [some (.ref xk), l1], [], h) Q = Tr sc d 155 (289, [some (.ref xk), l1], [.ref xk], h) Q := t_aload_n k_155_288 rfl
theorem k_155_289 : lk 155 289 = some (.sipush 1369, 292, 0, 0, .int 1369) := by decide +kernel
theorem x_155_289 : Tr sc d 155 (289, [l0, l1], [.ref k0], h) Q = Tr sc d 155 (292, [l0, l1], [.int 1369, .ref k0], h) Q := t_go k_155_289 rfl
theorem k_155_292 : lk 155 292 = some (.newarray .long, 294, 12, 0, .null) := by decide +kernel
theorem x_155_292 : Tr sc d 155 (292, [l0, l1], [.int i1, .ref k0], h) Q = ((hN h < 1000 ∧ TG (hN h) = 12 ∧ (¬ i1 < 0) ∧ LN (hN h) = i1.toNatClampNeg ∧ LN (hN h) ≤ 60000) ∧ Tr sc d 155 (294, [l0, l1], [.ref (hN h), .ref k0], nH h) Q) := t_gd k_155_292 rfl
theorem k_155_294 : lk 155 294 = some (.putfield 116, 297, 10, 56, .null) := by decide +kernel
theorem x_155_294 : Tr sc d 155 (294, [l0, l1], [.ref k1, .ref k0], h) Q = (okp h k0 10 = true ∧ Tr sc d 155 (297, [l0, l1], [], (sR h k0 56 (some k1))) Q) := t_gd k_155_294 rfl
theorem k_155_297 : lk 155 297 = some (.aload_n 0, 298, 0, 0, .null) := by decide +kernel
theorem x_155_297 : Tr sc d 155 (297, [some (.ref xk), l1], [], h) Q = Tr sc d 155 (298, [some (.ref xk), l1], [.ref xk], h) Q := t_aload_n k_155_297 rfl
theorem k_155_298 : lk 155 298 = some (.sipush 1369, 301, 0, 0, .int 1369) := by decide +kernel
theorem x_155_298 : Tr sc d 155 (298, [l0, l1], [.ref k0], h) Q = Tr sc d 155 (301, [l0, l1], [.int 1369, .ref k0], h) Q := t_go k_155_298 rfl
theorem k_155_301 : lk 155 301 = some (.newarray .long, 303, 12, 0, .null) := by decide +kernel
theorem x_155_301 : Tr sc d 155 (301, [l0, l1], [.int i1, .ref k0], h) Q = ((hN h < 1000 ∧ TG (hN h) = 12 ∧ (¬ i1 < 0) ∧ LN (hN h) = i1.toNatClampNeg ∧ LN (hN h) ≤ 60000) ∧ Tr sc d 155 (303, [l0, l1], [.ref (hN h), .ref k0], nH h) Q) := t_gd k_155_301 rfl
theorem k_155_303 : lk 155 303 = some (.putfield 119, 306, 10, 57, .null) := by decide +kernel
theorem x_155_303 : Tr sc d 155 (303, [l0, l1], [.ref k1, .ref k0], h) Q = (okp h k0 10 = true ∧ Tr sc d 155 (306, [l0, l1], [], (sR h k0 57 (some k1))) Q) := t_gd k_155_303 rfl
theorem k_155_306 : lk 155 306 = some (.aload_n 0, 307, 0, 0, .null) := by decide +kernel
theorem x_155_306 : Tr sc d 155 (306, [some (.ref xk), l1], [], h) Q = Tr sc d 155 (307, [some (.ref xk), l1], [.ref xk], h) Q := t_aload_n k_155_306 rfl
theorem k_155_307 : lk 155 307 = some (.sipush 1600, 310, 0, 0, .int 1600) := by decide +kernel
theorem x_155_307 : Tr sc d 155 (307, [l0, l1], [.ref k0], h) Q = Tr sc d 155 (310, [l0, l1], [.int 1600, .ref k0], h) Q := t_go k_155_307 rfl
theorem k_155_310 : lk 155 310 = some (.newarray .int, 312, 11, 0, .null) := by decide +kernel
theorem x_155_310 : Tr sc d 155 (310, [l0, l1], [.int i1, .ref k0], h) Q = ((hN h < 1000 ∧ TG (hN h) = 11 ∧ (¬ i1 < 0) ∧ LN (hN h) = i1.toNatClampNeg ∧ LN (hN h) ≤ 60000) ∧ Tr sc d 155 (312, [l0, l1], [.ref (hN h), .ref k0], nH h) Q) := t_gd k_155_310 rfl
theorem k_155_312 : lk 155 312 = some (.putfield 122, 315, 10, 58, .null) := by decide +kernel
theorem x_155_312 : Tr sc d 155 (312, [l0, l1], [.ref k1, .ref k0], h) Q = (okp h k0 10 = true ∧ Tr sc d 155 (315, [l0, l1], [], (sR h k0 58 (some k1))) Q) := t_gd k_155_312 rfl
theorem k_155_315 : lk 155 315 = some (.aload_n 0, 316, 0, 0, .null) := by decide +kernel
theorem x_155_315 : Tr sc d 155 (315, [some (.ref xk), l1], [], h) Q = Tr sc d 155 (316, [some (.ref xk), l1], [.ref xk], h) Q := t_aload_n k_155_315 rfl
theorem k_155_316 : lk 155 316 = some (.sipush 1600, 319, 0, 0, .int 1600) := by decide +kernel
theorem x_155_316 : Tr sc d 155 (316, [l0, l1], [.ref k0], h) Q = Tr sc d 155 (319, [l0, l1], [.int 1600, .ref k0], h) Q := t_go k_155_316 rfl
theorem k_155_319 : lk 155 319 = some (.newarray .int, 321, 11, 0, .null) := by decide +kernel
theorem x_155_319 : Tr sc d 155 (319, [l0, l1], [.int i1, .ref k0], h) Q = ((hN h < 1000 ∧ TG (hN h) = 11 ∧ (¬ i1 < 0) ∧ LN (hN h) = i1.toNatClampNeg ∧ LN (hN h) ≤ 60000) ∧ Tr sc d 155 (321, [l0, l1], [.ref (hN h), .ref k0], nH h) Q) := t_gd k_155_319 rfl
theorem k_155_321 : lk 155 321 = some (.putfield 125, 324, 10, 59, .null) := by decide +kernel
theorem x_155_321 : Tr sc d 155 (321, [l0, l1], [.ref k1, .ref k0], h) Q = (okp h k0 10 = true ∧ Tr sc d 155 (324, [l0, l1], [], (sR h k0 59 (some k1))) Q) := t_gd k_155_321 rfl
theorem k_155_324 : lk 155 324 = some (.aload_n 0, 325, 0, 0, .null) := by decide +kernel
theorem x_155_324 : Tr sc d 155 (324, [some (.ref xk), l1], [], h) Q = Tr sc d 155 (325, [some (.ref xk), l1], [.ref xk], h) Q := t_aload_n k_155_324 rfl
theorem k_155_325 : lk 155 325 = some (.sipush 1296, 328, 0, 0, .int 1296) := by decide +kernel
theorem x_155_325 : Tr sc d 155 (325, [l0, l1], [.ref k0], h) Q = Tr sc d 155 (328, [l0, l1], [.int 1296, .ref k0], h) Q := t_go k_155_325 rfl
theorem k_155_328 : lk 155 328 = some (.newarray .int, 330, 11, 0, .null) := by decide +kernel
theorem x_155_328 : Tr sc d 155 (328, [l0, l1], [.int i1, .ref k0], h) Q = ((hN h < 1000 ∧ TG (hN h) = 11 ∧ (¬ i1 < 0) ∧ LN (hN h) = i1.toNatClampNeg ∧ LN (hN h) ≤ 60000) ∧ Tr sc d 155 (330, [l0, l1], [.ref (hN h), .ref k0], nH h) Q) := t_gd k_155_328 rfl
theorem k_155_330 : lk 155 330 = some (.putfield 128, 333, 10, 60, .null) := by decide +kernel
theorem x_155_330 : Tr sc d 155 (330, [l0, l1], [.ref k1, .ref k0], h) Q = (okp h k0 10 = true ∧ Tr sc d 155 (333, [l0, l1], [], (sR h k0 60 (some k1))) Q) := t_gd k_155_330 rfl
theorem k_155_333 : lk 155 333 = some (.aload_n 0, 334, 0, 0, .null) := by decide +kernel
theorem x_155_333 : Tr sc d 155 (333, [some (.ref xk), l1], [], h) Q = Tr sc d 155 (334, [some (.ref xk), l1], [.ref xk], h) Q := t_aload_n k_155_333 rfl
theorem k_155_334 : lk 155 334 = some (.sipush 1296, 337, 0, 0, .int 1296) := by decide +kernel
theorem x_155_334 : Tr sc d 155 (334, [l0, l1], [.ref k0], h) Q = Tr sc d 155 (337, [l0, l1], [.int 1296, .ref k0], h) Q := t_go k_155_334 rfl
theorem k_155_337 : lk 155 337 = some (.newarray .int, 339, 11, 0, .null) := by decide +kernel
theorem x_155_337 : Tr sc d 155 (337, [l0, l1], [.int i1, .ref k0], h) Q = ((hN h < 1000 ∧ TG (hN h) = 11 ∧ (¬ i1 < 0) ∧ LN (hN h) = i1.toNatClampNeg ∧ LN (hN h) ≤ 60000) ∧ Tr sc d 155 (339, [l0, l1], [.ref (hN h), .ref k0], nH h) Q) := t_gd k_155_337 rfl
theorem k_155_339 : lk 155 339 = some (.putfield 131, 342, 10, 61, .null) := by decide +kernel
theorem x_155_339 : Tr sc d 155 (339, [l0, l1], [.ref k1, .ref k0], h) Q = (okp h k0 10 = true ∧ Tr sc d 155 (342, [l0, l1], [], (sR h k0 61 (some k1))) Q) := t_gd k_155_339 rfl
theorem k_155_342 : lk 155 342 = some (.iconst 0, 343, 0, 0, .int 0) := by decide +kernel
theorem x_155_342 : Tr sc d 155 (342, [l0, l1], [], h) Q = Tr sc d 155 (343, [l0, l1], [.int 0], h) Q := t_go k_155_342 rfl
theorem k_155_343 : lk 155 343 = some (.istore_n 1, 344, 1, 0, .null) := by decide +kernel
theorem x_155_343 : Tr sc d 155 (343, [l0, l1], [.int i0], h) Q = Tr sc d 155 (344, [cl2 l0, some (.int i0)], [], h) Q := t_istore_n k_155_343 (Nat.le_of_ble_eq_true rfl)
theorem k_155_344 : lk 155 344 = some (.iload_n 1, 345, 1, 0, .null) := by decide +kernel
theorem x_155_344 : Tr sc d 155 (344, [l0, some (.int x)], [], h) Q = Tr sc d 155 (345, [l0, some (.int x)], [.int x], h) Q := t_iload_n k_155_344 rfl
theorem k_155_345 : lk 155 345 = some (.bipush 6, 347, 0, 0, .int 6) := by decide +kernel
theorem x_155_345 : Tr sc d 155 (345, [l0, l1], [.int i0], h) Q = Tr sc d 155 (347, [l0, l1], [.int 6, .int i0], h) Q := t_go k_155_345 rfl
theorem k_155_347 : lk 155 347 = some (.if_icmp .ge 17, 350, 364, 0, .null) := by decide +kernel
theorem x_155_347 : Tr sc d 155 (347, [l0, l1], [.int i1, .int i0], h) Q = if i1 ≤ i0 then Tr sc d 155 (364, [l0, l1], [], h) Q else Tr sc d 155 (350, [l0, l1], [], h) Q := t_if k_155_347 rfl
theorem k_155_350 : lk 155 350 = some (.aload_n 0, 351, 0, 0, .null) := by decide +kernel
theorem x_155_350 : Tr sc d 155 (350, [some (.ref xk), l1], [], h) Q = Tr sc d 155 (351, [some (.ref xk), l1], [.ref xk], h) Q := t_aload_n k_155_350 rfl
theorem k_155_351 : lk 155 351 = some (.getfield 17, 354, 10, 6, .null) := by decide +kernel
theorem x_155_351 : Tr sc d 155 (351, [l0, l1], [.ref k0], h) Q = (okp h k0 10 = true ∧ ∃ q, hR h k0 6 = some q ∧ Tr sc d 155 (354, [l0, l1], [.ref q], h) Q) := t_getr k_155_351
theorem k_155_354 : lk 155 354 = some (.iload_n 1, 355, 1, 0, .null) := by decide +kernel
theorem x_155_354 : Tr sc d 155 (354, [l0, some (.int x)], [.ref k0], h) Q = Tr sc d 155 (355, [l0, some (.int x)], [.int x, .ref k0], h) Q := t_iload_n k_155_354 rfl
theorem k_155_355 : lk 155 355 = some (.bipush (-9), 357, 0, 0, .int (-9)) := by decide +kernel
theorem x_155_355 : Tr sc d 155 (355, [l0, l1], [.int i1, .ref k0], h) Q = Tr sc d 155 (357, [l0, l1], [.int (-9), .int i1, .ref k0], h) Q := t_go k_155_355 rfl
theorem k_155_357 : lk 155 357 = some (.iastore, 358, 0, 0, .null) := by decide +kernel
theorem x_155_357 : Tr sc d 155 (357, [l0, l1], [.int i2, .int i1, .ref k0], h) Q = ((okp h k0 11 && inb i1 (LN k0)) = true ∧ Tr sc d 155 (358, [l0, l1], [], (sI h k0 i1.toNatClampNeg i2)) Q) := t_gd k_155_357 rfl
theorem k_155_358 : lk 155 358 = some (.iinc 1 1, 361, 1, 0, .int 1) := by decide +kernel
theorem x_155_358 : Tr sc d 155 (358, [l0, some (.int x)], [], h) Q = Tr sc d 155 (361, [cl2 l0, some (.int (x + 1))], [], h) Q := t_inc k_155_358 rfl (Nat.le_of_ble_eq_true rfl)
theorem k_155_361 : lk 155 361 = some (.goto (-17), 364, 344, 0, .null) := by decide +kernel
theorem x_155_361 : Tr sc d 155 (361, [l0, l1], [], h) Q = Tr sc d 155 (344, [l0, l1], [], h) Q := t_go k_155_361 rfl
theorem k_155_364 : lk 155 364 = some (.iconst 0, 365, 0, 0, .int 0) := by decide +kernel
theorem x_155_364 : Tr sc d 155 (364, [l0, l1], [], h) Q = Tr sc d 155 (365, [l0, l1], [.int 0], h) Q := t_go k_155_364 rfl
theorem k_155_365 : lk 155 365 = some (.istore_n 1, 366, 1, 0, .null) := by decide +kernel
theorem x_155_365 : Tr sc d 155 (365, [l0, l1], [.int i0], h) Q = Tr sc d 155 (366, [cl2 l0, some (.int i0)], [], h) Q := t_istore_n k_155_365 (Nat.le_of_ble_eq_true rfl)
theorem k_155_366 : lk 155 366 = some (.iload_n 1, 367, 1, 0, .null) := by decide +kernel
theorem x_155_366 : Tr sc d 155 (366, [l0, some (.int x)], [], h) Q = Tr sc d 155 (367, [l0, some (.int x)], [.int x], h) Q := t_iload_n k_155_366 rfl
theorem k_155_367 : lk 155 367 = some (.iconst 4, 368, 0, 0, .int 4) := by decide +kernel
theorem x_155_367 : Tr sc d 155 (367, [l0, l1], [.int i0], h) Q = Tr sc d 155 (368, [l0, l1], [.int 4, .int i0], h) Q := t_go k_155_367 rfl
theorem k_155_368 : lk 155 368 = some (.if_icmp .ge 17, 371, 385, 0, .null) := by decide +kernel
theorem x_155_368 : Tr sc d 155 (368, [l0, l1], [.int i1, .int i0], h) Q = if i1 ≤ i0 then Tr sc d 155 (385, [l0, l1], [], h) Q else Tr sc d 155 (371, [l0, l1], [], h) Q := t_if k_155_368 rfl
theorem k_155_371 : lk 155 371 = some (.aload_n 0, 372, 0, 0, .null) := by decide +kernel
theorem x_155_371 : Tr sc d 155 (371, [some (.ref xk), l1], [], h) Q = Tr sc d 155 (372, [some (.ref xk), l1], [.ref xk], h) Q := t_aload_n k_155_371 rfl
theorem k_155_372 : lk 155 372 = some (.getfield 26, 375, 10, 9, .null) := by decide +kernel
theorem x_155_372 : Tr sc d 155 (372, [l0, l1], [.ref k0], h) Q = (okp h k0 10 = true ∧ ∃ q, hR h k0 9 = some q ∧ Tr sc d 155 (375, [l0, l1], [.ref q], h) Q) := t_getr k_155_372
theorem k_155_375 : lk 155 375 = some (.iload_n 1, 376, 1, 0, .null) := by decide +kernel
theorem x_155_375 : Tr sc d 155 (375, [l0, some (.int x)], [.ref k0], h) Q = Tr sc d 155 (376, [l0, some (.int x)], [.int x, .ref k0], h) Q := t_iload_n k_155_375 rfl
theorem k_155_376 : lk 155 376 = some (.bipush (-9), 378, 0, 0, .int (-9)) := by decide +kernel
theorem x_155_376 : Tr sc d 155 (376, [l0, l1], [.int i1, .ref k0], h) Q = Tr sc d 155 (378, [l0, l1], [.int (-9), .int i1, .ref k0], h) Q := t_go k_155_376 rfl
theorem k_155_378 : lk 155 378 = some (.iastore, 379, 0, 0, .null) := by decide +kernel
theorem x_155_378 : Tr sc d 155 (378, [l0, l1], [.int i2, .int i1, .ref k0], h) Q = ((okp h k0 11 && inb i1 (LN k0)) = true ∧ Tr sc d 155 (379, [l0, l1], [], (sI h k0 i1.toNatClampNeg i2)) Q) := t_gd k_155_378 rfl
theorem k_155_379 : lk 155 379 = some (.iinc 1 1, 382, 1, 0, .int 1) := by decide +kernel
theorem x_155_379 : Tr sc d 155 (379, [l0, some (.int x)], [], h) Q = Tr sc d 155 (382, [cl2 l0, some (.int (x + 1))], [], h) Q := t_inc k_155_379 rfl (Nat.le_of_ble_eq_true rfl)
theorem k_155_382 : lk 155 382 = some (.goto (-16), 385, 366, 0, .null) := by decide +kernel
theorem x_155_382 : Tr sc d 155 (382, [l0, l1], [], h) Q = Tr sc d 155 (366, [l0, l1], [], h) Q := t_go k_155_382 rfl
theorem k_155_385 : lk 155 385 = some (.return_, 386, 0, 0, .null) := by decide +kernel
theorem x_155_385 : Tr sc d 155 (385, [l0, l1], [], h) Q = Q (none, h) := t_ret k_155_385 (by rw [r_155]; rfl)
theorem e_155 : Tr sc d 155 (ent0 155 [.ref k0] h) Q = Tr sc d 155 (0, [some (.ref k0), none], [], h) Q := by
  have e : mL 155 = 2 := by decide +kernel
  unfold ent0
  rw [e]
  rfl
theorem r_156 : mR 156 = some .boolean := by decide +kernel
theorem k_156_0 : lk 156 0 = some (.iload_n 0, 1, 0, 0, .null) := by decide +kernel
theorem x_156_0 : Tr sc d 156 (0, [some (.int x), l1, l2], [], h) Q = Tr sc d 156 (1, [some (.int x), l1, l2], [.int x], h) Q := t_iload_n k_156_0 rfl
theorem k_156_1 : lk 156 1 = some (.iload_n 1, 2, 1, 0, .null) := by decide +kernel
theorem x_156_1 : Tr sc d 156 (1, [l0, some (.int x), l2], [.int i0], h) Q = Tr sc d 156 (2, [l0, some (.int x), l2], [.int x, .int i0], h) Q := t_iload_n k_156_1 rfl
theorem k_156_2 : lk 156 2 = some (.if_icmp .lt 12, 5, 14, 0, .null) := by decide +kernel
theorem x_156_2 : Tr sc d 156 (2, [l0, l1, l2], [.int i1, .int i0], h) Q = if i0 < i1 then Tr sc d 156 (14, [l0, l1, l2], [], h) Q else Tr sc d 156 (5, [l0, l1, l2], [], h) Q := t_if k_156_2 rfl
theorem k_156_5 : lk 156 5 = some (.iload_n 0, 6, 0, 0, .null) := by decide +kernel
theorem x_156_5 : Tr sc d 156 (5, [some (.int x), l1, l2], [], h) Q = Tr sc d 156 (6, [some (.int x), l1, l2], [.int x], h) Q := t_iload_n k_156_5 rfl
theorem k_156_6 : lk 156 6 = some (.iload_n 2, 7, 2, 0, .null) := by decide +kernel
theorem x_156_6 : Tr sc d 156 (6, [l0, l1, some (.int x)], [.int i0], h) Q = Tr sc d 156 (7, [l0, l1, some (.int x)], [.int x, .int i0], h) Q := t_iload_n k_156_6 rfl
theorem k_156_7 : lk 156 7 = some (.if_icmp .gt 7, 10, 14, 0, .null) := by decide +kernel
theorem x_156_7 : Tr sc d 156 (7, [l0, l1, l2], [.int i1, .int i0], h) Q = if i1 < i0 then Tr sc d 156 (14, [l0, l1, l2], [], h) Q else Tr sc d 156 (10, [l0, l1, l2], [], h) Q := t_if k_156_7 rfl
theorem k_156_10 : lk 156 10 = some (.iconst 1, 11, 0, 0, .int 1) := by decide +kernel
theorem x_156_10 : Tr sc d 156 (10, [l0, l1, l2], [], h) Q = Tr sc d 156 (11, [l0, l1, l2], [.int 1], h) Q := t_go k_156_10 rfl
theorem k_156_11 : lk 156 11 = some (.goto 4, 14, 15, 0, .null) := by decide +kernel
theorem x_156_11 : Tr sc d 156 (11, [l0, l1, l2], [.int i0], h) Q = Tr sc d 156 (15, [l0, l1, l2], [.int i0], h) Q := t_go k_156_11 rfl
theorem k_156_14 : lk 156 14 = some (.iconst 0, 15, 0, 0, .int 0) := by decide +kernel
theorem x_156_14 : Tr sc d 156 (14, [l0, l1, l2], [], h) Q = Tr sc d 156 (15, [l0, l1, l2], [.int 0], h) Q := t_go k_156_14 rfl
theorem k_156_15 : lk 156 15 = some (.ireturn, 16, 0, 0, .null) := by decide +kernel
theorem x_156_15 : Tr sc d 156 (15, [l0, l1, l2], [.int i0], h) Q = (vp_nar .boolean i0 = i0 ∧ Q (some (.int i0), h)) := t_zret k_156_15 r_156
theorem e_156 : Tr sc d 156 (ent0 156 [.int i0, .int i1, .int i2] h) Q = Tr sc d 156 (0, [some (.int i0), some (.int i1), some (.int i2)], [], h) Q := by
  have e : mL 156 = 3 := by decide +kernel
  unfold ent0
  rw [e]
  rfl
theorem r_157 : mR 157 = some .int := by decide +kernel
theorem k_157_0 : lk 157 0 = some (.aload_n 0, 1, 0, 0, .null) := by decide +kernel
theorem x_157_0 : Tr sc d 157 (0, [some (.ref xk), l1], [], h) Q = Tr sc d 157 (1, [some (.ref xk), l1], [.ref xk], h) Q := t_aload_n k_157_0 rfl
theorem k_157_1 : lk 157 1 = some (.iload_n 1, 2, 1, 0, .null) := by decide +kernel
theorem x_157_1 : Tr sc d 157 (1, [l0, some (.int x)], [.ref k0], h) Q = Tr sc d 157 (2, [l0, some (.int x)], [.int x, .ref k0], h) Q := t_iload_n k_157_1 rfl
theorem k_157_2 : lk 157 2 = some (.putfield 134, 5, 10, 0, .int 0) := by decide +kernel
theorem x_157_2 : Tr sc d 157 (2, [l0, l1], [.int i1, .ref k0], h) Q = (okp h k0 10 = true ∧ Tr sc d 157 (5, [l0, l1], [], (sI h k0 0 i1)) Q) := t_gd k_157_2 rfl
theorem k_157_5 : lk 157 5 = some (.aload_n 0, 6, 0, 0, .null) := by decide +kernel
theorem x_157_5 : Tr sc d 157 (5, [some (.ref xk), l1], [], h) Q = Tr sc d 157 (6, [some (.ref xk), l1], [.ref xk], h) Q := t_aload_n k_157_5 rfl
theorem k_157_6 : lk 157 6 = some (.getfield 7, 9, 10, 1, .null) := by decide +kernel
theorem x_157_6 : Tr sc d 157 (6, [l0, l1], [.ref k0], h) Q = (okp h k0 10 = true ∧ ∃ q, hR h k0 1 = some q ∧ Tr sc d 157 (9, [l0, l1], [.ref q], h) Q) := t_getr k_157_6
theorem k_157_9 : lk 157 9 = some (.iload_n 1, 10, 1, 0, .null) := by decide +kernel
theorem x_157_9 : Tr sc d 157 (9, [l0, some (.int x)], [.ref k0], h) Q = Tr sc d 157 (10, [l0, some (.int x)], [.int x, .ref k0], h) Q := t_iload_n k_157_9 rfl
theorem k_157_10 : lk 157 10 = some (.dup2, 11, 0, 0, .null) := by decide +kernel
theorem x_157_10 : Tr sc d 157 (10, [l0, l1], [.int i1, .ref k0], h) Q = Tr sc d 157 (11, [l0, l1], [.int i1, .ref k0, .int i1, .ref k0], h) Q := t_go k_157_10 rfl
theorem k_157_11 : lk 157 11 = some (.iaload, 12, 0, 0, .null) := by decide +kernel
theorem x_157_11 : Tr sc d 157 (11, [l0, l1], [.int i3, .ref k2, .int i1, .ref k0], h) Q = (iOk sc h k2 i3 ∧ Tr sc d 157 (12, [l0, l1], [.int (iRd sc h k2 i3), .int i1, .ref k0], h) Q) := t_iald k_157_11
theorem k_157_12 : lk 157 12 = some (.iconst 1, 13, 0, 0, .int 1) := by decide +kernel
theorem x_157_12 : Tr sc d 157 (12, [l0, l1], [.int i2, .int i1, .ref k0], h) Q = Tr sc d 157 (13, [l0, l1], [.int 1, .int i2, .int i1, .ref k0], h) Q := t_go k_157_12 rfl
theorem k_157_13 : lk 157 13 = some (.iadd, 14, 0, 0, .null) := by decide +kernel
theorem x_157_13 : Tr sc d 157 (13, [l0, l1], [.int i3, .int i2, .int i1, .ref k0], h) Q = Tr sc d 157 (14, [l0, l1], [.int (i2 + i3), .int i1, .ref k0], h) Q := t_go k_157_13 rfl
theorem k_157_14 : lk 157 14 = some (.iastore, 15, 0, 0, .null) := by decide +kernel
theorem x_157_14 : Tr sc d 157 (14, [l0, l1], [.int i2, .int i1, .ref k0], h) Q = ((okp h k0 11 && inb i1 (LN k0)) = true ∧ Tr sc d 157 (15, [l0, l1], [], (sI h k0 i1.toNatClampNeg i2)) Q) := t_gd k_157_14 rfl
theorem k_157_15 : lk 157 15 = some (.bipush (-3), 17, 0, 0, .int (-3)) := by decide +kernel
theorem x_157_15 : Tr sc d 157 (15, [l0, l1], [], h) Q = Tr sc d 157 (17, [l0, l1], [.int (-3)], h) Q := t_go k_157_15 rfl
theorem k_157_17 : lk 157 17 = some (.ireturn, 18, 0, 0, .null) := by decide +kernel
theorem x_157_17 : Tr sc d 157 (17, [l0, l1], [.int i0], h) Q = Q (some (.int i0), h) := t_ret k_157_17 (by rw [r_157]; rfl)
theorem e_157 : Tr sc d 157 (ent0 157 [.ref k0, .int i1] h) Q = Tr sc d 157 (0, [some (.ref k0), some (.int i1)], [], h) Q := by
  have e : mL 157 = 2 := by decide +kernel
  unfold ent0
  rw [e]
  rfl
theorem r_158 : mR 158 = some .int := by decide +kernel
theorem k_158_0 : lk 158 0 = some (.aload_n 0, 1, 0, 0, .null) := by decide +kernel
theorem x_158_0 : Tr sc d 158 (0, [some (.ref xk), l1, l2], [], h) Q = Tr sc d 158 (1, [some (.ref xk), l1, l2], [.ref xk], h) Q := t_aload_n k_158_0 rfl
theorem k_158_1 : lk 158 1 = some (.iload_n 1, 2, 1, 0, .null) := by decide +kernel
theorem x_158_1 : Tr sc d 158 (1, [l0, some (.int x), l2], [.ref k0], h) Q = Tr sc d 158 (2, [l0, some (.int x), l2], [.int x, .ref k0], h) Q := t_iload_n k_158_1 rfl
theorem k_158_2 : lk 158 2 = some (.putfield 138, 5, 10, 2, .int 0) := by decide +kernel
theorem x_158_2 : Tr sc d 158 (2, [l0, l1, l2], [.int i1, .ref k0], h) Q = (okp h k0 10 = true ∧ Tr sc d 158 (5, [l0, l1, l2], [], (sI h k0 2 i1)) Q) := t_gd k_158_2 rfl
theorem k_158_5 : lk 158 5 = some (.iload_n 2, 6, 2, 0, .null) := by decide +kernel
theorem x_158_5 : Tr sc d 158 (5, [l0, l1, some (.int x)], [], h) Q = Tr sc d 158 (6, [l0, l1, some (.int x)], [.int x], h) Q := t_iload_n k_158_5 rfl
theorem k_158_6 : lk 158 6 = some (.ireturn, 7, 0, 0, .null) := by decide +kernel
theorem x_158_6 : Tr sc d 158 (6, [l0, l1, l2], [.int i0], h) Q = Q (some (.int i0), h) := t_ret k_158_6 (by rw [r_158]; rfl)
theorem e_158 : Tr sc d 158 (ent0 158 [.ref k0, .int i1, .int i2] h) Q = Tr sc d 158 (0, [some (.ref k0), some (.int i1), some (.int i2)], [], h) Q := by
  have e : mL 158 = 3 := by decide +kernel
  unfold ent0
  rw [e]
  rfl
theorem r_159 : mR 159 = some .int := by decide +kernel
theorem k_159_0 : lk 159 0 = some (.lload_n 1, 1, 1, 0, .null) := by decide +kernel
theorem x_159_0 : Tr sc d 159 (0, [l0, some (.long xl), l2, l3, l4, l5, l6, l7, l8, l9, l10], [], h) Q = Tr sc d 159 (1, [l0, some (.long xl), l2, l3, l4, l5, l6, l7, l8, l9, l10], [.long xl], h) Q := t_lload_n k_159_0 rfl
theorem k_159_1 : lk 159 1 = some (.lconst 0, 2, 0, 0, .long 0) := by decide +kernel
theorem x_159_1 : Tr sc d 159 (1, [l0, l1, l2, l3, l4, l5, l6, l7, l8, l9, l10], [.long j0], h) Q = Tr sc d 159 (2, [l0, l1, l2, l3, l4, l5, l6, l7, l8, l9, l10], [.long 0, .long j0], h) Q := t_go k_159_1 rfl
theorem k_159_2 : lk 159 2 = some (.lcmp, 3, 0, 0, .null) := by decide +kernel
theorem x_159_2 : Tr sc d 159 (2, [l0, l1, l2, l3, l4, l5, l6, l7, l8, l9, l10], [.long j1, .long j0], h) Q = Tr sc d 159 (3, [l0, l1, l2, l3, l4, l5, l6, l7, l8, l9, l10], [.int (lg_cmp j0 j1)], h) Q := t_go k_159_2 rfl
theorem k_159_3 : lk 159 3 = some (.ifCond .ge 8, 6, 11, 0, .null) := by decide +kernel
theorem x_159_3 : Tr sc d 159 (3, [l0, l1, l2, l3, l4, l5, l6, l7, l8, l9, l10], [.int i0], h) Q = if 0 ≤ i0 then Tr sc d 159 (11, [l0, l1, l2, l3, l4, l5, l6, l7, l8, l9, l10], [], h) Q else Tr sc d 159 (6, [l0, l1, l2, l3, l4, l5, l6, l7, l8, l9, l10], [], h) Q := t_if k_159_3 rfl
theorem k_159_6 : lk 159 6 = some (.lload_n 1, 7, 1, 0, .null) := by decide +kernel
theorem x_159_6 : Tr sc d 159 (6, [l0, some (.long xl), l2, l3, l4, l5, l6, l7, l8, l9, l10], [], h) Q = Tr sc d 159 (7, [l0, some (.long xl), l2, l3, l4, l5, l6, l7, l8, l9, l10], [.long xl], h) Q := t_lload_n k_159_6 rfl
theorem k_159_7 : lk 159 7 = some (.lneg, 8, 0, 0, .null) := by decide +kernel
theorem x_159_7 : Tr sc d 159 (7, [l0, l1, l2, l3, l4, l5, l6, l7, l8, l9, l10], [.long j0], h) Q = Tr sc d 159 (8, [l0, l1, l2, l3, l4, l5, l6, l7, l8, l9, l10], [.long (-j0)], h) Q := t_go k_159_7 rfl
theorem k_159_8 : lk 159 8 = some (.goto 4, 11, 12, 0, .null) := by decide +kernel
theorem x_159_8 : Tr sc d 159 (8, [l0, l1, l2, l3, l4, l5, l6, l7, l8, l9, l10], [.long j0], h) Q = Tr sc d 159 (12, [l0, l1, l2, l3, l4, l5, l6, l7, l8, l9, l10], [.long j0], h) Q := t_go k_159_8 rfl
theorem k_159_11 : lk 159 11 = some (.lload_n 1, 12, 1, 0, .null) := by decide +kernel
theorem x_159_11 : Tr sc d 159 (11, [l0, some (.long xl), l2, l3, l4, l5, l6, l7, l8, l9, l10], [], h) Q = Tr sc d 159 (12, [l0, some (.long xl), l2, l3, l4, l5, l6, l7, l8, l9, l10], [.long xl], h) Q := t_lload_n k_159_11 rfl
theorem k_159_12 : lk 159 12 = some (.lstore 5, 14, 5, 0, .null) := by decide +kernel
theorem x_159_12 : Tr sc d 159 (12, [l0, l1, l2, l3, l4, l5, l6, l7, l8, l9, l10], [.long j0], h) Q = Tr sc d 159 (14, [l0, l1, l2, l3, cl2 l4, some (.long j0), none, l7, l8, l9, l10], [], h) Q := t_lstore k_159_12 (Nat.le_of_ble_eq_true rfl)
theorem k_159_14 : lk 159 14 = some (.lload_n 3, 15, 3, 0, .null) := by decide +kernel
theorem x_159_14 : Tr sc d 159 (14, [l0, l1, l2, some (.long xl), l4, l5, l6, l7, l8, l9, l10], [], h) Q = Tr sc d 159 (15, [l0, l1, l2, some (.long xl), l4, l5, l6, l7, l8, l9, l10], [.long xl], h) Q := t_lload_n k_159_14 rfl
theorem k_159_15 : lk 159 15 = some (.lconst 0, 16, 0, 0, .long 0) := by decide +kernel
theorem x_159_15 : Tr sc d 159 (15, [l0, l1, l2, l3, l4, l5, l6, l7, l8, l9, l10], [.long j0], h) Q = Tr sc d 159 (16, [l0, l1, l2, l3, l4, l5, l6, l7, l8, l9, l10], [.long 0, .long j0], h) Q := t_go k_159_15 rfl
theorem k_159_16 : lk 159 16 = some (.lcmp, 17, 0, 0, .null) := by decide +kernel
theorem x_159_16 : Tr sc d 159 (16, [l0, l1, l2, l3, l4, l5, l6, l7, l8, l9, l10], [.long j1, .long j0], h) Q = Tr sc d 159 (17, [l0, l1, l2, l3, l4, l5, l6, l7, l8, l9, l10], [.int (lg_cmp j0 j1)], h) Q := t_go k_159_16 rfl
theorem k_159_17 : lk 159 17 = some (.ifCond .ge 8, 20, 25, 0, .null) := by decide +kernel
theorem x_159_17 : Tr sc d 159 (17, [l0, l1, l2, l3, l4, l5, l6, l7, l8, l9, l10], [.int i0], h) Q = if 0 ≤ i0 then Tr sc d 159 (25, [l0, l1, l2, l3, l4, l5, l6, l7, l8, l9, l10], [], h) Q else Tr sc d 159 (20, [l0, l1, l2, l3, l4, l5, l6, l7, l8, l9, l10], [], h) Q := t_if k_159_17 rfl
theorem k_159_20 : lk 159 20 = some (.lload_n 3, 21, 3, 0, .null) := by decide +kernel
theorem x_159_20 : Tr sc d 159 (20, [l0, l1, l2, some (.long xl), l4, l5, l6, l7, l8, l9, l10], [], h) Q = Tr sc d 159 (21, [l0, l1, l2, some (.long xl), l4, l5, l6, l7, l8, l9, l10], [.long xl], h) Q := t_lload_n k_159_20 rfl
theorem k_159_21 : lk 159 21 = some (.lneg, 22, 0, 0, .null) := by decide +kernel
theorem x_159_21 : Tr sc d 159 (21, [l0, l1, l2, l3, l4, l5, l6, l7, l8, l9, l10], [.long j0], h) Q = Tr sc d 159 (22, [l0, l1, l2, l3, l4, l5, l6, l7, l8, l9, l10], [.long (-j0)], h) Q := t_go k_159_21 rfl
theorem k_159_22 : lk 159 22 = some (.goto 4, 25, 26, 0, .null) := by decide +kernel
theorem x_159_22 : Tr sc d 159 (22, [l0, l1, l2, l3, l4, l5, l6, l7, l8, l9, l10], [.long j0], h) Q = Tr sc d 159 (26, [l0, l1, l2, l3, l4, l5, l6, l7, l8, l9, l10], [.long j0], h) Q := t_go k_159_22 rfl
theorem k_159_25 : lk 159 25 = some (.lload_n 3, 26, 3, 0, .null) := by decide +kernel
theorem x_159_25 : Tr sc d 159 (25, [l0, l1, l2, some (.long xl), l4, l5, l6, l7, l8, l9, l10], [], h) Q = Tr sc d 159 (26, [l0, l1, l2, some (.long xl), l4, l5, l6, l7, l8, l9, l10], [.long xl], h) Q := t_lload_n k_159_25 rfl
theorem k_159_26 : lk 159 26 = some (.lstore 7, 28, 7, 0, .null) := by decide +kernel
theorem x_159_26 : Tr sc d 159 (26, [l0, l1, l2, l3, l4, l5, l6, l7, l8, l9, l10], [.long j0], h) Q = Tr sc d 159 (28, [l0, l1, l2, l3, l4, l5, cl2 l6, some (.long j0), none, l9, l10], [], h) Q := t_lstore k_159_26 (Nat.le_of_ble_eq_true rfl)
theorem k_159_28 : lk 159 28 = some (.lload 7, 30, 7, 0, .null) := by decide +kernel
theorem x_159_28 : Tr sc d 159 (28, [l0, l1, l2, l3, l4, l5, l6, some (.long xl), l8, l9, l10], [], h) Q = Tr sc d 159 (30, [l0, l1, l2, l3, l4, l5, l6, some (.long xl), l8, l9, l10], [.long xl], h) Q := t_lload k_159_28 rfl
theorem k_159_30 : lk 159 30 = some (.lconst 0, 31, 0, 0, .long 0) := by decide +kernel
theorem x_159_30 : Tr sc d 159 (30, [l0, l1, l2, l3, l4, l5, l6, l7, l8, l9, l10], [.long j0], h) Q = Tr sc d 159 (31, [l0, l1, l2, l3, l4, l5, l6, l7, l8, l9, l10], [.long 0, .long j0], h) Q := t_go k_159_30 rfl
theorem k_159_31 : lk 159 31 = some (.lcmp, 32, 0, 0, .null) := by decide +kernel
theorem x_159_31 : Tr sc d 159 (31, [l0, l1, l2, l3, l4, l5, l6, l7, l8, l9, l10], [.long j1, .long j0], h) Q = Tr sc d 159 (32, [l0, l1, l2, l3, l4, l5, l6, l7, l8, l9, l10], [.int (lg_cmp j0 j1)], h) Q := t_go k_159_31 rfl
theorem k_159_32 : lk 159 32 = some (.ifCond .eq 21, 35, 53, 0, .null) := by decide +kernel
theorem x_159_32 : Tr sc d 159 (32, [l0, l1, l2, l3, l4, l5, l6, l7, l8, l9, l10], [.int i0], h) Q = if i0 = 0 then Tr sc d 159 (53, [l0, l1, l2, l3, l4, l5, l6, l7, l8, l9, l10], [], h) Q else Tr sc d 159 (35, [l0, l1, l2, l3, l4, l5, l6, l7, l8, l9, l10], [], h) Q := t_if k_159_32 rfl
theorem k_159_35 : lk 159 35 = some (.lload 5, 37, 5, 0, .null) := by decide +kernel
theorem x_159_35 : Tr sc d 159 (35, [l0, l1, l2, l3, l4, some (.long xl), l6, l7, l8, l9, l10], [], h) Q = Tr sc d 159 (37, [l0, l1, l2, l3, l4, some (.long xl), l6, l7, l8, l9, l10], [.long xl], h) Q := t_lload k_159_35 rfl
theorem k_159_37 : lk 159 37 = some (.lload 7, 39, 7, 0, .null) := by decide +kernel
theorem x_159_37 : Tr sc d 159 (37, [l0, l1, l2, l3, l4, l5, l6, some (.long xl), l8, l9, l10], [.long j0], h) Q = Tr sc d 159 (39, [l0, l1, l2, l3, l4, l5, l6, some (.long xl), l8, l9, l10], [.long xl, .long j0], h) Q := t_lload k_159_37 rfl
theorem k_159_39 : lk 159 39 = some (.lrem, 40, 0, 0, .null) := by decide +kernel
theorem x_159_39 : Tr sc d 159 (39, [l0, l1, l2, l3, l4, l5, l6, l7, l8, l9, l10], [.long j1, .long j0], h) Q = (¬ j1 = 0 ∧ Tr sc d 159 (40, [l0, l1, l2, l3, l4, l5, l6, l7, l8, l9, l10], [.long (j0 - j0 / j1 * j1)], h) Q) := t_ng k_159_39 rfl
theorem k_159_40 : lk 159 40 = some (.lstore 9, 42, 9, 0, .null) := by decide +kernel
theorem x_159_40 : Tr sc d 159 (40, [l0, l1, l2, l3, l4, l5, l6, l7, l8, l9, l10], [.long j0], h) Q = Tr sc d 159 (42, [l0, l1, l2, l3, l4, l5, l6, l7, cl2 l8, some (.long j0), none], [], h) Q := t_lstore k_159_40 (Nat.le_of_ble_eq_true rfl)
theorem k_159_42 : lk 159 42 = some (.lload 7, 44, 7, 0, .null) := by decide +kernel
theorem x_159_42 : Tr sc d 159 (42, [l0, l1, l2, l3, l4, l5, l6, some (.long xl), l8, l9, l10], [], h) Q = Tr sc d 159 (44, [l0, l1, l2, l3, l4, l5, l6, some (.long xl), l8, l9, l10], [.long xl], h) Q := t_lload k_159_42 rfl
theorem k_159_44 : lk 159 44 = some (.lstore 5, 46, 5, 0, .null) := by decide +kernel
theorem x_159_44 : Tr sc d 159 (44, [l0, l1, l2, l3, l4, l5, l6, l7, l8, l9, l10], [.long j0], h) Q = Tr sc d 159 (46, [l0, l1, l2, l3, cl2 l4, some (.long j0), none, l7, l8, l9, l10], [], h) Q := t_lstore k_159_44 (Nat.le_of_ble_eq_true rfl)
theorem k_159_46 : lk 159 46 = some (.lload 9, 48, 9, 0, .null) := by decide +kernel
theorem x_159_46 : Tr sc d 159 (46, [l0, l1, l2, l3, l4, l5, l6, l7, l8, some (.long xl), l10], [], h) Q = Tr sc d 159 (48, [l0, l1, l2, l3, l4, l5, l6, l7, l8, some (.long xl), l10], [.long xl], h) Q := t_lload k_159_46 rfl
theorem k_159_48 : lk 159 48 = some (.lstore 7, 50, 7, 0, .null) := by decide +kernel
theorem x_159_48 : Tr sc d 159 (48, [l0, l1, l2, l3, l4, l5, l6, l7, l8, l9, l10], [.long j0], h) Q = Tr sc d 159 (50, [l0, l1, l2, l3, l4, l5, cl2 l6, some (.long j0), none, l9, l10], [], h) Q := t_lstore k_159_48 (Nat.le_of_ble_eq_true rfl)
theorem k_159_50 : lk 159 50 = some (.goto (-22), 53, 28, 0, .null) := by decide +kernel
theorem x_159_50 : Tr sc d 159 (50, [l0, l1, l2, l3, l4, l5, l6, l7, l8, l9, l10], [], h) Q = Tr sc d 159 (28, [l0, l1, l2, l3, l4, l5, l6, l7, l8, l9, l10], [], h) Q := t_go k_159_50 rfl
theorem k_159_53 : lk 159 53 = some (.lload_n 3, 54, 3, 0, .null) := by decide +kernel
theorem x_159_53 : Tr sc d 159 (53, [l0, l1, l2, some (.long xl), l4, l5, l6, l7, l8, l9, l10], [], h) Q = Tr sc d 159 (54, [l0, l1, l2, some (.long xl), l4, l5, l6, l7, l8, l9, l10], [.long xl], h) Q := t_lload_n k_159_53 rfl
theorem k_159_54 : lk 159 54 = some (.lconst 0, 55, 0, 0, .long 0) := by decide +kernel
theorem x_159_54 : Tr sc d 159 (54, [l0, l1, l2, l3, l4, l5, l6, l7, l8, l9, l10], [.long j0], h) Q = Tr sc d 159 (55, [l0, l1, l2, l3, l4, l5, l6, l7, l8, l9, l10], [.long 0, .long j0], h) Q := t_go k_159_54 rfl
theorem k_159_55 : lk 159 55 = some (.lcmp, 56, 0, 0, .null) := by decide +kernel
theorem x_159_55 : Tr sc d 159 (55, [l0, l1, l2, l3, l4, l5, l6, l7, l8, l9, l10], [.long j1, .long j0], h) Q = Tr sc d 159 (56, [l0, l1, l2, l3, l4, l5, l6, l7, l8, l9, l10], [.int (lg_cmp j0 j1)], h) Q := t_go k_159_55 rfl
theorem k_159_56 : lk 159 56 = some (.ifCond .ge 9, 59, 65, 0, .null) := by decide +kernel
theorem x_159_56 : Tr sc d 159 (56, [l0, l1, l2, l3, l4, l5, l6, l7, l8, l9, l10], [.int i0], h) Q = if 0 ≤ i0 then Tr sc d 159 (65, [l0, l1, l2, l3, l4, l5, l6, l7, l8, l9, l10], [], h) Q else Tr sc d 159 (59, [l0, l1, l2, l3, l4, l5, l6, l7, l8, l9, l10], [], h) Q := t_if k_159_56 rfl
theorem k_159_59 : lk 159 59 = some (.lload 5, 61, 5, 0, .null) := by decide +kernel
theorem x_159_59 : Tr sc d 159 (59, [l0, l1, l2, l3, l4, some (.long xl), l6, l7, l8, l9, l10], [], h) Q = Tr sc d 159 (61, [l0, l1, l2, l3, l4, some (.long xl), l6, l7, l8, l9, l10], [.long xl], h) Q := t_lload k_159_59 rfl
theorem k_159_61 : lk 159 61 = some (.lneg, 62, 0, 0, .null) := by decide +kernel
theorem x_159_61 : Tr sc d 159 (61, [l0, l1, l2, l3, l4, l5, l6, l7, l8, l9, l10], [.long j0], h) Q = Tr sc d 159 (62, [l0, l1, l2, l3, l4, l5, l6, l7, l8, l9, l10], [.long (-j0)], h) Q := t_go k_159_61 rfl
theorem k_159_62 : lk 159 62 = some (.goto 5, 65, 67, 0, .null) := by decide +kernel
theorem x_159_62 : Tr sc d 159 (62, [l0, l1, l2, l3, l4, l5, l6, l7, l8, l9, l10], [.long j0], h) Q = Tr sc d 159 (67, [l0, l1, l2, l3, l4, l5, l6, l7, l8, l9, l10], [.long j0], h) Q := t_go k_159_62 rfl
theorem k_159_65 : lk 159 65 = some (.lload 5, 67, 5, 0, .null) := by decide +kernel
theorem x_159_65 : Tr sc d 159 (65, [l0, l1, l2, l3, l4, some (.long xl), l6, l7, l8, l9, l10], [], h) Q = Tr sc d 159 (67, [l0, l1, l2, l3, l4, some (.long xl), l6, l7, l8, l9, l10], [.long xl], h) Q := t_lload k_159_65 rfl
theorem k_159_67 : lk 159 67 = some (.lstore 9, 69, 9, 0, .null) := by decide +kernel
theorem x_159_67 : Tr sc d 159 (67, [l0, l1, l2, l3, l4, l5, l6, l7, l8, l9, l10], [.long j0], h) Q = Tr sc d 159 (69, [l0, l1, l2, l3, l4, l5, l6, l7, cl2 l8, some (.long j0), none], [], h) Q := t_lstore k_159_67 (Nat.le_of_ble_eq_true rfl)
theorem k_159_69 : lk 159 69 = some (.aload_n 0, 70, 0, 0, .null) := by decide +kernel
theorem x_159_69 : Tr sc d 159 (69, [some (.ref xk), l1, l2, l3, l4, l5, l6, l7, l8, l9, l10], [], h) Q = Tr sc d 159 (70, [some (.ref xk), l1, l2, l3, l4, l5, l6, l7, l8, l9, l10], [.ref xk], h) Q := t_aload_n k_159_69 rfl
theorem k_159_70 : lk 159 70 = some (.lload_n 1, 71, 1, 0, .null) := by decide +kernel
theorem x_159_70 : Tr sc d 159 (70, [l0, some (.long xl), l2, l3, l4, l5, l6, l7, l8, l9, l10], [.ref k0], h) Q = Tr sc d 159 (71, [l0, some (.long xl), l2, l3, l4, l5, l6, l7, l8, l9, l10], [.long xl, .ref k0], h) Q := t_lload_n k_159_70 rfl
theorem k_159_71 : lk 159 71 = some (.lload 9, 73, 9, 0, .null) := by decide +kernel
theorem x_159_71 : Tr sc d 159 (71, [l0, l1, l2, l3, l4, l5, l6, l7, l8, some (.long xl), l10], [.long j1, .ref k0], h) Q = Tr sc d 159 (73, [l0, l1, l2, l3, l4, l5, l6, l7, l8, some (.long xl), l10], [.long xl, .long j1, .ref k0], h) Q := t_lload k_159_71 rfl
theorem k_159_73 : lk 159 73 = some (.ldiv, 74, 0, 0, .null) := by decide +kernel
theorem x_159_73 : Tr sc d 159 (73, [l0, l1, l2, l3, l4, l5, l6, l7, l8, l9, l10], [.long j2, .long j1, .ref k0], h) Q = (¬ j2 = 0 ∧ Tr sc d 159 (74, [l0, l1, l2, l3, l4, l5, l6, l7, l8, l9, l10], [.long (j1 / j2), .ref k0], h) Q) := t_ng k_159_73 rfl
theorem k_159_74 : lk 159 74 = some (.putfield 141, 77, 10, 4, .long 0) := by decide +kernel
theorem x_159_74 : Tr sc d 159 (74, [l0, l1, l2, l3, l4, l5, l6, l7, l8, l9, l10], [.long j1, .ref k0], h) Q = (okp h k0 10 = true ∧ Tr sc d 159 (77, [l0, l1, l2, l3, l4, l5, l6, l7, l8, l9, l10], [], (sL h k0 4 j1)) Q) := t_gd k_159_74 rfl
theorem k_159_77 : lk 159 77 = some (.aload_n 0, 78, 0, 0, .null) := by decide +kernel
theorem x_159_77 : Tr sc d 159 (77, [some (.ref xk), l1, l2, l3, l4, l5, l6, l7, l8, l9, l10], [], h) Q = Tr sc d 159 (78, [some (.ref xk), l1, l2, l3, l4, l5, l6, l7, l8, l9, l10], [.ref xk], h) Q := t_aload_n k_159_77 rfl
theorem k_159_78 : lk 159 78 = some (.lload_n 3, 79, 3, 0, .null) := by decide +kernel
theorem x_159_78 : Tr sc d 159 (78, [l0, l1, l2, some (.long xl), l4, l5, l6, l7, l8, l9, l10], [.ref k0], h) Q = Tr sc d 159 (79, [l0, l1, l2, some (.long xl), l4, l5, l6, l7, l8, l9, l10], [.long xl, .ref k0], h) Q := t_lload_n k_159_78 rfl
theorem k_159_79 : lk 159 79 = some (.lload 9, 81, 9, 0, .null) := by decide +kernel
theorem x_159_79 : Tr sc d 159 (79, [l0, l1, l2, l3, l4, l5, l6, l7, l8, some (.long xl), l10], [.long j1, .ref k0], h) Q = Tr sc d 159 (81, [l0, l1, l2, l3, l4, l5, l6, l7, l8, some (.long xl), l10], [.long xl, .long j1, .ref k0], h) Q := t_lload k_159_79 rfl
theorem k_159_81 : lk 159 81 = some (.ldiv, 82, 0, 0, .null) := by decide +kernel
theorem x_159_81 : Tr sc d 159 (81, [l0, l1, l2, l3, l4, l5, l6, l7, l8, l9, l10], [.long j2, .long j1, .ref k0], h) Q = (¬ j2 = 0 ∧ Tr sc d 159 (82, [l0, l1, l2, l3, l4, l5, l6, l7, l8, l9, l10], [.long (j1 / j2), .ref k0], h) Q) := t_ng k_159_81 rfl
theorem k_159_82 : lk 159 82 = some (.putfield 13, 85, 10, 5, .long 0) := by decide +kernel
theorem x_159_82 : Tr sc d 159 (82, [l0, l1, l2, l3, l4, l5, l6, l7, l8, l9, l10], [.long j1, .ref k0], h) Q = (okp h k0 10 = true ∧ Tr sc d 159 (85, [l0, l1, l2, l3, l4, l5, l6, l7, l8, l9, l10], [], (sL h k0 5 j1)) Q) := t_gd k_159_82 rfl
theorem k_159_85 : lk 159 85 = some (.iconst 1, 86, 0, 0, .int 1) := by decide +kernel
theorem x_159_85 : Tr sc d 159 (85, [l0, l1, l2, l3, l4, l5, l6, l7, l8, l9, l10], [], h) Q = Tr sc d 159 (86, [l0, l1, l2, l3, l4, l5, l6, l7, l8, l9, l10], [.int 1], h) Q := t_go k_159_85 rfl
theorem k_159_86 : lk 159 86 = some (.ireturn, 87, 0, 0, .null) := by decide +kernel
theorem x_159_86 : Tr sc d 159 (86, [l0, l1, l2, l3, l4, l5, l6, l7, l8, l9, l10], [.int i0], h) Q = Q (some (.int i0), h) := t_ret k_159_86 (by rw [r_159]; rfl)
theorem e_159 : Tr sc d 159 (ent0 159 [.ref k0, .long j1, .long j2] h) Q = Tr sc d 159 (0, [some (.ref k0), some (.long j1), none, some (.long j2), none, none, none, none, none, none, none], [], h) Q := by
  have e : mL 159 = 11 := by decide +kernel
  unfold ent0
  rw [e]
  rfl
theorem r_160 : mR 160 = some .boolean := by decide +kernel
theorem k_160_0 : lk 160 0 = some (.iload_n 0, 1, 0, 0, .null) := by decide +kernel
theorem x_160_0 : Tr sc d 160 (0, [some (.int x)], [], h) Q = Tr sc d 160 (1, [some (.int x)], [.int x], h) Q := t_iload_n k_160_0 rfl
theorem k_160_1 : lk 160 1 = some (.iconst 0, 2, 0, 0, .int 0) := by decide +kernel
theorem x_160_1 : Tr sc d 160 (1, [l0], [.int i0], h) Q = Tr sc d 160 (2, [l0], [.int 0, .int i0], h) Q := t_go k_160_1 rfl
theorem k_160_2 : lk 160 2 = some (.iconst 5, 3, 0, 0, .int 5) := by decide +kernel
theorem x_160_2 : Tr sc d 160 (2, [l0], [.int i1, .int i0], h) Q = Tr sc d 160 (3, [l0], [.int 5, .int i1, .int i0], h) Q := t_go k_160_2 rfl
theorem k_160_3 : lk 160 3 = some (.invokestatic 144, 6, 156, 3, .null) := by decide +kernel
theorem x_160_3 : Tr sc (d + 1) 160 (3, [l0], [.int i2, .int i1, .int i0], h) Q = Tr sc d 156 (ent0 156 [.int i0, .int i1, .int i2] h) (fun z => Tr sc (d + 1) 160 (6, [l0], z.1.toList ++ [], z.2) Q) := t_cs (as := [.int i0, .int i1, .int i2]) (r := []) k_160_3 (by decide) rfl rfl (Nat.le_of_ble_eq_true rfl) (Nat.le_of_ble_eq_true rfl)
theorem k_160_6 : lk 160 6 = some (.ireturn, 7, 0, 0, .null) := by decide +kernel
theorem x_160_6 : Tr sc d 160 (6, [l0], [.int i0], h) Q = (vp_nar .boolean i0 = i0 ∧ Q (some (.int i0), h)) := t_zret k_160_6 r_160
theorem e_160 : Tr sc d 160 (ent0 160 [.int i0] h) Q = Tr sc d 160 (0, [some (.int i0)], [], h) Q := by
  have e : mL 160 = 1 := by decide +kernel
  unfold ent0
  rw [e]
  rfl
theorem r_161 : mR 161 = some .boolean := by decide +kernel
theorem k_161_0 : lk 161 0 = some (.iload_n 0, 1, 0, 0, .null) := by decide +kernel
theorem x_161_0 : Tr sc d 161 (0, [some (.int x)], [], h) Q = Tr sc d 161 (1, [some (.int x)], [.int x], h) Q := t_iload_n k_161_0 rfl
theorem k_161_1 : lk 161 1 = some (.iconst 0, 2, 0, 0, .int 0) := by decide +kernel
theorem x_161_1 : Tr sc d 161 (1, [l0], [.int i0], h) Q = Tr sc d 161 (2, [l0], [.int 0, .int i0], h) Q := t_go k_161_1 rfl
theorem k_161_2 : lk 161 2 = some (.iconst 3, 3, 0, 0, .int 3) := by decide +kernel
theorem x_161_2 : Tr sc d 161 (2, [l0], [.int i1, .int i0], h) Q = Tr sc d 161 (3, [l0], [.int 3, .int i1, .int i0], h) Q := t_go k_161_2 rfl
theorem k_161_3 : lk 161 3 = some (.invokestatic 144, 6, 156, 3, .null) := by decide +kernel
theorem x_161_3 : Tr sc (d + 1) 161 (3, [l0], [.int i2, .int i1, .int i0], h) Q = Tr sc d 156 (ent0 156 [.int i0, .int i1, .int i2] h) (fun z => Tr sc (d + 1) 161 (6, [l0], z.1.toList ++ [], z.2) Q) := t_cs (as := [.int i0, .int i1, .int i2]) (r := []) k_161_3 (by decide) rfl rfl (Nat.le_of_ble_eq_true rfl) (Nat.le_of_ble_eq_true rfl)
theorem k_161_6 : lk 161 6 = some (.ireturn, 7, 0, 0, .null) := by decide +kernel
theorem x_161_6 : Tr sc d 161 (6, [l0], [.int i0], h) Q = (vp_nar .boolean i0 = i0 ∧ Q (some (.int i0), h)) := t_zret k_161_6 r_161
theorem e_161 : Tr sc d 161 (ent0 161 [.int i0] h) Q = Tr sc d 161 (0, [some (.int i0)], [], h) Q := by
  have e : mL 161 = 1 := by decide +kernel
  unfold ent0
  rw [e]
  rfl
theorem r_162 : mR 162 = some .int := by decide +kernel
theorem k_162_0 : lk 162 0 = some (.iload_n 1, 1, 1, 0, .null) := by decide +kernel
theorem x_162_0 : Tr sc d 162 (0, [l0, some (.int x)], [], h) Q = Tr sc d 162 (1, [l0, some (.int x)], [.int x], h) Q := t_iload_n k_162_0 rfl
theorem k_162_1 : lk 162 1 = some (.invokestatic 148, 4, 160, 1, .null) := by decide +kernel
theorem x_162_1 : Tr sc (d + 1) 162 (1, [l0, l1], [.int i0], h) Q = Tr sc d 160 (ent0 160 [.int i0] h) (fun z => Tr sc (d + 1) 162 (4, [l0, l1], z.1.toList ++ [], z.2) Q) := t_cs (as := [.int i0]) (r := []) k_162_1 (by decide) rfl rfl (Nat.le_of_ble_eq_true rfl) (Nat.le_of_ble_eq_true rfl)
theorem k_162_4 : lk 162 4 = some (.ifCond .ne 7, 7, 11, 0, .null) := by decide +kernel
theorem x_162_4 : Tr sc d 162 (4, [l0, l1], [.int i0], h) Q = if i0 = 0 then Tr sc d 162 (7, [l0, l1], [], h) Q else Tr sc d 162 (11, [l0, l1], [], h) Q := t_if k_162_4 rfl
theorem k_162_7 : lk 162 7 = some (.iconst (-1), 8, 0, 0, .int (-1)) := by decide +kernel
theorem x_162_7 : Tr sc d 162 (7, [l0, l1], [], h) Q = Tr sc d 162 (8, [l0, l1], [.int (-1)], h) Q := t_go k_162_7 rfl
theorem k_162_8 : lk 162 8 = some (.goto 21, 11, 29, 0, .null) := by decide +kernel
theorem x_162_8 : Tr sc d 162 (8, [l0, l1], [.int i0], h) Q = Tr sc d 162 (29, [l0, l1], [.int i0], h) Q := t_go k_162_8 rfl
theorem k_162_11 : lk 162 11 = some (.aload_n 0, 12, 0, 0, .null) := by decide +kernel
theorem x_162_11 : Tr sc d 162 (11, [some (.ref xk), l1], [], h) Q = Tr sc d 162 (12, [some (.ref xk), l1], [.ref xk], h) Q := t_aload_n k_162_11 rfl
theorem k_162_12 : lk 162 12 = some (.getfield 17, 15, 10, 6, .null) := by decide +kernel
theorem x_162_12 : Tr sc d 162 (12, [l0, l1], [.ref k0], h) Q = (okp h k0 10 = true ∧ ∃ q, hR h k0 6 = some q ∧ Tr sc d 162 (15, [l0, l1], [.ref q], h) Q) := t_getr k_162_12
theorem k_162_15 : lk 162 15 = some (.iload_n 1, 16, 1, 0, .null) := by decide +kernel
theorem x_162_15 : Tr sc d 162 (15, [l0, some (.int x)], [.ref k0], h) Q = Tr sc d 162 (16, [l0, some (.int x)], [.int x, .ref k0], h) Q := t_iload_n k_162_15 rfl
theorem k_162_16 : lk 162 16 = some (.iaload, 17, 0, 0, .null) := by decide +kernel
theorem x_162_16 : Tr sc d 162 (16, [l0, l1], [.int i1, .ref k0], h) Q = (iOk sc h k0 i1 ∧ Tr sc d 162 (17, [l0, l1], [.int (iRd sc h k0 i1)], h) Q) := t_iald k_162_16
theorem k_162_17 : lk 162 17 = some (.ifCond .ge 11, 20, 28, 0, .null) := by decide +kernel
theorem x_162_17 : Tr sc d 162 (17, [l0, l1], [.int i0], h) Q = if 0 ≤ i0 then Tr sc d 162 (28, [l0, l1], [], h) Q else Tr sc d 162 (20, [l0, l1], [], h) Q := t_if k_162_17 rfl
theorem k_162_20 : lk 162 20 = some (.aload_n 0, 21, 0, 0, .null) := by decide +kernel
theorem x_162_20 : Tr sc d 162 (20, [some (.ref xk), l1], [], h) Q = Tr sc d 162 (21, [some (.ref xk), l1], [.ref xk], h) Q := t_aload_n k_162_20 rfl
theorem k_162_21 : lk 162 21 = some (.iconst 1, 22, 0, 0, .int 1) := by decide +kernel
theorem x_162_21 : Tr sc d 162 (21, [l0, l1], [.ref k0], h) Q = Tr sc d 162 (22, [l0, l1], [.int 1, .ref k0], h) Q := t_go k_162_21 rfl
theorem k_162_22 : lk 162 22 = some (.invokevirtual 152, 25, 157, 1, .null) := by decide +kernel
theorem x_162_22 : Tr sc (d + 1) 162 (22, [l0, l1], [.int i1, .ref k0], h) Q = (okp h k0 10 = true ∧ Tr sc d 157 (ent0 157 [.ref k0, .int i1] h) (fun z => Tr sc (d + 1) 162 (25, [l0, l1], z.1.toList ++ [], z.2) Q)) := t_cv (as := [.int i1]) (r := []) k_162_22 rfl rfl (Nat.le_of_ble_eq_true rfl) (Nat.le_of_ble_eq_true rfl) (Nat.le_of_ble_eq_true rfl)
theorem k_162_25 : lk 162 25 = some (.goto 4, 28, 29, 0, .null) := by decide +kernel
theorem x_162_25 : Tr sc d 162 (25, [l0, l1], [.int i0], h) Q = Tr sc d 162 (29, [l0, l1], [.int i0], h) Q := t_go k_162_25 rfl
theorem k_162_28 : lk 162 28 = some (.iconst 0, 29, 0, 0, .int 0) := by decide +kernel
theorem x_162_28 : Tr sc d 162 (28, [l0, l1], [], h) Q = Tr sc d 162 (29, [l0, l1], [.int 0], h) Q := t_go k_162_28 rfl
theorem k_162_29 : lk 162 29 = some (.ireturn, 30, 0, 0, .null) := by decide +kernel
theorem x_162_29 : Tr sc d 162 (29, [l0, l1], [.int i0], h) Q = Q (some (.int i0), h) := t_ret k_162_29 (by rw [r_162]; rfl)
theorem e_162 : Tr sc d 162 (ent0 162 [.ref k0, .int i1] h) Q = Tr sc d 162 (0, [some (.ref k0), some (.int i1)], [], h) Q := by
  have e : mL 162 = 2 := by decide +kernel
  unfold ent0
  rw [e]
  rfl
theorem r_163 : mR 163 = some .int := by decide +kernel
theorem k_163_0 : lk 163 0 = some (.iload_n 1, 1, 1, 0, .null) := by decide +kernel
theorem x_163_0 : Tr sc d 163 (0, [l0, some (.int x)], [], h) Q = Tr sc d 163 (1, [l0, some (.int x)], [.int x], h) Q := t_iload_n k_163_0 rfl
theorem k_163_1 : lk 163 1 = some (.invokestatic 156, 4, 161, 1, .null) := by decide +kernel
theorem x_163_1 : Tr sc (d + 1) 163 (1, [l0, l1], [.int i0], h) Q = Tr sc d 161 (ent0 161 [.int i0] h) (fun z => Tr sc (d + 1) 163 (4, [l0, l1], z.1.toList ++ [], z.2) Q) := t_cs (as := [.int i0]) (r := []) k_163_1 (by decide) rfl rfl (Nat.le_of_ble_eq_true rfl) (Nat.le_of_ble_eq_true rfl)
theorem k_163_4 : lk 163 4 = some (.ifCond .ne 7, 7, 11, 0, .null) := by decide +kernel
theorem x_163_4 : Tr sc d 163 (4, [l0, l1], [.int i0], h) Q = if i0 = 0 then Tr sc d 163 (7, [l0, l1], [], h) Q else Tr sc d 163 (11, [l0, l1], [], h) Q := t_if k_163_4 rfl
theorem k_163_7 : lk 163 7 = some (.iconst (-1), 8, 0, 0, .int (-1)) := by decide +kernel
theorem x_163_7 : Tr sc d 163 (7, [l0, l1], [], h) Q = Tr sc d 163 (8, [l0, l1], [.int (-1)], h) Q := t_go k_163_7 rfl
theorem k_163_8 : lk 163 8 = some (.goto 21, 11, 29, 0, .null) := by decide +kernel
theorem x_163_8 : Tr sc d 163 (8, [l0, l1], [.int i0], h) Q = Tr sc d 163 (29, [l0, l1], [.int i0], h) Q := t_go k_163_8 rfl
theorem k_163_11 : lk 163 11 = some (.aload_n 0, 12, 0, 0, .null) := by decide +kernel
theorem x_163_11 : Tr sc d 163 (11, [some (.ref xk), l1], [], h) Q = Tr sc d 163 (12, [some (.ref xk), l1], [.ref xk], h) Q := t_aload_n k_163_11 rfl
theorem k_163_12 : lk 163 12 = some (.getfield 26, 15, 10, 9, .null) := by decide +kernel
theorem x_163_12 : Tr sc d 163 (12, [l0, l1], [.ref k0], h) Q = (okp h k0 10 = true ∧ ∃ q, hR h k0 9 = some q ∧ Tr sc d 163 (15, [l0, l1], [.ref q], h) Q) := t_getr k_163_12
theorem k_163_15 : lk 163 15 = some (.iload_n 1, 16, 1, 0, .null) := by decide +kernel
theorem x_163_15 : Tr sc d 163 (15, [l0, some (.int x)], [.ref k0], h) Q = Tr sc d 163 (16, [l0, some (.int x)], [.int x, .ref k0], h) Q := t_iload_n k_163_15 rfl
theorem k_163_16 : lk 163 16 = some (.iaload, 17, 0, 0, .null) := by decide +kernel
theorem x_163_16 : Tr sc d 163 (16, [l0, l1], [.int i1, .ref k0], h) Q = (iOk sc h k0 i1 ∧ Tr sc d 163 (17, [l0, l1], [.int (iRd sc h k0 i1)], h) Q) := t_iald k_163_16
theorem k_163_17 : lk 163 17 = some (.ifCond .ge 11, 20, 28, 0, .null) := by decide +kernel
theorem x_163_17 : Tr sc d 163 (17, [l0, l1], [.int i0], h) Q = if 0 ≤ i0 then Tr sc d 163 (28, [l0, l1], [], h) Q else Tr sc d 163 (20, [l0, l1], [], h) Q := t_if k_163_17 rfl
theorem k_163_20 : lk 163 20 = some (.aload_n 0, 21, 0, 0, .null) := by decide +kernel
theorem x_163_20 : Tr sc d 163 (20, [some (.ref xk), l1], [], h) Q = Tr sc d 163 (21, [some (.ref xk), l1], [.ref xk], h) Q := t_aload_n k_163_20 rfl
theorem k_163_21 : lk 163 21 = some (.iconst 1, 22, 0, 0, .int 1) := by decide +kernel
theorem x_163_21 : Tr sc d 163 (21, [l0, l1], [.ref k0], h) Q = Tr sc d 163 (22, [l0, l1], [.int 1, .ref k0], h) Q := t_go k_163_21 rfl
theorem k_163_22 : lk 163 22 = some (.invokevirtual 152, 25, 157, 1, .null) := by decide +kernel
theorem x_163_22 : Tr sc (d + 1) 163 (22, [l0, l1], [.int i1, .ref k0], h) Q = (okp h k0 10 = true ∧ Tr sc d 157 (ent0 157 [.ref k0, .int i1] h) (fun z => Tr sc (d + 1) 163 (25, [l0, l1], z.1.toList ++ [], z.2) Q)) := t_cv (as := [.int i1]) (r := []) k_163_22 rfl rfl (Nat.le_of_ble_eq_true rfl) (Nat.le_of_ble_eq_true rfl) (Nat.le_of_ble_eq_true rfl)
theorem k_163_25 : lk 163 25 = some (.goto 4, 28, 29, 0, .null) := by decide +kernel
theorem x_163_25 : Tr sc d 163 (25, [l0, l1], [.int i0], h) Q = Tr sc d 163 (29, [l0, l1], [.int i0], h) Q := t_go k_163_25 rfl
theorem k_163_28 : lk 163 28 = some (.iconst 0, 29, 0, 0, .int 0) := by decide +kernel
theorem x_163_28 : Tr sc d 163 (28, [l0, l1], [], h) Q = Tr sc d 163 (29, [l0, l1], [.int 0], h) Q := t_go k_163_28 rfl
theorem k_163_29 : lk 163 29 = some (.ireturn, 30, 0, 0, .null) := by decide +kernel
theorem x_163_29 : Tr sc d 163 (29, [l0, l1], [.int i0], h) Q = Q (some (.int i0), h) := t_ret k_163_29 (by rw [r_163]; rfl)
theorem e_163 : Tr sc d 163 (ent0 163 [.ref k0, .int i1] h) Q = Tr sc d 163 (0, [some (.ref k0), some (.int i1)], [], h) Q := by
  have e : mL 163 = 2 := by decide +kernel
  unfold ent0
  rw [e]
  rfl
theorem r_164 : mR 164 = some .int := by decide +kernel
theorem k_164_0 : lk 164 0 = some (.iload_n 1, 1, 1, 0, .null) := by decide +kernel
theorem x_164_0 : Tr sc d 164 (0, [l0, some (.int x), l2, l3], [], h) Q = Tr sc d 164 (1, [l0, some (.int x), l2, l3], [.int x], h) Q := t_iload_n k_164_0 rfl
theorem k_164_1 : lk 164 1 = some (.invokestatic 148, 4, 160, 1, .null) := by decide +kernel
theorem x_164_1 : Tr sc (d + 1) 164 (1, [l0, l1, l2, l3], [.int i0], h) Q = Tr sc d 160 (ent0 160 [.int i0] h) (fun z => Tr sc (d + 1) 164 (4, [l0, l1, l2, l3], z.1.toList ++ [], z.2) Q) := t_cs (as := [.int i0]) (r := []) k_164_1 (by decide) rfl rfl (Nat.le_of_ble_eq_true rfl) (Nat.le_of_ble_eq_true rfl)
theorem k_164_4 : lk 164 4 = some (.ifCond .eq 9, 7, 13, 0, .null) := by decide +kernel
theorem x_164_4 : Tr sc d 164 (4, [l0, l1, l2, l3], [.int i0], h) Q = if i0 = 0 then Tr sc d 164 (13, [l0, l1, l2, l3], [], h) Q else Tr sc d 164 (7, [l0, l1, l2, l3], [], h) Q := t_if k_164_4 rfl
theorem k_164_7 : lk 164 7 = some (.iload_n 2, 8, 2, 0, .null) := by decide +kernel
theorem x_164_7 : Tr sc d 164 (7, [l0, l1, some (.int x), l3], [], h) Q = Tr sc d 164 (8, [l0, l1, some (.int x), l3], [.int x], h) Q := t_iload_n k_164_7 rfl
theorem k_164_8 : lk 164 8 = some (.bipush 40, 10, 0, 0, .int 40) := by decide +kernel
theorem x_164_8 : Tr sc d 164 (8, [l0, l1, l2, l3], [.int i0], h) Q = Tr sc d 164 (10, [l0, l1, l2, l3], [.int 40, .int i0], h) Q := t_go k_164_8 rfl
theorem k_164_10 : lk 164 10 = some (.if_icmp .le 5, 13, 15, 0, .null) := by decide +kernel
theorem x_164_10 : Tr sc d 164 (10, [l0, l1, l2, l3], [.int i1, .int i0], h) Q = if i0 ≤ i1 then Tr sc d 164 (15, [l0, l1, l2, l3], [], h) Q else Tr sc d 164 (13, [l0, l1, l2, l3], [], h) Q := t_if k_164_10 rfl
theorem k_164_13 : lk 164 13 = some (.iconst (-1), 14, 0, 0, .int (-1)) := by decide +kernel
theorem x_164_13 : Tr sc d 164 (13, [l0, l1, l2, l3], [], h) Q = Tr sc d 164 (14, [l0, l1, l2, l3], [.int (-1)], h) Q := t_go k_164_13 rfl
theorem k_164_14 : lk 164 14 = some (.ireturn, 15, 0, 0, .null) := by decide +kernel
theorem x_164_14 : Tr sc d 164 (14, [l0, l1, l2, l3], [.int i0], h) Q = Q (some (.int i0), h) := t_ret k_164_14 (by rw [r_164]; rfl)
theorem k_164_15 : lk 164 15 = some (.iload_n 2, 16, 2, 0, .null) := by decide +kernel
theorem x_164_15 : Tr sc d 164 (15, [l0, l1, some (.int x), l3], [], h) Q = Tr sc d 164 (16, [l0, l1, some (.int x), l3], [.int x], h) Q := t_iload_n k_164_15 rfl
theorem k_164_16 : lk 164 16 = some (.ifCond .ge 9, 19, 25, 0, .null) := by decide +kernel
theorem x_164_16 : Tr sc d 164 (16, [l0, l1, l2, l3], [.int i0], h) Q = if 0 ≤ i0 then Tr sc d 164 (25, [l0, l1, l2, l3], [], h) Q else Tr sc d 164 (19, [l0, l1, l2, l3], [], h) Q := t_if k_164_16 rfl
theorem k_164_19 : lk 164 19 = some (.aload_n 0, 20, 0, 0, .null) := by decide +kernel
theorem x_164_19 : Tr sc d 164 (19, [some (.ref xk), l1, l2, l3], [], h) Q = Tr sc d 164 (20, [some (.ref xk), l1, l2, l3], [.ref xk], h) Q := t_aload_n k_164_19 rfl
theorem k_164_20 : lk 164 20 = some (.iconst 5, 21, 0, 0, .int 5) := by decide +kernel
theorem x_164_20 : Tr sc d 164 (20, [l0, l1, l2, l3], [.ref k0], h) Q = Tr sc d 164 (21, [l0, l1, l2, l3], [.int 5, .ref k0], h) Q := t_go k_164_20 rfl
theorem k_164_21 : lk 164 21 = some (.invokevirtual 152, 24, 157, 1, .null) := by decide +kernel
theorem x_164_21 : Tr sc (d + 1) 164 (21, [l0, l1, l2, l3], [.int i1, .ref k0], h) Q = (okp h k0 10 = true ∧ Tr sc d 157 (ent0 157 [.ref k0, .int i1] h) (fun z => Tr sc (d + 1) 164 (24, [l0, l1, l2, l3], z.1.toList ++ [], z.2) Q)) := t_cv (as := [.int i1]) (r := []) k_164_21 rfl rfl (Nat.le_of_ble_eq_true rfl) (Nat.le_of_ble_eq_true rfl) (Nat.le_of_ble_eq_true rfl)
theorem k_164_24 : lk 164 24 = some (.ireturn, 25, 0, 0, .null) := by decide +kernel
theorem x_164_24 : Tr sc d 164 (24, [l0, l1, l2, l3], [.int i0], h) Q = Q (some (.int i0), h) := t_ret k_164_24 (by rw [r_164]; rfl)
theorem k_164_25 : lk 164 25 = some (.aload_n 0, 26, 0, 0, .null) := by decide +kernel
theorem x_164_25 : Tr sc d 164 (25, [some (.ref xk), l1, l2, l3], [], h) Q = Tr sc d 164 (26, [some (.ref xk), l1, l2, l3], [.ref xk], h) Q := t_aload_n k_164_25 rfl
theorem k_164_26 : lk 164 26 = some (.getfield 17, 29, 10, 6, .null) := by decide +kernel
theorem x_164_26 : Tr sc d 164 (26, [l0, l1, l2, l3], [.ref k0], h) Q = (okp h k0 10 = true ∧ ∃ q, hR h k0 6 = some q ∧ Tr sc d 164 (29, [l0, l1, l2, l3], [.ref q], h) Q) := t_getr k_164_26
theorem k_164_29 : lk 164 29 = some (.iload_n 1, 30, 1, 0, .null) := by decide +kernel
theorem x_164_29 : Tr sc d 164 (29, [l0, some (.int x), l2, l3], [.ref k0], h) Q = Tr sc d 164 (30, [l0, some (.int x), l2, l3], [.int x, .ref k0], h) Q := t_iload_n k_164_29 rfl
theorem k_164_30 : lk 164 30 = some (.iload_n 2, 31, 2, 0, .null) := by decide +kernel
theorem x_164_30 : Tr sc d 164 (30, [l0, l1, some (.int x), l3], [.int i1, .ref k0], h) Q = Tr sc d 164 (31, [l0, l1, some (.int x), l3], [.int x, .int i1, .ref k0], h) Q := t_iload_n k_164_30 rfl
theorem k_164_31 : lk 164 31 = some (.iastore, 32, 0, 0, .null) := by decide +kernel
theorem x_164_31 : Tr sc d 164 (31, [l0, l1, l2, l3], [.int i2, .int i1, .ref k0], h) Q = ((okp h k0 11 && inb i1 (LN k0)) = true ∧ Tr sc d 164 (32, [l0, l1, l2, l3], [], (sI h k0 i1.toNatClampNeg i2)) Q) := t_gd k_164_31 rfl
theorem k_164_32 : lk 164 32 = some (.iconst 0, 33, 0, 0, .int 0) := by decide +kernel
theorem x_164_32 : Tr sc d 164 (32, [l0, l1, l2, l3], [], h) Q = Tr sc d 164 (33, [l0, l1, l2, l3], [.int 0], h) Q := t_go k_164_32 rfl
theorem k_164_33 : lk 164 33 = some (.istore_n 3, 34, 3, 0, .null) := by decide +kernel
theorem x_164_33 : Tr sc d 164 (33, [l0, l1, l2, l3], [.int i0], h) Q = Tr sc d 164 (34, [l0, l1, cl2 l2, some (.int i0)], [], h) Q := t_istore_n k_164_33 (Nat.le_of_ble_eq_true rfl)
theorem k_164_34 : lk 164 34 = some (.iload_n 3, 35, 3, 0, .null) := by decide +kernel
theorem x_164_34 : Tr sc d 164 (34, [l0, l1, l2, some (.int x)], [], h) Q = Tr sc d 164 (35, [l0, l1, l2, some (.int x)], [.int x], h) Q := t_iload_n k_164_34 rfl
theorem k_164_35 : lk 164 35 = some (.bipush 40, 37, 0, 0, .int 40) := by decide +kernel
theorem x_164_35 : Tr sc d 164 (35, [l0, l1, l2, l3], [.int i0], h) Q = Tr sc d 164 (37, [l0, l1, l2, l3], [.int 40, .int i0], h) Q := t_go k_164_35 rfl
theorem k_164_37 : lk 164 37 = some (.if_icmp .ge 21, 40, 58, 0, .null) := by decide +kernel
theorem x_164_37 : Tr sc d 164 (37, [l0, l1, l2, l3], [.int i1, .int i0], h) Q = if i1 ≤ i0 then Tr sc d 164 (58, [l0, l1, l2, l3], [], h) Q else Tr sc d 164 (40, [l0, l1, l2, l3], [], h) Q := t_if k_164_37 rfl
theorem k_164_40 : lk 164 40 = some (.aload_n 0, 41, 0, 0, .null) := by decide +kernel
theorem x_164_40 : Tr sc d 164 (40, [some (.ref xk), l1, l2, l3], [], h) Q = Tr sc d 164 (41, [some (.ref xk), l1, l2, l3], [.ref xk], h) Q := t_aload_n k_164_40 rfl
theorem k_164_41 : lk 164 41 = some (.getfield 20, 44, 10, 7, .null) := by decide +kernel
theorem x_164_41 : Tr sc d 164 (41, [l0, l1, l2, l3], [.ref k0], h) Q = (okp h k0 10 = true ∧ ∃ q, hR h k0 7 = some q ∧ Tr sc d 164 (44, [l0, l1, l2, l3], [.ref q], h) Q) := t_getr k_164_41
theorem k_164_44 : lk 164 44 = some (.bipush 40, 46, 0, 0, .int 40) := by decide +kernel
theorem x_164_44 : Tr sc d 164 (44, [l0, l1, l2, l3], [.ref k0], h) Q = Tr sc d 164 (46, [l0, l1, l2, l3], [.int 40, .ref k0], h) Q := t_go k_164_44 rfl
theorem k_164_46 : lk 164 46 = some (.iload_n 1, 47, 1, 0, .null) := by decide +kernel
theorem x_164_46 : Tr sc d 164 (46, [l0, some (.int x), l2, l3], [.int i1, .ref k0], h) Q = Tr sc d 164 (47, [l0, some (.int x), l2, l3], [.int x, .int i1, .ref k0], h) Q := t_iload_n k_164_46 rfl
theorem k_164_47 : lk 164 47 = some (.imul, 48, 0, 0, .null) := by decide +kernel
theorem x_164_47 : Tr sc d 164 (47, [l0, l1, l2, l3], [.int i2, .int i1, .ref k0], h) Q = Tr sc d 164 (48, [l0, l1, l2, l3], [.int (i1 * i2), .ref k0], h) Q := t_go k_164_47 rfl
theorem k_164_48 : lk 164 48 = some (.iload_n 3, 49, 3, 0, .null) := by decide +kernel
theorem x_164_48 : Tr sc d 164 (48, [l0, l1, l2, some (.int x)], [.int i1, .ref k0], h) Q = Tr sc d 164 (49, [l0, l1, l2, some (.int x)], [.int x, .int i1, .ref k0], h) Q := t_iload_n k_164_48 rfl
theorem k_164_49 : lk 164 49 = some (.iadd, 50, 0, 0, .null) := by decide +kernel
theorem x_164_49 : Tr sc d 164 (49, [l0, l1, l2, l3], [.int i2, .int i1, .ref k0], h) Q = Tr sc d 164 (50, [l0, l1, l2, l3], [.int (i1 + i2), .ref k0], h) Q := t_go k_164_49 rfl
theorem k_164_50 : lk 164 50 = some (.iconst 0, 51, 0, 0, .int 0) := by decide +kernel
theorem x_164_50 : Tr sc d 164 (50, [l0, l1, l2, l3], [.int i1, .ref k0], h) Q = Tr sc d 164 (51, [l0, l1, l2, l3], [.int 0, .int i1, .ref k0], h) Q := t_go k_164_50 rfl
theorem k_164_51 : lk 164 51 = some (.iastore, 52, 0, 0, .null) := by decide +kernel
theorem x_164_51 : Tr sc d 164 (51, [l0, l1, l2, l3], [.int i2, .int i1, .ref k0], h) Q = ((okp h k0 11 && inb i1 (LN k0)) = true ∧ Tr sc d 164 (52, [l0, l1, l2, l3], [], (sI h k0 i1.toNatClampNeg i2)) Q) := t_gd k_164_51 rfl
theorem k_164_52 : lk 164 52 = some (.iinc 3 1, 55, 3, 0, .int 1) := by decide +kernel
theorem x_164_52 : Tr sc d 164 (52, [l0, l1, l2, some (.int x)], [], h) Q = Tr sc d 164 (55, [l0, l1, cl2 l2, some (.int (x + 1))], [], h) Q := t_inc k_164_52 rfl (Nat.le_of_ble_eq_true rfl)
theorem k_164_55 : lk 164 55 = some (.goto (-21), 58, 34, 0, .null) := by decide +kernel
theorem x_164_55 : Tr sc d 164 (55, [l0, l1, l2, l3], [], h) Q = Tr sc d 164 (34, [l0, l1, l2, l3], [], h) Q := t_go k_164_55 rfl
theorem k_164_58 : lk 164 58 = some (.iload_n 2, 59, 2, 0, .null) := by decide +kernel
theorem x_164_58 : Tr sc d 164 (58, [l0, l1, some (.int x), l3], [], h) Q = Tr sc d 164 (59, [l0, l1, some (.int x), l3], [.int x], h) Q := t_iload_n k_164_58 rfl
theorem k_164_59 : lk 164 59 = some (.ireturn, 60, 0, 0, .null) := by decide +kernel
theorem x_164_59 : Tr sc d 164 (59, [l0, l1, l2, l3], [.int i0], h) Q = Q (some (.int i0), h) := t_ret k_164_59 (by rw [r_164]; rfl)
theorem e_164 : Tr sc d 164 (ent0 164 [.ref k0, .int i1, .int i2] h) Q = Tr sc d 164 (0, [some (.ref k0), some (.int i1), some (.int i2), none], [], h) Q := by
  have e : mL 164 = 4 := by decide +kernel
  unfold ent0
  rw [e]
  rfl
theorem r_165 : mR 165 = some .int := by decide +kernel
theorem k_165_0 : lk 165 0 = some (.aload_n 0, 1, 0, 0, .null) := by decide +kernel
theorem x_165_0 : Tr sc d 165 (0, [some (.ref xk), l1, l2, l3, l4], [], h) Q = Tr sc d 165 (1, [some (.ref xk), l1, l2, l3, l4], [.ref xk], h) Q := t_aload_n k_165_0 rfl
theorem k_165_1 : lk 165 1 = some (.iload_n 1, 2, 1, 0, .null) := by decide +kernel
theorem x_165_1 : Tr sc d 165 (1, [l0, some (.int x), l2, l3, l4], [.ref k0], h) Q = Tr sc d 165 (2, [l0, some (.int x), l2, l3, l4], [.int x, .ref k0], h) Q := t_iload_n k_165_1 rfl
theorem k_165_2 : lk 165 2 = some (.invokevirtual 159, 5, 162, 1, .null) := by decide +kernel
theorem x_165_2 : Tr sc (d + 1) 165 (2, [l0, l1, l2, l3, l4], [.int i1, .ref k0], h) Q = (okp h k0 10 = true ∧ Tr sc d 162 (ent0 162 [.ref k0, .int i1] h) (fun z => Tr sc (d + 1) 165 (5, [l0, l1, l2, l3, l4], z.1.toList ++ [], z.2) Q)) := t_cv (as := [.int i1]) (r := []) k_165_2 rfl rfl (Nat.le_of_ble_eq_true rfl) (Nat.le_of_ble_eq_true rfl) (Nat.le_of_ble_eq_true rfl)
theorem k_165_5 : lk 165 5 = some (.istore 4, 7, 4, 0, .null) := by decide +kernel
theorem x_165_5 : Tr sc d 165 (5, [l0, l1, l2, l3, l4], [.int i0], h) Q = Tr sc d 165 (7, [l0, l1, l2, cl2 l3, some (.int i0)], [], h) Q := t_istore k_165_5 (Nat.le_of_ble_eq_true rfl)
theorem k_165_7 : lk 165 7 = some (.iload 4, 9, 4, 0, .null) := by decide +kernel
theorem x_165_7 : Tr sc d 165 (7, [l0, l1, l2, l3, some (.int x)], [], h) Q = Tr sc d 165 (9, [l0, l1, l2, l3, some (.int x)], [.int x], h) Q := t_iload k_165_7 rfl
theorem k_165_9 : lk 165 9 = some (.ifCond .ge 6, 12, 15, 0, .null) := by decide +kernel
theorem x_165_9 : Tr sc d 165 (9, [l0, l1, l2, l3, l4], [.int i0], h) Q = if 0 ≤ i0 then Tr sc d 165 (15, [l0, l1, l2, l3, l4], [], h) Q else Tr sc d 165 (12, [l0, l1, l2, l3, l4], [], h) Q := t_if k_165_9 rfl
theorem k_165_12 : lk 165 12 = some (.iload 4, 14, 4, 0, .null) := by decide +kernel
theorem x_165_12 : Tr sc d 165 (12, [l0, l1, l2, l3, some (.int x)], [], h) Q = Tr sc d 165 (14, [l0, l1, l2, l3, some (.int x)], [.int x], h) Q := t_iload k_165_12 rfl
theorem k_165_14 : lk 165 14 = some (.ireturn, 15, 0, 0, .null) := by decide +kernel
theorem x_165_14 : Tr sc d 165 (14, [l0, l1, l2, l3, l4], [.int i0], h) Q = Q (some (.int i0), h) := t_ret k_165_14 (by rw [r_165]; rfl)
theorem k_165_15 : lk 165 15 = some (.iload_n 2, 16, 2, 0, .null) := by decide +kernel
theorem x_165_15 : Tr sc d 165 (15, [l0, l1, some (.int x), l3, l4], [], h) Q = Tr sc d 165 (16, [l0, l1, some (.int x), l3, l4], [.int x], h) Q := t_iload_n k_165_15 rfl
theorem k_165_16 : lk 165 16 = some (.iconst 0, 17, 0, 0, .int 0) := by decide +kernel
theorem x_165_16 : Tr sc d 165 (16, [l0, l1, l2, l3, l4], [.int i0], h) Q = Tr sc d 165 (17, [l0, l1, l2, l3, l4], [.int 0, .int i0], h) Q := t_go k_165_16 rfl
theorem k_165_17 : lk 165 17 = some (.aload_n 0, 18, 0, 0, .null) := by decide +kernel
theorem x_165_17 : Tr sc d 165 (17, [some (.ref xk), l1, l2, l3, l4], [.int i1, .int i0], h) Q = Tr sc d 165 (18, [some (.ref xk), l1, l2, l3, l4], [.ref xk, .int i1, .int i0], h) Q := t_aload_n k_165_17 rfl
theorem k_165_18 : lk 165 18 = some (.getfield 17, 21, 10, 6, .null) := by decide +kernel
theorem x_165_18 : Tr sc d 165 (18, [l0, l1, l2, l3, l4], [.ref k2, .int i1, .int i0], h) Q = (okp h k2 10 = true ∧ ∃ q, hR h k2 6 = some q ∧ Tr sc d 165 (21, [l0, l1, l2, l3, l4], [.ref q, .int i1, .int i0], h) Q) := t_getr k_165_18
theorem k_165_21 : lk 165 21 = some (.iload_n 1, 22, 1, 0, .null) := by decide +kernel
theorem x_165_21 : Tr sc d 165 (21, [l0, some (.int x), l2, l3, l4], [.ref k2, .int i1, .int i0], h) Q = Tr sc d 165 (22, [l0, some (.int x), l2, l3, l4], [.int x, .ref k2, .int i1, .int i0], h) Q := t_iload_n k_165_21 rfl
theorem k_165_22 : lk 165 22 = some (.iaload, 23, 0, 0, .null) := by decide +kernel
theorem x_165_22 : Tr sc d 165 (22, [l0, l1, l2, l3, l4], [.int i3, .ref k2, .int i1, .int i0], h) Q = (iOk sc h k2 i3 ∧ Tr sc d 165 (23, [l0, l1, l2, l3, l4], [.int (iRd sc h k2 i3), .int i1, .int i0], h) Q) := t_iald k_165_22
theorem k_165_23 : lk 165 23 = some (.iconst 1, 24, 0, 0, .int 1) := by decide +kernel
theorem x_165_23 : Tr sc d 165 (23, [l0, l1, l2, l3, l4], [.int i2, .int i1, .int i0], h) Q = Tr sc d 165 (24, [l0, l1, l2, l3, l4], [.int 1, .int i2, .int i1, .int i0], h) Q := t_go k_165_23 rfl
theorem k_165_24 : lk 165 24 = some (.isub, 25, 0, 0, .null) := by decide +kernel
theorem x_165_24 : Tr sc d 165 (24, [l0, l1, l2, l3, l4], [.int i3, .int i2, .int i1, .int i0], h) Q = Tr sc d 165 (25, [l0, l1, l2, l3, l4], [.int (i2 - i3), .int i1, .int i0], h) Q := t_go k_165_24 rfl
theorem k_165_25 : lk 165 25 = some (.invokestatic 144, 28, 156, 3, .null) := by decide +kernel
theorem x_165_25 : Tr sc (d + 1) 165 (25, [l0, l1, l2, l3, l4], [.int i2, .int i1, .int i0], h) Q = Tr sc d 156 (ent0 156 [.int i0, .int i1, .int i2] h) (fun z => Tr sc (d + 1) 165 (28, [l0, l1, l2, l3, l4], z.1.toList ++ [], z.2) Q) := t_cs (as := [.int i0, .int i1, .int i2]) (r := []) k_165_25 (by decide) rfl rfl (Nat.le_of_ble_eq_true rfl) (Nat.le_of_ble_eq_true rfl)
theorem k_165_28 : lk 165 28 = some (.ifCond .ne 9, 31, 37, 0, .null) := by decide +kernel
theorem x_165_28 : Tr sc d 165 (28, [l0, l1, l2, l3, l4], [.int i0], h) Q = if i0 = 0 then Tr sc d 165 (31, [l0, l1, l2, l3, l4], [], h) Q else Tr sc d 165 (37, [l0, l1, l2, l3, l4], [], h) Q := t_if k_165_28 rfl
theorem k_165_31 : lk 165 31 = some (.aload_n 0, 32, 0, 0, .null) := by decide +kernel
theorem x_165_31 : Tr sc d 165 (31, [some (.ref xk), l1, l2, l3, l4], [], h) Q = Tr sc d 165 (32, [some (.ref xk), l1, l2, l3, l4], [.ref xk], h) Q := t_aload_n k_165_31 rfl
theorem k_165_32 : lk 165 32 = some (.iconst 2, 33, 0, 0, .int 2) := by decide +kernel
theorem x_165_32 : Tr sc d 165 (32, [l0, l1, l2, l3, l4], [.ref k0], h) Q = Tr sc d 165 (33, [l0, l1, l2, l3, l4], [.int 2, .ref k0], h) Q := t_go k_165_32 rfl
theorem k_165_33 : lk 165 33 = some (.invokevirtual 152, 36, 157, 1, .null) := by decide +kernel
theorem x_165_33 : Tr sc (d + 1) 165 (33, [l0, l1, l2, l3, l4], [.int i1, .ref k0], h) Q = (okp h k0 10 = true ∧ Tr sc d 157 (ent0 157 [.ref k0, .int i1] h) (fun z => Tr sc (d + 1) 165 (36, [l0, l1, l2, l3, l4], z.1.toList ++ [], z.2) Q)) := t_cv (as := [.int i1]) (r := []) k_165_33 rfl rfl (Nat.le_of_ble_eq_true rfl) (Nat.le_of_ble_eq_true rfl) (Nat.le_of_ble_eq_true rfl)
theorem k_165_36 : lk 165 36 = some (.ireturn, 37, 0, 0, .null) := by decide +kernel
theorem x_165_36 : Tr sc d 165 (36, [l0, l1, l2, l3, l4], [.int i0], h) Q = Q (some (.int i0), h) := t_ret k_165_36 (by rw [r_165]; rfl)
theorem k_165_37 : lk 165 37 = some (.aload_n 0, 38, 0, 0, .null) := by decide +kernel
theorem x_165_37 : Tr sc d 165 (37, [some (.ref xk), l1, l2, l3, l4], [], h) Q = Tr sc d 165 (38, [some (.ref xk), l1, l2, l3, l4], [.ref xk], h) Q := t_aload_n k_165_37 rfl
theorem k_165_38 : lk 165 38 = some (.aload_n 0, 39, 0, 0, .null) := by decide +kernel
theorem x_165_38 : Tr sc d 165 (38, [some (.ref xk), l1, l2, l3, l4], [.ref k0], h) Q = Tr sc d 165 (39, [some (.ref xk), l1, l2, l3, l4], [.ref xk, .ref k0], h) Q := t_aload_n k_165_38 rfl
theorem k_165_39 : lk 165 39 = some (.getfield 20, 42, 10, 7, .null) := by decide +kernel
theorem x_165_39 : Tr sc d 165 (39, [l0, l1, l2, l3, l4], [.ref k1, .ref k0], h) Q = (okp h k1 10 = true ∧ ∃ q, hR h k1 7 = some q ∧ Tr sc d 165 (42, [l0, l1, l2, l3, l4], [.ref q, .ref k0], h) Q) := t_getr k_165_39
theorem k_165_42 : lk 165 42 = some (.bipush 40, 44, 0, 0, .int 40) := by decide +kernel
theorem x_165_42 : Tr sc d 165 (42, [l0, l1, l2, l3, l4], [.ref k1, .ref k0], h) Q = Tr sc d 165 (44, [l0, l1, l2, l3, l4], [.int 40, .ref k1, .ref k0], h) Q := t_go k_165_42 rfl
theorem k_165_44 : lk 165 44 = some (.iload_n 1, 45, 1, 0, .null) := by decide +kernel
theorem x_165_44 : Tr sc d 165 (44, [l0, some (.int x), l2, l3, l4], [.int i2, .ref k1, .ref k0], h) Q = Tr sc d 165 (45, [l0, some (.int x), l2, l3, l4], [.int x, .int i2, .ref k1, .ref k0], h) Q := t_iload_n k_165_44 rfl
theorem k_165_45 : lk 165 45 = some (.imul, 46, 0, 0, .null) := by decide +kernel
theorem x_165_45 : Tr sc d 165 (45, [l0, l1, l2, l3, l4], [.int i3, .int i2, .ref k1, .ref k0], h) Q = Tr sc d 165 (46, [l0, l1, l2, l3, l4], [.int (i2 * i3), .ref k1, .ref k0], h) Q := t_go k_165_45 rfl
theorem k_165_46 : lk 165 46 = some (.iload_n 2, 47, 2, 0, .null) := by decide +kernel
theorem x_165_46 : Tr sc d 165 (46, [l0, l1, some (.int x), l3, l4], [.int i2, .ref k1, .ref k0], h) Q = Tr sc d 165 (47, [l0, l1, some (.int x), l3, l4], [.int x, .int i2, .ref k1, .ref k0], h) Q := t_iload_n k_165_46 rfl
theorem k_165_47 : lk 165 47 = some (.iadd, 48, 0, 0, .null) := by decide +kernel
theorem x_165_47 : Tr sc d 165 (47, [l0, l1, l2, l3, l4], [.int i3, .int i2, .ref k1, .ref k0], h) Q = Tr sc d 165 (48, [l0, l1, l2, l3, l4], [.int (i2 + i3), .ref k1, .ref k0], h) Q := t_go k_165_47 rfl
theorem k_165_48 : lk 165 48 = some (.iaload, 49, 0, 0, .null) := by decide +kernel
theorem x_165_48 : Tr sc d 165 (48, [l0, l1, l2, l3, l4], [.int i2, .ref k1, .ref k0], h) Q = (iOk sc h k1 i2 ∧ Tr sc d 165 (49, [l0, l1, l2, l3, l4], [.int (iRd sc h k1 i2), .ref k0], h) Q) := t_iald k_165_48
theorem k_165_49 : lk 165 49 = some (.putfield 138, 52, 10, 2, .int 0) := by decide +kernel
theorem x_165_49 : Tr sc d 165 (49, [l0, l1, l2, l3, l4], [.int i1, .ref k0], h) Q = (okp h k0 10 = true ∧ Tr sc d 165 (52, [l0, l1, l2, l3, l4], [], (sI h k0 2 i1)) Q) := t_gd k_165_49 rfl
theorem k_165_52 : lk 165 52 = some (.aload_n 0, 53, 0, 0, .null) := by decide +kernel
theorem x_165_52 : Tr sc d 165 (52, [some (.ref xk), l1, l2, l3, l4], [], h) Q = Tr sc d 165 (53, [some (.ref xk), l1, l2, l3, l4], [.ref xk], h) Q := t_aload_n k_165_52 rfl
theorem k_165_53 : lk 165 53 = some (.getfield 20, 56, 10, 7, .null) := by decide +kernel
theorem x_165_53 : Tr sc d 165 (53, [l0, l1, l2, l3, l4], [.ref k0], h) Q = (okp h k0 10 = true ∧ ∃ q, hR h k0 7 = some q ∧ Tr sc d 165 (56, [l0, l1, l2, l3, l4], [.ref q], h) Q) := t_getr k_165_53
theorem k_165_56 : lk 165 56 = some (.bipush 40, 58, 0, 0, .int 40) := by decide +kernel
theorem x_165_56 : Tr sc d 165 (56, [l0, l1, l2, l3, l4], [.ref k0], h) Q = Tr sc d 165 (58, [l0, l1, l2, l3, l4], [.int 40, .ref k0], h) Q := t_go k_165_56 rfl
theorem k_165_58 : lk 165 58 = some (.iload_n 1, 59, 1, 0, .null) := by decide +kernel
theorem x_165_58 : Tr sc d 165 (58, [l0, some (.int x), l2, l3, l4], [.int i1, .ref k0], h) Q = Tr sc d 165 (59, [l0, some (.int x), l2, l3, l4], [.int x, .int i1, .ref k0], h) Q := t_iload_n k_165_58 rfl
theorem k_165_59 : lk 165 59 = some (.imul, 60, 0, 0, .null) := by decide +kernel
theorem x_165_59 : Tr sc d 165 (59, [l0, l1, l2, l3, l4], [.int i2, .int i1, .ref k0], h) Q = Tr sc d 165 (60, [l0, l1, l2, l3, l4], [.int (i1 * i2), .ref k0], h) Q := t_go k_165_59 rfl
theorem k_165_60 : lk 165 60 = some (.iload_n 2, 61, 2, 0, .null) := by decide +kernel
theorem x_165_60 : Tr sc d 165 (60, [l0, l1, some (.int x), l3, l4], [.int i1, .ref k0], h) Q = Tr sc d 165 (61, [l0, l1, some (.int x), l3, l4], [.int x, .int i1, .ref k0], h) Q := t_iload_n k_165_60 rfl
theorem k_165_61 : lk 165 61 = some (.iadd, 62, 0, 0, .null) := by decide +kernel
theorem x_165_61 : Tr sc d 165 (61, [l0, l1, l2, l3, l4], [.int i2, .int i1, .ref k0], h) Q = Tr sc d 165 (62, [l0, l1, l2, l3, l4], [.int (i1 + i2), .ref k0], h) Q := t_go k_165_61 rfl
theorem k_165_62 : lk 165 62 = some (.iload_n 3, 63, 3, 0, .null) := by decide +kernel
theorem x_165_62 : Tr sc d 165 (62, [l0, l1, l2, some (.int x), l4], [.int i1, .ref k0], h) Q = Tr sc d 165 (63, [l0, l1, l2, some (.int x), l4], [.int x, .int i1, .ref k0], h) Q := t_iload_n k_165_62 rfl
theorem k_165_63 : lk 165 63 = some (.iastore, 64, 0, 0, .null) := by decide +kernel
theorem x_165_63 : Tr sc d 165 (63, [l0, l1, l2, l3, l4], [.int i2, .int i1, .ref k0], h) Q = ((okp h k0 11 && inb i1 (LN k0)) = true ∧ Tr sc d 165 (64, [l0, l1, l2, l3, l4], [], (sI h k0 i1.toNatClampNeg i2)) Q) := t_gd k_165_63 rfl
theorem k_165_64 : lk 165 64 = some (.iconst 1, 65, 0, 0, .int 1) := by decide +kernel
theorem x_165_64 : Tr sc d 165 (64, [l0, l1, l2, l3, l4], [], h) Q = Tr sc d 165 (65, [l0, l1, l2, l3, l4], [.int 1], h) Q := t_go k_165_64 rfl
theorem k_165_65 : lk 165 65 = some (.ireturn, 66, 0, 0, .null) := by decide +kernel
theorem x_165_65 : Tr sc d 165 (65, [l0, l1, l2, l3, l4], [.int i0], h) Q = Q (some (.int i0), h) := t_ret k_165_65 (by rw [r_165]; rfl)
theorem e_165 : Tr sc d 165 (ent0 165 [.ref k0, .int i1, .int i2, .int i3] h) Q = Tr sc d 165 (0, [some (.ref k0), some (.int i1), some (.int i2), some (.int i3), none], [], h) Q := by
  have e : mL 165 = 5 := by decide +kernel
  unfold ent0
  rw [e]
  rfl
theorem r_166 : mR 166 = some .int := by decide +kernel
theorem k_166_0 : lk 166 0 = some (.aload_n 0, 1, 0, 0, .null) := by decide +kernel
theorem x_166_0 : Tr sc d 166 (0, [some (.ref xk), l1, l2], [], h) Q = Tr sc d 166 (1, [some (.ref xk), l1, l2], [.ref xk], h) Q := t_aload_n k_166_0 rfl
theorem k_166_1 : lk 166 1 = some (.iload_n 1, 2, 1, 0, .null) := by decide +kernel
theorem x_166_1 : Tr sc d 166 (1, [l0, some (.int x), l2], [.ref k0], h) Q = Tr sc d 166 (2, [l0, some (.int x), l2], [.int x, .ref k0], h) Q := t_iload_n k_166_1 rfl
theorem k_166_2 : lk 166 2 = some (.invokevirtual 159, 5, 162, 1, .null) := by decide +kernel
theorem x_166_2 : Tr sc (d + 1) 166 (2, [l0, l1, l2], [.int i1, .ref k0], h) Q = (okp h k0 10 = true ∧ Tr sc d 162 (ent0 162 [.ref k0, .int i1] h) (fun z => Tr sc (d + 1) 166 (5, [l0, l1, l2], z.1.toList ++ [], z.2) Q)) := t_cv (as := [.int i1]) (r := []) k_166_2 rfl rfl (Nat.le_of_ble_eq_true rfl) (Nat.le_of_ble_eq_true rfl) (Nat.le_of_ble_eq_true rfl)
theorem k_166_5 : lk 166 5 = some (.istore_n 2, 6, 2, 0, .null) := by decide +kernel
theorem x_166_5 : Tr sc d 166 (5, [l0, l1, l2], [.int i0], h) Q = Tr sc d 166 (6, [l0, cl2 l1, some (.int i0)], [], h) Q := t_istore_n k_166_5 (Nat.le_of_ble_eq_true rfl)
theorem k_166_6 : lk 166 6 = some (.iload_n 2, 7, 2, 0, .null) := by decide +kernel
theorem x_166_6 : Tr sc d 166 (6, [l0, l1, some (.int x)], [], h) Q = Tr sc d 166 (7, [l0, l1, some (.int x)], [.int x], h) Q := t_iload_n k_166_6 rfl
theorem k_166_7 : lk 166 7 = some (.ifCond .ge 5, 10, 12, 0, .null) := by decide +kernel
theorem x_166_7 : Tr sc d 166 (7, [l0, l1, l2], [.int i0], h) Q = if 0 ≤ i0 then Tr sc d 166 (12, [l0, l1, l2], [], h) Q else Tr sc d 166 (10, [l0, l1, l2], [], h) Q := t_if k_166_7 rfl
theorem k_166_10 : lk 166 10 = some (.iload_n 2, 11, 2, 0, .null) := by decide +kernel
theorem x_166_10 : Tr sc d 166 (10, [l0, l1, some (.int x)], [], h) Q = Tr sc d 166 (11, [l0, l1, some (.int x)], [.int x], h) Q := t_iload_n k_166_10 rfl
theorem k_166_11 : lk 166 11 = some (.ireturn, 12, 0, 0, .null) := by decide +kernel
theorem x_166_11 : Tr sc d 166 (11, [l0, l1, l2], [.int i0], h) Q = Q (some (.int i0), h) := t_ret k_166_11 (by rw [r_166]; rfl)
theorem k_166_12 : lk 166 12 = some (.aload_n 0, 13, 0, 0, .null) := by decide +kernel
theorem x_166_12 : Tr sc d 166 (12, [some (.ref xk), l1, l2], [], h) Q = Tr sc d 166 (13, [some (.ref xk), l1, l2], [.ref xk], h) Q := t_aload_n k_166_12 rfl
theorem k_166_13 : lk 166 13 = some (.getfield 17, 16, 10, 6, .null) := by decide +kernel
theorem x_166_13 : Tr sc d 166 (13, [l0, l1, l2], [.ref k0], h) Q = (okp h k0 10 = true ∧ ∃ q, hR h k0 6 = some q ∧ Tr sc d 166 (16, [l0, l1, l2], [.ref q], h) Q) := t_getr k_166_13
theorem k_166_16 : lk 166 16 = some (.iload_n 1, 17, 1, 0, .null) := by decide +kernel
theorem x_166_16 : Tr sc d 166 (16, [l0, some (.int x), l2], [.ref k0], h) Q = Tr sc d 166 (17, [l0, some (.int x), l2], [.int x, .ref k0], h) Q := t_iload_n k_166_16 rfl
theorem k_166_17 : lk 166 17 = some (.bipush (-9), 19, 0, 0, .int (-9)) := by decide +kernel
theorem x_166_17 : Tr sc d 166 (17, [l0, l1, l2], [.int i1, .ref k0], h) Q = Tr sc d 166 (19, [l0, l1, l2], [.int (-9), .int i1, .ref k0], h) Q := t_go k_166_17 rfl
theorem k_166_19 : lk 166 19 = some (.iastore, 20, 0, 0, .null) := by decide +kernel
theorem x_166_19 : Tr sc d 166 (19, [l0, l1, l2], [.int i2, .int i1, .ref k0], h) Q = ((okp h k0 11 && inb i1 (LN k0)) = true ∧ Tr sc d 166 (20, [l0, l1, l2], [], (sI h k0 i1.toNatClampNeg i2)) Q) := t_gd k_166_19 rfl
theorem k_166_20 : lk 166 20 = some (.iconst 1, 21, 0, 0, .int 1) := by decide +kernel
theorem x_166_20 : Tr sc d 166 (20, [l0, l1, l2], [], h) Q = Tr sc d 166 (21, [l0, l1, l2], [.int 1], h) Q := t_go k_166_20 rfl
theorem k_166_21 : lk 166 21 = some (.ireturn, 22, 0, 0, .null) := by decide +kernel
theorem x_166_21 : Tr sc d 166 (21, [l0, l1, l2], [.int i0], h) Q = Q (some (.int i0), h) := t_ret k_166_21 (by rw [r_166]; rfl)
theorem e_166 : Tr sc d 166 (ent0 166 [.ref k0, .int i1] h) Q = Tr sc d 166 (0, [some (.ref k0), some (.int i1), none], [], h) Q := by
  have e : mL 166 = 3 := by decide +kernel
  unfold ent0
  rw [e]
  rfl
theorem r_167 : mR 167 = some .int := by decide +kernel
theorem k_167_0 : lk 167 0 = some (.iload_n 1, 1, 1, 0, .null) := by decide +kernel
theorem x_167_0 : Tr sc d 167 (0, [l0, some (.int x), l2, l3, l4, l5, l6], [], h) Q = Tr sc d 167 (1, [l0, some (.int x), l2, l3, l4, l5, l6], [.int x], h) Q := t_iload_n k_167_0 rfl
theorem k_167_1 : lk 167 1 = some (.invokestatic 148, 4, 160, 1, .null) := by decide +kernel
theorem x_167_1 : Tr sc (d + 1) 167 (1, [l0, l1, l2, l3, l4, l5, l6], [.int i0], h) Q = Tr sc d 160 (ent0 160 [.int i0] h) (fun z => Tr sc (d + 1) 167 (4, [l0, l1, l2, l3, l4, l5, l6], z.1.toList ++ [], z.2) Q) := t_cs (as := [.int i0]) (r := []) k_167_1 (by decide) rfl rfl (Nat.le_of_ble_eq_true rfl) (Nat.le_of_ble_eq_true rfl)
theorem k_167_4 : lk 167 4 = some (.ifCond .eq 10, 7, 14, 0, .null) := by decide +kernel
theorem x_167_4 : Tr sc d 167 (4, [l0, l1, l2, l3, l4, l5, l6], [.int i0], h) Q = if i0 = 0 then Tr sc d 167 (14, [l0, l1, l2, l3, l4, l5, l6], [], h) Q else Tr sc d 167 (7, [l0, l1, l2, l3, l4, l5, l6], [], h) Q := t_if k_167_4 rfl
theorem k_167_7 : lk 167 7 = some (.iload_n 3, 8, 3, 0, .null) := by decide +kernel
theorem x_167_7 : Tr sc d 167 (7, [l0, l1, l2, some (.int x), l4, l5, l6], [], h) Q = Tr sc d 167 (8, [l0, l1, l2, some (.int x), l4, l5, l6], [.int x], h) Q := t_iload_n k_167_7 rfl
theorem k_167_8 : lk 167 8 = some (.invokestatic 148, 11, 160, 1, .null) := by decide +kernel
theorem x_167_8 : Tr sc (d + 1) 167 (8, [l0, l1, l2, l3, l4, l5, l6], [.int i0], h) Q = Tr sc d 160 (ent0 160 [.int i0] h) (fun z => Tr sc (d + 1) 167 (11, [l0, l1, l2, l3, l4, l5, l6], z.1.toList ++ [], z.2) Q) := t_cs (as := [.int i0]) (r := []) k_167_8 (by decide) rfl rfl (Nat.le_of_ble_eq_true rfl) (Nat.le_of_ble_eq_true rfl)
theorem k_167_11 : lk 167 11 = some (.ifCond .ne 5, 14, 16, 0, .null) := by decide +kernel
theorem x_167_11 : Tr sc d 167 (11, [l0, l1, l2, l3, l4, l5, l6], [.int i0], h) Q = if i0 = 0 then Tr sc d 167 (14, [l0, l1, l2, l3, l4, l5, l6], [], h) Q else Tr sc d 167 (16, [l0, l1, l2, l3, l4, l5, l6], [], h) Q := t_if k_167_11 rfl
theorem k_167_14 : lk 167 14 = some (.iconst (-1), 15, 0, 0, .int (-1)) := by decide +kernel
theorem x_167_14 : Tr sc d 167 (14, [l0, l1, l2, l3, l4, l5, l6], [], h) Q = Tr sc d 167 (15, [l0, l1, l2, l3, l4, l5, l6], [.int (-1)], h) Q := t_go k_167_14 rfl
theorem k_167_15 : lk 167 15 = some (.ireturn, 16, 0, 0, .null) := by decide +kernel
theorem x_167_15 : Tr sc d 167 (15, [l0, l1, l2, l3, l4, l5, l6], [.int i0], h) Q = Q (some (.int i0), h) := t_ret k_167_15 (by rw [r_167]; rfl)
theorem k_167_16 : lk 167 16 = some (.iload 5, 18, 5, 0, .null) := by decide +kernel
theorem x_167_16 : Tr sc d 167 (16, [l0, l1, l2, l3, l4, some (.int x), l6], [], h) Q = Tr sc d 167 (18, [l0, l1, l2, l3, l4, some (.int x), l6], [.int x], h) Q := t_iload k_167_16 rfl
theorem k_167_18 : lk 167 18 = some (.ifCond .ge 9, 21, 27, 0, .null) := by decide +kernel
theorem x_167_18 : Tr sc d 167 (18, [l0, l1, l2, l3, l4, l5, l6], [.int i0], h) Q = if 0 ≤ i0 then Tr sc d 167 (27, [l0, l1, l2, l3, l4, l5, l6], [], h) Q else Tr sc d 167 (21, [l0, l1, l2, l3, l4, l5, l6], [], h) Q := t_if k_167_18 rfl
theorem k_167_21 : lk 167 21 = some (.aload_n 0, 22, 0, 0, .null) := by decide +kernel
theorem x_167_21 : Tr sc d 167 (21, [some (.ref xk), l1, l2, l3, l4, l5, l6], [], h) Q = Tr sc d 167 (22, [some (.ref xk), l1, l2, l3, l4, l5, l6], [.ref xk], h) Q := t_aload_n k_167_21 rfl
theorem k_167_22 : lk 167 22 = some (.iconst 5, 23, 0, 0, .int 5) := by decide +kernel
theorem x_167_22 : Tr sc d 167 (22, [l0, l1, l2, l3, l4, l5, l6], [.ref k0], h) Q = Tr sc d 167 (23, [l0, l1, l2, l3, l4, l5, l6], [.int 5, .ref k0], h) Q := t_go k_167_22 rfl
theorem k_167_23 : lk 167 23 = some (.invokevirtual 152, 26, 157, 1, .null) := by decide +kernel
theorem x_167_23 : Tr sc (d + 1) 167 (23, [l0, l1, l2, l3, l4, l5, l6], [.int i1, .ref k0], h) Q = (okp h k0 10 = true ∧ Tr sc d 157 (ent0 157 [.ref k0, .int i1] h) (fun z => Tr sc (d + 1) 167 (26, [l0, l1, l2, l3, l4, l5, l6], z.1.toList ++ [], z.2) Q)) := t_cv (as := [.int i1]) (r := []) k_167_23 rfl rfl (Nat.le_of_ble_eq_true rfl) (Nat.le_of_ble_eq_true rfl) (Nat.le_of_ble_eq_true rfl)
theorem k_167_26 : lk 167 26 = some (.ireturn, 27, 0, 0, .null) := by decide +kernel
theorem x_167_26 : Tr sc d 167 (26, [l0, l1, l2, l3, l4, l5, l6], [.int i0], h) Q = Q (some (.int i0), h) := t_ret k_167_26 (by rw [r_167]; rfl)
theorem k_167_27 : lk 167 27 = some (.aload_n 0, 28, 0, 0, .null) := by decide +kernel
theorem x_167_27 : Tr sc d 167 (27, [some (.ref xk), l1, l2, l3, l4, l5, l6], [], h) Q = Tr sc d 167 (28, [some (.ref xk), l1, l2, l3, l4, l5, l6], [.ref xk], h) Q := t_aload_n k_167_27 rfl
theorem k_167_28 : lk 167 28 = some (.getfield 17, 31, 10, 6, .null) := by decide +kernel
theorem x_167_28 : Tr sc d 167 (28, [l0, l1, l2, l3, l4, l5, l6], [.ref k0], h) Q = (okp h k0 10 = true ∧ ∃ q, hR h k0 6 = some q ∧ Tr sc d 167 (31, [l0, l1, l2, l3, l4, l5, l6], [.ref q], h) Q) := t_getr k_167_28
theorem k_167_31 : lk 167 31 = some (.iload_n 1, 32, 1, 0, .null) := by decide +kernel
theorem x_167_31 : Tr sc d 167 (31, [l0, some (.int x), l2, l3, l4, l5, l6], [.ref k0], h) Q = Tr sc d 167 (32, [l0, some (.int x), l2, l3, l4, l5, l6], [.int x, .ref k0], h) Q := t_iload_n k_167_31 rfl
theorem k_167_32 : lk 167 32 = some (.iaload, 33, 0, 0, .null) := by decide +kernel
theorem x_167_32 : Tr sc d 167 (32, [l0, l1, l2, l3, l4, l5, l6], [.int i1, .ref k0], h) Q = (iOk sc h k0 i1 ∧ Tr sc d 167 (33, [l0, l1, l2, l3, l4, l5, l6], [.int (iRd sc h k0 i1)], h) Q) := t_iald k_167_32
theorem k_167_33 : lk 167 33 = some (.ifCond .lt 12, 36, 45, 0, .null) := by decide +kernel
theorem x_167_33 : Tr sc d 167 (33, [l0, l1, l2, l3, l4, l5, l6], [.int i0], h) Q = if i0 < 0 then Tr sc d 167 (45, [l0, l1, l2, l3, l4, l5, l6], [], h) Q else Tr sc d 167 (36, [l0, l1, l2, l3, l4, l5, l6], [], h) Q := t_if k_167_33 rfl
theorem k_167_36 : lk 167 36 = some (.aload_n 0, 37, 0, 0, .null) := by decide +kernel
theorem x_167_36 : Tr sc d 167 (36, [some (.ref xk), l1, l2, l3, l4, l5, l6], [], h) Q = Tr sc d 167 (37, [some (.ref xk), l1, l2, l3, l4, l5, l6], [.ref xk], h) Q := t_aload_n k_167_36 rfl
theorem k_167_37 : lk 167 37 = some (.getfield 17, 40, 10, 6, .null) := by decide +kernel
theorem x_167_37 : Tr sc d 167 (37, [l0, l1, l2, l3, l4, l5, l6], [.ref k0], h) Q = (okp h k0 10 = true ∧ ∃ q, hR h k0 6 = some q ∧ Tr sc d 167 (40, [l0, l1, l2, l3, l4, l5, l6], [.ref q], h) Q) := t_getr k_167_37
theorem k_167_40 : lk 167 40 = some (.iload_n 3, 41, 3, 0, .null) := by decide +kernel
theorem x_167_40 : Tr sc d 167 (40, [l0, l1, l2, some (.int x), l4, l5, l6], [.ref k0], h) Q = Tr sc d 167 (41, [l0, l1, l2, some (.int x), l4, l5, l6], [.int x, .ref k0], h) Q := t_iload_n k_167_40 rfl
theorem k_167_41 : lk 167 41 = some (.iaload, 42, 0, 0, .null) := by decide +kernel
theorem x_167_41 : Tr sc d 167 (41, [l0, l1, l2, l3, l4, l5, l6], [.int i1, .ref k0], h) Q = (iOk sc h k0 i1 ∧ Tr sc d 167 (42, [l0, l1, l2, l3, l4, l5, l6], [.int (iRd sc h k0 i1)], h) Q) := t_iald k_167_41
theorem k_167_42 : lk 167 42 = some (.ifCond .ge 9, 45, 51, 0, .null) := by decide +kernel
theorem x_167_42 : Tr sc d 167 (42, [l0, l1, l2, l3, l4, l5, l6], [.int i0], h) Q = if 0 ≤ i0 then Tr sc d 167 (51, [l0, l1, l2, l3, l4, l5, l6], [], h) Q else Tr sc d 167 (45, [l0, l1, l2, l3, l4, l5, l6], [], h) Q := t_if k_167_42 rfl
theorem k_167_45 : lk 167 45 = some (.aload_n 0, 46, 0, 0, .null) := by decide +kernel
theorem x_167_45 : Tr sc d 167 (45, [some (.ref xk), l1, l2, l3, l4, l5, l6], [], h) Q = Tr sc d 167 (46, [some (.ref xk), l1, l2, l3, l4, l5, l6], [.ref xk], h) Q := t_aload_n k_167_45 rfl
theorem k_167_46 : lk 167 46 = some (.iconst 1, 47, 0, 0, .int 1) := by decide +kernel
theorem x_167_46 : Tr sc d 167 (46, [l0, l1, l2, l3, l4, l5, l6], [.ref k0], h) Q = Tr sc d 167 (47, [l0, l1, l2, l3, l4, l5, l6], [.int 1, .ref k0], h) Q := t_go k_167_46 rfl
theorem k_167_47 : lk 167 47 = some (.invokevirtual 152, 50, 157, 1, .null) := by decide +kernel
theorem x_167_47 : Tr sc (d + 1) 167 (47, [l0, l1, l2, l3, l4, l5, l6], [.int i1, .ref k0], h) Q = (okp h k0 10 = true ∧ Tr sc d 157 (ent0 157 [.ref k0, .int i1] h) (fun z => Tr sc (d + 1) 167 (50, [l0, l1, l2, l3, l4, l5, l6], z.1.toList ++ [], z.2) Q)) := t_cv (as := [.int i1]) (r := []) k_167_47 rfl rfl (Nat.le_of_ble_eq_true rfl) (Nat.le_of_ble_eq_true rfl) (Nat.le_of_ble_eq_true rfl)
theorem k_167_50 : lk 167 50 = some (.ireturn, 51, 0, 0, .null) := by decide +kernel
theorem x_167_50 : Tr sc d 167 (50, [l0, l1, l2, l3, l4, l5, l6], [.int i0], h) Q = Q (some (.int i0), h) := t_ret k_167_50 (by rw [r_167]; rfl)
theorem k_167_51 : lk 167 51 = some (.iload_n 2, 52, 2, 0, .null) := by decide +kernel
theorem x_167_51 : Tr sc d 167 (51, [l0, l1, some (.int x), l3, l4, l5, l6], [], h) Q = Tr sc d 167 (52, [l0, l1, some (.int x), l3, l4, l5, l6], [.int x], h) Q := t_iload_n k_167_51 rfl
theorem k_167_52 : lk 167 52 = some (.ifCond .lt 43, 55, 95, 0, .null) := by decide +kernel
theorem x_167_52 : Tr sc d 167 (52, [l0, l1, l2, l3, l4, l5, l6], [.int i0], h) Q = if i0 < 0 then Tr sc d 167 (95, [l0, l1, l2, l3, l4, l5, l6], [], h) Q else Tr sc d 167 (55, [l0, l1, l2, l3, l4, l5, l6], [], h) Q := t_if k_167_52 rfl
theorem k_167_55 : lk 167 55 = some (.iload 4, 57, 4, 0, .null) := by decide +kernel
theorem x_167_55 : Tr sc d 167 (55, [l0, l1, l2, l3, some (.int x), l5, l6], [], h) Q = Tr sc d 167 (57, [l0, l1, l2, l3, some (.int x), l5, l6], [.int x], h) Q := t_iload k_167_55 rfl
theorem k_167_57 : lk 167 57 = some (.ifCond .lt 38, 60, 95, 0, .null) := by decide +kernel
theorem x_167_57 : Tr sc d 167 (57, [l0, l1, l2, l3, l4, l5, l6], [.int i0], h) Q = if i0 < 0 then Tr sc d 167 (95, [l0, l1, l2, l3, l4, l5, l6], [], h) Q else Tr sc d 167 (60, [l0, l1, l2, l3, l4, l5, l6], [], h) Q := t_if k_167_57 rfl
theorem k_167_60 : lk 167 60 = some (.iload_n 2, 61, 2, 0, .null) := by decide +kernel
theorem x_167_60 : Tr sc d 167 (60, [l0, l1, some (.int x), l3, l4, l5, l6], [], h) Q = Tr sc d 167 (61, [l0, l1, some (.int x), l3, l4, l5, l6], [.int x], h) Q := t_iload_n k_167_60 rfl
theorem k_167_61 : lk 167 61 = some (.i2l, 62, 0, 0, .null) := by decide +kernel
theorem x_167_61 : Tr sc d 167 (61, [l0, l1, l2, l3, l4, l5, l6], [.int i0], h) Q = Tr sc d 167 (62, [l0, l1, l2, l3, l4, l5, l6], [.long i0.toInt64], h) Q := t_go k_167_61 rfl
theorem k_167_62 : lk 167 62 = some (.iload 5, 64, 5, 0, .null) := by decide +kernel
theorem x_167_62 : Tr sc d 167 (62, [l0, l1, l2, l3, l4, some (.int x), l6], [.long j0], h) Q = Tr sc d 167 (64, [l0, l1, l2, l3, l4, some (.int x), l6], [.int x, .long j0], h) Q := t_iload k_167_62 rfl
theorem k_167_64 : lk 167 64 = some (.i2l, 65, 0, 0, .null) := by decide +kernel
theorem x_167_64 : Tr sc d 167 (64, [l0, l1, l2, l3, l4, l5, l6], [.int i1, .long j0], h) Q = Tr sc d 167 (65, [l0, l1, l2, l3, l4, l5, l6], [.long i1.toInt64, .long j0], h) Q := t_go k_167_64 rfl
theorem k_167_65 : lk 167 65 = some (.ladd, 66, 0, 0, .null) := by decide +kernel
theorem x_167_65 : Tr sc d 167 (65, [l0, l1, l2, l3, l4, l5, l6], [.long j1, .long j0], h) Q = Tr sc d 167 (66, [l0, l1, l2, l3, l4, l5, l6], [.long (j0 + j1)], h) Q := t_go k_167_65 rfl
theorem k_167_66 : lk 167 66 = some (.aload_n 0, 67, 0, 0, .null) := by decide +kernel
theorem x_167_66 : Tr sc d 167 (66, [some (.ref xk), l1, l2, l3, l4, l5, l6], [.long j0], h) Q = Tr sc d 167 (67, [some (.ref xk), l1, l2, l3, l4, l5, l6], [.ref xk, .long j0], h) Q := t_aload_n k_167_66 rfl
theorem k_167_67 : lk 167 67 = some (.getfield 17, 70, 10, 6, .null) := by decide +kernel
theorem x_167_67 : Tr sc d 167 (67, [l0, l1, l2, l3, l4, l5, l6], [.ref k1, .long j0], h) Q = (okp h k1 10 = true ∧ ∃ q, hR h k1 6 = some q ∧ Tr sc d 167 (70, [l0, l1, l2, l3, l4, l5, l6], [.ref q, .long j0], h) Q) := t_getr k_167_67
theorem k_167_70 : lk 167 70 = some (.iload_n 1, 71, 1, 0, .null) := by decide +kernel
theorem x_167_70 : Tr sc d 167 (70, [l0, some (.int x), l2, l3, l4, l5, l6], [.ref k1, .long j0], h) Q = Tr sc d 167 (71, [l0, some (.int x), l2, l3, l4, l5, l6], [.int x, .ref k1, .long j0], h) Q := t_iload_n k_167_70 rfl
theorem k_167_71 : lk 167 71 = some (.iaload, 72, 0, 0, .null) := by decide +kernel
theorem x_167_71 : Tr sc d 167 (71, [l0, l1, l2, l3, l4, l5, l6], [.int i2, .ref k1, .long j0], h) Q = (iOk sc h k1 i2 ∧ Tr sc d 167 (72, [l0, l1, l2, l3, l4, l5, l6], [.int (iRd sc h k1 i2), .long j0], h) Q) := t_iald k_167_71
theorem k_167_72 : lk 167 72 = some (.i2l, 73, 0, 0, .null) := by decide +kernel
theorem x_167_72 : Tr sc d 167 (72, [l0, l1, l2, l3, l4, l5, l6], [.int i1, .long j0], h) Q = Tr sc d 167 (73, [l0, l1, l2, l3, l4, l5, l6], [.long i1.toInt64, .long j0], h) Q := t_go k_167_72 rfl
theorem k_167_73 : lk 167 73 = some (.lcmp, 74, 0, 0, .null) := by decide +kernel
theorem x_167_73 : Tr sc d 167 (73, [l0, l1, l2, l3, l4, l5, l6], [.long j1, .long j0], h) Q = Tr sc d 167 (74, [l0, l1, l2, l3, l4, l5, l6], [.int (lg_cmp j0 j1)], h) Q := t_go k_167_73 rfl
theorem k_167_74 : lk 167 74 = some (.ifCond .gt 21, 77, 95, 0, .null) := by decide +kernel
theorem x_167_74 : Tr sc d 167 (74, [l0, l1, l2, l3, l4, l5, l6], [.int i0], h) Q = if 0 < i0 then Tr sc d 167 (95, [l0, l1, l2, l3, l4, l5, l6], [], h) Q else Tr sc d 167 (77, [l0, l1, l2, l3, l4, l5, l6], [], h) Q := t_if k_167_74 rfl
theorem k_167_77 : lk 167 77 = some (.iload 4, 79, 4, 0, .null) := by decide +kernel
theorem x_167_77 : Tr sc d 167 (77, [l0, l1, l2, l3, some (.int x), l5, l6], [], h) Q = Tr sc d 167 (79, [l0, l1, l2, l3, some (.int x), l5, l6], [.int x], h) Q := t_iload k_167_77 rfl
theorem k_167_79 : lk 167 79 = some (.i2l, 80, 0, 0, .null) := by decide +kernel
theorem x_167_79 : Tr sc d 167 (79, [l0, l1, l2, l3, l4, l5, l6], [.int i0], h) Q = Tr sc d 167 (80, [l0, l1, l2, l3, l4, l5, l6], [.long i0.toInt64], h) Q := t_go k_167_79 rfl
theorem k_167_80 : lk 167 80 = some (.iload 5, 82, 5, 0, .null) := by decide +kernel
theorem x_167_80 : Tr sc d 167 (80, [l0, l1, l2, l3, l4, some (.int x), l6], [.long j0], h) Q = Tr sc d 167 (82, [l0, l1, l2, l3, l4, some (.int x), l6], [.int x, .long j0], h) Q := t_iload k_167_80 rfl
theorem k_167_82 : lk 167 82 = some (.i2l, 83, 0, 0, .null) := by decide +kernel
theorem x_167_82 : Tr sc d 167 (82, [l0, l1, l2, l3, l4, l5, l6], [.int i1, .long j0], h) Q = Tr sc d 167 (83, [l0, l1, l2, l3, l4, l5, l6], [.long i1.toInt64, .long j0], h) Q := t_go k_167_82 rfl
theorem k_167_83 : lk 167 83 = some (.ladd, 84, 0, 0, .null) := by decide +kernel
theorem x_167_83 : Tr sc d 167 (83, [l0, l1, l2, l3, l4, l5, l6], [.long j1, .long j0], h) Q = Tr sc d 167 (84, [l0, l1, l2, l3, l4, l5, l6], [.long (j0 + j1)], h) Q := t_go k_167_83 rfl
theorem k_167_84 : lk 167 84 = some (.aload_n 0, 85, 0, 0, .null) := by decide +kernel
theorem x_167_84 : Tr sc d 167 (84, [some (.ref xk), l1, l2, l3, l4, l5, l6], [.long j0], h) Q = Tr sc d 167 (85, [some (.ref xk), l1, l2, l3, l4, l5, l6], [.ref xk, .long j0], h) Q := t_aload_n k_167_84 rfl
theorem k_167_85 : lk 167 85 = some (.getfield 17, 88, 10, 6, .null) := by decide +kernel
theorem x_167_85 : Tr sc d 167 (85, [l0, l1, l2, l3, l4, l5, l6], [.ref k1, .long j0], h) Q = (okp h k1 10 = true ∧ ∃ q, hR h k1 6 = some q ∧ Tr sc d 167 (88, [l0, l1, l2, l3, l4, l5, l6], [.ref q, .long j0], h) Q) := t_getr k_167_85
theorem k_167_88 : lk 167 88 = some (.iload_n 3, 89, 3, 0, .null) := by decide +kernel
theorem x_167_88 : Tr sc d 167 (88, [l0, l1, l2, some (.int x), l4, l5, l6], [.ref k1, .long j0], h) Q = Tr sc d 167 (89, [l0, l1, l2, some (.int x), l4, l5, l6], [.int x, .ref k1, .long j0], h) Q := t_iload_n k_167_88 rfl
theorem k_167_89 : lk 167 89 = some (.iaload, 90, 0, 0, .null) := by decide +kernel
theorem x_167_89 : Tr sc d 167 (89, [l0, l1, l2, l3, l4, l5, l6], [.int i2, .ref k1, .long j0], h) Q = (iOk sc h k1 i2 ∧ Tr sc d 167 (90, [l0, l1, l2, l3, l4, l5, l6], [.int (iRd sc h k1 i2), .long j0], h) Q) := t_iald k_167_89
theorem k_167_90 : lk 167 90 = some (.i2l, 91, 0, 0, .null) := by decide +kernel
theorem x_167_90 : Tr sc d 167 (90, [l0, l1, l2, l3, l4, l5, l6], [.int i1, .long j0], h) Q = Tr sc d 167 (91, [l0, l1, l2, l3, l4, l5, l6], [.long i1.toInt64, .long j0], h) Q := t_go k_167_90 rfl
theorem k_167_91 : lk 167 91 = some (.lcmp, 92, 0, 0, .null) := by decide +kernel
theorem x_167_91 : Tr sc d 167 (91, [l0, l1, l2, l3, l4, l5, l6], [.long j1, .long j0], h) Q = Tr sc d 167 (92, [l0, l1, l2, l3, l4, l5, l6], [.int (lg_cmp j0 j1)], h) Q := t_go k_167_91 rfl
theorem k_167_92 : lk 167 92 = some (.ifCond .le 9, 95, 101, 0, .null) := by decide +kernel
theorem x_167_92 : Tr sc d 167 (92, [l0, l1, l2, l3, l4, l5, l6], [.int i0], h) Q = if i0 ≤ 0 then Tr sc d 167 (101, [l0, l1, l2, l3, l4, l5, l6], [], h) Q else Tr sc d 167 (95, [l0, l1, l2, l3, l4, l5, l6], [], h) Q := t_if k_167_92 rfl
theorem k_167_95 : lk 167 95 = some (.aload_n 0, 96, 0, 0, .null) := by decide +kernel
theorem x_167_95 : Tr sc d 167 (95, [some (.ref xk), l1, l2, l3, l4, l5, l6], [], h) Q = Tr sc d 167 (96, [some (.ref xk), l1, l2, l3, l4, l5, l6], [.ref xk], h) Q := t_aload_n k_167_95 rfl
theorem k_167_96 : lk 167 96 = some (.iconst 2, 97, 0, 0, .int 2) := by decide +kernel
theorem x_167_96 : Tr sc d 167 (96, [l0, l1, l2, l3, l4, l5, l6], [.ref k0], h) Q = Tr sc d 167 (97, [l0, l1, l2, l3, l4, l5, l6], [.int 2, .ref k0], h) Q := t_go k_167_96 rfl
theorem k_167_97 : lk 167 97 = some (.invokevirtual 152, 100, 157, 1, .null) := by decide +kernel
theorem x_167_97 : Tr sc (d + 1) 167 (97, [l0, l1, l2, l3, l4, l5, l6], [.int i1, .ref k0], h) Q = (okp h k0 10 = true ∧ Tr sc d 157 (ent0 157 [.ref k0, .int i1] h) (fun z => Tr sc (d + 1) 167 (100, [l0, l1, l2, l3, l4, l5, l6], z.1.toList ++ [], z.2) Q)) := t_cv (as := [.int i1]) (r := []) k_167_97 rfl rfl (Nat.le_of_ble_eq_true rfl) (Nat.le_of_ble_eq_true rfl) (Nat.le_of_ble_eq_true rfl)
theorem k_167_100 : lk 167 100 = some (.ireturn, 101, 0, 0, .null) := by decide +kernel
theorem x_167_100 : Tr sc d 167 (100, [l0, l1, l2, l3, l4, l5, l6], [.int i0], h) Q = Q (some (.int i0), h) := t_ret k_167_100 (by rw [r_167]; rfl)
theorem k_167_101 : lk 167 101 = some (.iconst 0, 102, 0, 0, .int 0) := by decide +kernel
theorem x_167_101 : Tr sc d 167 (101, [l0, l1, l2, l3, l4, l5, l6], [], h) Q = Tr sc d 167 (102, [l0, l1, l2, l3, l4, l5, l6], [.int 0], h) Q := t_go k_167_101 rfl
theorem k_167_102 : lk 167 102 = some (.istore 6, 104, 6, 0, .null) := by decide +kernel
theorem x_167_102 : Tr sc d 167 (102, [l0, l1, l2, l3, l4, l5, l6], [.int i0], h) Q = Tr sc d 167 (104, [l0, l1, l2, l3, l4, cl2 l5, some (.int i0)], [], h) Q := t_istore k_167_102 (Nat.le_of_ble_eq_true rfl)
theorem k_167_104 : lk 167 104 = some (.iload 6, 106, 6, 0, .null) := by decide +kernel
theorem x_167_104 : Tr sc d 167 (104, [l0, l1, l2, l3, l4, l5, some (.int x)], [], h) Q = Tr sc d 167 (106, [l0, l1, l2, l3, l4, l5, some (.int x)], [.int x], h) Q := t_iload k_167_104 rfl
theorem k_167_106 : lk 167 106 = some (.iload 5, 108, 5, 0, .null) := by decide +kernel
theorem x_167_106 : Tr sc d 167 (106, [l0, l1, l2, l3, l4, some (.int x), l6], [.int i0], h) Q = Tr sc d 167 (108, [l0, l1, l2, l3, l4, some (.int x), l6], [.int x, .int i0], h) Q := t_iload k_167_106 rfl
theorem k_167_108 : lk 167 108 = some (.if_icmp .ge 30, 111, 138, 0, .null) := by decide +kernel
theorem x_167_108 : Tr sc d 167 (108, [l0, l1, l2, l3, l4, l5, l6], [.int i1, .int i0], h) Q = if i1 ≤ i0 then Tr sc d 167 (138, [l0, l1, l2, l3, l4, l5, l6], [], h) Q else Tr sc d 167 (111, [l0, l1, l2, l3, l4, l5, l6], [], h) Q := t_if k_167_108 rfl
theorem k_167_111 : lk 167 111 = some (.aload_n 0, 112, 0, 0, .null) := by decide +kernel
theorem x_167_111 : Tr sc d 167 (111, [some (.ref xk), l1, l2, l3, l4, l5, l6], [], h) Q = Tr sc d 167 (112, [some (.ref xk), l1, l2, l3, l4, l5, l6], [.ref xk], h) Q := t_aload_n k_167_111 rfl
theorem k_167_112 : lk 167 112 = some (.getfield 23, 115, 10, 8, .null) := by decide +kernel
theorem x_167_112 : Tr sc d 167 (112, [l0, l1, l2, l3, l4, l5, l6], [.ref k0], h) Q = (okp h k0 10 = true ∧ ∃ q, hR h k0 8 = some q ∧ Tr sc d 167 (115, [l0, l1, l2, l3, l4, l5, l6], [.ref q], h) Q) := t_getr k_167_112
theorem k_167_115 : lk 167 115 = some (.iload 6, 117, 6, 0, .null) := by decide +kernel
theorem x_167_115 : Tr sc d 167 (115, [l0, l1, l2, l3, l4, l5, some (.int x)], [.ref k0], h) Q = Tr sc d 167 (117, [l0, l1, l2, l3, l4, l5, some (.int x)], [.int x, .ref k0], h) Q := t_iload k_167_115 rfl
theorem k_167_117 : lk 167 117 = some (.aload_n 0, 118, 0, 0, .null) := by decide +kernel
theorem x_167_117 : Tr sc d 167 (117, [some (.ref xk), l1, l2, l3, l4, l5, l6], [.int i1, .ref k0], h) Q = Tr sc d 167 (118, [some (.ref xk), l1, l2, l3, l4, l5, l6], [.ref xk, .int i1, .ref k0], h) Q := t_aload_n k_167_117 rfl
theorem k_167_118 : lk 167 118 = some (.getfield 20, 121, 10, 7, .null) := by decide +kernel
theorem x_167_118 : Tr sc d 167 (118, [l0, l1, l2, l3, l4, l5, l6], [.ref k2, .int i1, .ref k0], h) Q = (okp h k2 10 = true ∧ ∃ q, hR h k2 7 = some q ∧ Tr sc d 167 (121, [l0, l1, l2, l3, l4, l5, l6], [.ref q, .int i1, .ref k0], h) Q) := t_getr k_167_118
theorem k_167_121 : lk 167 121 = some (.bipush 40, 123, 0, 0, .int 40) := by decide +kernel
theorem x_167_121 : Tr sc d 167 (121, [l0, l1, l2, l3, l4, l5, l6], [.ref k2, .int i1, .ref k0], h) Q = Tr sc d 167 (123, [l0, l1, l2, l3, l4, l5, l6], [.int 40, .ref k2, .int i1, .ref k0], h) Q := t_go k_167_121 rfl
theorem k_167_123 : lk 167 123 = some (.iload_n 1, 124, 1, 0, .null) := by decide +kernel
theorem x_167_123 : Tr sc d 167 (123, [l0, some (.int x), l2, l3, l4, l5, l6], [.int i3, .ref k2, .int i1, .ref k0], h) Q = Tr sc d 167 (124, [l0, some (.int x), l2, l3, l4, l5, l6], [.int x, .int i3, .ref k2, .int i1, .ref k0], h) Q := t_iload_n k_167_123 rfl
theorem k_167_124 : lk 167 124 = some (.imul, 125, 0, 0, .null) := by decide +kernel
theorem x_167_124 : Tr sc d 167 (124, [l0, l1, l2, l3, l4, l5, l6], [.int i4, .int i3, .ref k2, .int i1, .ref k0], h) Q = Tr sc d 167 (125, [l0, l1, l2, l3, l4, l5, l6], [.int (i3 * i4), .ref k2, .int i1, .ref k0], h) Q := t_go k_167_124 rfl
theorem k_167_125 : lk 167 125 = some (.iload_n 2, 126, 2, 0, .null) := by decide +kernel
theorem x_167_125 : Tr sc d 167 (125, [l0, l1, some (.int x), l3, l4, l5, l6], [.int i3, .ref k2, .int i1, .ref k0], h) Q = Tr sc d 167 (126, [l0, l1, some (.int x), l3, l4, l5, l6], [.int x, .int i3, .ref k2, .int i1, .ref k0], h) Q := t_iload_n k_167_125 rfl
theorem k_167_126 : lk 167 126 = some (.iadd, 127, 0, 0, .null) := by decide +kernel
theorem x_167_126 : Tr sc d 167 (126, [l0, l1, l2, l3, l4, l5, l6], [.int i4, .int i3, .ref k2, .int i1, .ref k0], h) Q = Tr sc d 167 (127, [l0, l1, l2, l3, l4, l5, l6], [.int (i3 + i4), .ref k2, .int i1, .ref k0], h) Q := t_go k_167_126 rfl
theorem k_167_127 : lk 167 127 = some (.iload 6, 129, 6, 0, .null) := by decide +kernel
theorem x_167_127 : Tr sc d 167 (127, [l0, l1, l2, l3, l4, l5, some (.int x)], [.int i3, .ref k2, .int i1, .ref k0], h) Q = Tr sc d 167 (129, [l0, l1, l2, l3, l4, l5, some (.int x)], [.int x, .int i3, .ref k2, .int i1, .ref k0], h) Q := t_iload k_167_127 rfl
theorem k_167_129 : lk 167 129 = some (.iadd, 130, 0, 0, .null) := by decide +kernel
theorem x_167_129 : Tr sc d 167 (129, [l0, l1, l2, l3, l4, l5, l6], [.int i4, .int i3, .ref k2, .int i1, .ref k0], h) Q = Tr sc d 167 (130, [l0, l1, l2, l3, l4, l5, l6], [.int (i3 + i4), .ref k2, .int i1, .ref k0], h) Q := t_go k_167_129 rfl
theorem k_167_130 : lk 167 130 = some (.iaload, 131, 0, 0, .null) := by decide +kernel
theorem x_167_130 : Tr sc d 167 (130, [l0, l1, l2, l3, l4, l5, l6], [.int i3, .ref k2, .int i1, .ref k0], h) Q = (iOk sc h k2 i3 ∧ Tr sc d 167 (131, [l0, l1, l2, l3, l4, l5, l6], [.int (iRd sc h k2 i3), .int i1, .ref k0], h) Q) := t_iald k_167_130
theorem k_167_131 : lk 167 131 = some (.iastore, 132, 0, 0, .null) := by decide +kernel
theorem x_167_131 : Tr sc d 167 (131, [l0, l1, l2, l3, l4, l5, l6], [.int i2, .int i1, .ref k0], h) Q = ((okp h k0 11 && inb i1 (LN k0)) = true ∧ Tr sc d 167 (132, [l0, l1, l2, l3, l4, l5, l6], [], (sI h k0 i1.toNatClampNeg i2)) Q) := t_gd k_167_131 rfl
theorem k_167_132 : lk 167 132 = some (.iinc 6 1, 135, 6, 0, .int 1) := by decide +kernel
theorem x_167_132 : Tr sc d 167 (132, [l0, l1, l2, l3, l4, l5, some (.int x)], [], h) Q = Tr sc d 167 (135, [l0, l1, l2, l3, l4, cl2 l5, some (.int (x + 1))], [], h) Q := t_inc k_167_132 rfl (Nat.le_of_ble_eq_true rfl)
theorem k_167_135 : lk 167 135 = some (.goto (-31), 138, 104, 0, .null) := by decide +kernel
theorem x_167_135 : Tr sc d 167 (135, [l0, l1, l2, l3, l4, l5, l6], [], h) Q = Tr sc d 167 (104, [l0, l1, l2, l3, l4, l5, l6], [], h) Q := t_go k_167_135 rfl
theorem k_167_138 : lk 167 138 = some (.iconst 0, 139, 0, 0, .int 0) := by decide +kernel
theorem x_167_138 : Tr sc d 167 (138, [l0, l1, l2, l3, l4, l5, l6], [], h) Q = Tr sc d 167 (139, [l0, l1, l2, l3, l4, l5, l6], [.int 0], h) Q := t_go k_167_138 rfl
theorem k_167_139 : lk 167 139 = some (.istore 6, 141, 6, 0, .null) := by decide +kernel
theorem x_167_139 : Tr sc d 167 (139, [l0, l1, l2, l3, l4, l5, l6], [.int i0], h) Q = Tr sc d 167 (141, [l0, l1, l2, l3, l4, cl2 l5, some (.int i0)], [], h) Q := t_istore k_167_139 (Nat.le_of_ble_eq_true rfl)
theorem k_167_141 : lk 167 141 = some (.iload 6, 143, 6, 0, .null) := by decide +kernel
theorem x_167_141 : Tr sc d 167 (141, [l0, l1, l2, l3, l4, l5, some (.int x)], [], h) Q = Tr sc d 167 (143, [l0, l1, l2, l3, l4, l5, some (.int x)], [.int x], h) Q := t_iload k_167_141 rfl
theorem k_167_143 : lk 167 143 = some (.iload 5, 145, 5, 0, .null) := by decide +kernel
theorem x_167_143 : Tr sc d 167 (143, [l0, l1, l2, l3, l4, some (.int x), l6], [.int i0], h) Q = Tr sc d 167 (145, [l0, l1, l2, l3, l4, some (.int x), l6], [.int x, .int i0], h) Q := t_iload k_167_143 rfl
theorem k_167_145 : lk 167 145 = some (.if_icmp .ge 31, 148, 176, 0, .null) := by decide +kernel
theorem x_167_145 : Tr sc d 167 (145, [l0, l1, l2, l3, l4, l5, l6], [.int i1, .int i0], h) Q = if i1 ≤ i0 then Tr sc d 167 (176, [l0, l1, l2, l3, l4, l5, l6], [], h) Q else Tr sc d 167 (148, [l0, l1, l2, l3, l4, l5, l6], [], h) Q := t_if k_167_145 rfl
theorem k_167_148 : lk 167 148 = some (.aload_n 0, 149, 0, 0, .null) := by decide +kernel
theorem x_167_148 : Tr sc d 167 (148, [some (.ref xk), l1, l2, l3, l4, l5, l6], [], h) Q = Tr sc d 167 (149, [some (.ref xk), l1, l2, l3, l4, l5, l6], [.ref xk], h) Q := t_aload_n k_167_148 rfl
theorem k_167_149 : lk 167 149 = some (.getfield 20, 152, 10, 7, .null) := by decide +kernel
theorem x_167_149 : Tr sc d 167 (149, [l0, l1, l2, l3, l4, l5, l6], [.ref k0], h) Q = (okp h k0 10 = true ∧ ∃ q, hR h k0 7 = some q ∧ Tr sc d 167 (152, [l0, l1, l2, l3, l4, l5, l6], [.ref q], h) Q) := t_getr k_167_149
theorem k_167_152 : lk 167 152 = some (.bipush 40, 154, 0, 0, .int 40) := by decide +kernel
theorem x_167_152 : Tr sc d 167 (152, [l0, l1, l2, l3, l4, l5, l6], [.ref k0], h) Q = Tr sc d 167 (154, [l0, l1, l2, l3, l4, l5, l6], [.int 40, .ref k0], h) Q := t_go k_167_152 rfl
theorem k_167_154 : lk 167 154 = some (.iload_n 3, 155, 3, 0, .null) := by decide +kernel
theorem x_167_154 : Tr sc d 167 (154, [l0, l1, l2, some (.int x), l4, l5, l6], [.int i1, .ref k0], h) Q = Tr sc d 167 (155, [l0, l1, l2, some (.int x), l4, l5, l6], [.int x, .int i1, .ref k0], h) Q := t_iload_n k_167_154 rfl
theorem k_167_155 : lk 167 155 = some (.imul, 156, 0, 0, .null) := by decide +kernel
theorem x_167_155 : Tr sc d 167 (155, [l0, l1, l2, l3, l4, l5, l6], [.int i2, .int i1, .ref k0], h) Q = Tr sc d 167 (156, [l0, l1, l2, l3, l4, l5, l6], [.int (i1 * i2), .ref k0], h) Q := t_go k_167_155 rfl
theorem k_167_156 : lk 167 156 = some (.iload 4, 158, 4, 0, .null) := by decide +kernel
theorem x_167_156 : Tr sc d 167 (156, [l0, l1, l2, l3, some (.int x), l5, l6], [.int i1, .ref k0], h) Q = Tr sc d 167 (158, [l0, l1, l2, l3, some (.int x), l5, l6], [.int x, .int i1, .ref k0], h) Q := t_iload k_167_156 rfl
theorem k_167_158 : lk 167 158 = some (.iadd, 159, 0, 0, .null) := by decide +kernel
theorem x_167_158 : Tr sc d 167 (158, [l0, l1, l2, l3, l4, l5, l6], [.int i2, .int i1, .ref k0], h) Q = Tr sc d 167 (159, [l0, l1, l2, l3, l4, l5, l6], [.int (i1 + i2), .ref k0], h) Q := t_go k_167_158 rfl
theorem k_167_159 : lk 167 159 = some (.iload 6, 161, 6, 0, .null) := by decide +kernel
theorem x_167_159 : Tr sc d 167 (159, [l0, l1, l2, l3, l4, l5, some (.int x)], [.int i1, .ref k0], h) Q = Tr sc d 167 (161, [l0, l1, l2, l3, l4, l5, some (.int x)], [.int x, .int i1, .ref k0], h) Q := t_iload k_167_159 rfl
theorem k_167_161 : lk 167 161 = some (.iadd, 162, 0, 0, .null) := by decide +kernel
theorem x_167_161 : Tr sc d 167 (161, [l0, l1, l2, l3, l4, l5, l6], [.int i2, .int i1, .ref k0], h) Q = Tr sc d 167 (162, [l0, l1, l2, l3, l4, l5, l6], [.int (i1 + i2), .ref k0], h) Q := t_go k_167_161 rfl
theorem k_167_162 : lk 167 162 = some (.aload_n 0, 163, 0, 0, .null) := by decide +kernel
theorem x_167_162 : Tr sc d 167 (162, [some (.ref xk), l1, l2, l3, l4, l5, l6], [.int i1, .ref k0], h) Q = Tr sc d 167 (163, [some (.ref xk), l1, l2, l3, l4, l5, l6], [.ref xk, .int i1, .ref k0], h) Q := t_aload_n k_167_162 rfl
theorem k_167_163 : lk 167 163 = some (.getfield 23, 166, 10, 8, .null) := by decide +kernel
theorem x_167_163 : Tr sc d 167 (163, [l0, l1, l2, l3, l4, l5, l6], [.ref k2, .int i1, .ref k0], h) Q = (okp h k2 10 = true ∧ ∃ q, hR h k2 8 = some q ∧ Tr sc d 167 (166, [l0, l1, l2, l3, l4, l5, l6], [.ref q, .int i1, .ref k0], h) Q) := t_getr k_167_163
theorem k_167_166 : lk 167 166 = some (.iload 6, 168, 6, 0, .null) := by decide +kernel
theorem x_167_166 : Tr sc d 167 (166, [l0, l1, l2, l3, l4, l5, some (.int x)], [.ref k2, .int i1, .ref k0], h) Q = Tr sc d 167 (168, [l0, l1, l2, l3, l4, l5, some (.int x)], [.int x, .ref k2, .int i1, .ref k0], h) Q := t_iload k_167_166 rfl
theorem k_167_168 : lk 167 168 = some (.iaload, 169, 0, 0, .null) := by decide +kernel
theorem x_167_168 : Tr sc d 167 (168, [l0, l1, l2, l3, l4, l5, l6], [.int i3, .ref k2, .int i1, .ref k0], h) Q = (iOk sc h k2 i3 ∧ Tr sc d 167 (169, [l0, l1, l2, l3, l4, l5, l6], [.int (iRd sc h k2 i3), .int i1, .ref k0], h) Q) := t_iald k_167_168
theorem k_167_169 : lk 167 169 = some (.iastore, 170, 0, 0, .null) := by decide +kernel
theorem x_167_169 : Tr sc d 167 (169, [l0, l1, l2, l3, l4, l5, l6], [.int i2, .int i1, .ref k0], h) Q = ((okp h k0 11 && inb i1 (LN k0)) = true ∧ Tr sc d 167 (170, [l0, l1, l2, l3, l4, l5, l6], [], (sI h k0 i1.toNatClampNeg i2)) Q) := t_gd k_167_169 rfl
theorem k_167_170 : lk 167 170 = some (.iinc 6 1, 173, 6, 0, .int 1) := by decide +kernel
theorem x_167_170 : Tr sc d 167 (170, [l0, l1, l2, l3, l4, l5, some (.int x)], [], h) Q = Tr sc d 167 (173, [l0, l1, l2, l3, l4, cl2 l5, some (.int (x + 1))], [], h) Q := t_inc k_167_170 rfl (Nat.le_of_ble_eq_true rfl)
theorem k_167_173 : lk 167 173 = some (.goto (-32), 176, 141, 0, .null) := by decide +kernel
theorem x_167_173 : Tr sc d 167 (173, [l0, l1, l2, l3, l4, l5, l6], [], h) Q = Tr sc d 167 (141, [l0, l1, l2, l3, l4, l5, l6], [], h) Q := t_go k_167_173 rfl
theorem k_167_176 : lk 167 176 = some (.iconst 1, 177, 0, 0, .int 1) := by decide +kernel
theorem x_167_176 : Tr sc d 167 (176, [l0, l1, l2, l3, l4, l5, l6], [], h) Q = Tr sc d 167 (177, [l0, l1, l2, l3, l4, l5, l6], [.int 1], h) Q := t_go k_167_176 rfl
theorem k_167_177 : lk 167 177 = some (.ireturn, 178, 0, 0, .null) := by decide +kernel
theorem x_167_177 : Tr sc d 167 (177, [l0, l1, l2, l3, l4, l5, l6], [.int i0], h) Q = Q (some (.int i0), h) := t_ret k_167_177 (by rw [r_167]; rfl)
theorem e_167 : Tr sc d 167 (ent0 167 [.ref k0, .int i1, .int i2, .int i3, .int i4, .int i5] h) Q = Tr sc d 167 (0, [some (.ref k0), some (.int i1), some (.int i2), some (.int i3), some (.int i4), some (.int i5), none], [], h) Q := by
  have e : mL 167 = 7 := by decide +kernel
  unfold ent0
  rw [e]
  rfl
theorem r_168 : mR 168 = some .int := by decide +kernel
theorem k_168_0 : lk 168 0 = some (.aload_n 0, 1, 0, 0, .null) := by decide +kernel
theorem x_168_0 : Tr sc d 168 (0, [some (.ref xk), l1, l2, l3, l4, l5], [], h) Q = Tr sc d 168 (1, [some (.ref xk), l1, l2, l3, l4, l5], [.ref xk], h) Q := t_aload_n k_168_0 rfl
theorem k_168_1 : lk 168 1 = some (.iload_n 1, 2, 1, 0, .null) := by decide +kernel
theorem x_168_1 : Tr sc d 168 (1, [l0, some (.int x), l2, l3, l4, l5], [.ref k0], h) Q = Tr sc d 168 (2, [l0, some (.int x), l2, l3, l4, l5], [.int x, .ref k0], h) Q := t_iload_n k_168_1 rfl
theorem k_168_2 : lk 168 2 = some (.invokevirtual 159, 5, 162, 1, .null) := by decide +kernel
theorem x_168_2 : Tr sc (d + 1) 168 (2, [l0, l1, l2, l3, l4, l5], [.int i1, .ref k0], h) Q = (okp h k0 10 = true ∧ Tr sc d 162 (ent0 162 [.ref k0, .int i1] h) (fun z => Tr sc (d + 1) 168 (5, [l0, l1, l2, l3, l4, l5], z.1.toList ++ [], z.2) Q)) := t_cv (as := [.int i1]) (r := []) k_168_2 rfl rfl (Nat.le_of_ble_eq_true rfl) (Nat.le_of_ble_eq_true rfl) (Nat.le_of_ble_eq_true rfl)
theorem k_168_5 : lk 168 5 = some (.istore_n 2, 6, 2, 0, .null) := by decide +kernel
theorem x_168_5 : Tr sc d 168 (5, [l0, l1, l2, l3, l4, l5], [.int i0], h) Q = Tr sc d 168 (6, [l0, cl2 l1, some (.int i0), l3, l4, l5], [], h) Q := t_istore_n k_168_5 (Nat.le_of_ble_eq_true rfl)
theorem k_168_6 : lk 168 6 = some (.iload_n 2, 7, 2, 0, .null) := by decide +kernel
theorem x_168_6 : Tr sc d 168 (6, [l0, l1, some (.int x), l3, l4, l5], [], h) Q = Tr sc d 168 (7, [l0, l1, some (.int x), l3, l4, l5], [.int x], h) Q := t_iload_n k_168_6 rfl
theorem k_168_7 : lk 168 7 = some (.ifCond .ge 5, 10, 12, 0, .null) := by decide +kernel
theorem x_168_7 : Tr sc d 168 (7, [l0, l1, l2, l3, l4, l5], [.int i0], h) Q = if 0 ≤ i0 then Tr sc d 168 (12, [l0, l1, l2, l3, l4, l5], [], h) Q else Tr sc d 168 (10, [l0, l1, l2, l3, l4, l5], [], h) Q := t_if k_168_7 rfl
theorem k_168_10 : lk 168 10 = some (.iload_n 2, 11, 2, 0, .null) := by decide +kernel
theorem x_168_10 : Tr sc d 168 (10, [l0, l1, some (.int x), l3, l4, l5], [], h) Q = Tr sc d 168 (11, [l0, l1, some (.int x), l3, l4, l5], [.int x], h) Q := t_iload_n k_168_10 rfl
theorem k_168_11 : lk 168 11 = some (.ireturn, 12, 0, 0, .null) := by decide +kernel
theorem x_168_11 : Tr sc d 168 (11, [l0, l1, l2, l3, l4, l5], [.int i0], h) Q = Q (some (.int i0), h) := t_ret k_168_11 (by rw [r_168]; rfl)
theorem k_168_12 : lk 168 12 = some (.lconst 0, 13, 0, 0, .long 0) := by decide +kernel
theorem x_168_12 : Tr sc d 168 (12, [l0, l1, l2, l3, l4, l5], [], h) Q = Tr sc d 168 (13, [l0, l1, l2, l3, l4, l5], [.long 0], h) Q := t_go k_168_12 rfl
theorem k_168_13 : lk 168 13 = some (.lstore_n 3, 14, 3, 0, .null) := by decide +kernel
theorem x_168_13 : Tr sc d 168 (13, [l0, l1, l2, l3, l4, l5], [.long j0], h) Q = Tr sc d 168 (14, [l0, l1, cl2 l2, some (.long j0), none, l5], [], h) Q := t_lstore_n k_168_13 (Nat.le_of_ble_eq_true rfl)
theorem k_168_14 : lk 168 14 = some (.iconst 0, 15, 0, 0, .int 0) := by decide +kernel
theorem x_168_14 : Tr sc d 168 (14, [l0, l1, l2, l3, l4, l5], [], h) Q = Tr sc d 168 (15, [l0, l1, l2, l3, l4, l5], [.int 0], h) Q := t_go k_168_14 rfl
theorem k_168_15 : lk 168 15 = some (.istore 5, 17, 5, 0, .null) := by decide +kernel
theorem x_168_15 : Tr sc d 168 (15, [l0, l1, l2, l3, l4, l5], [.int i0], h) Q = Tr sc d 168 (17, [l0, l1, l2, l3, cl2 l4, some (.int i0)], [], h) Q := t_istore k_168_15 (Nat.le_of_ble_eq_true rfl)
theorem k_168_17 : lk 168 17 = some (.iload 5, 19, 5, 0, .null) := by decide +kernel
theorem x_168_17 : Tr sc d 168 (17, [l0, l1, l2, l3, l4, some (.int x)], [], h) Q = Tr sc d 168 (19, [l0, l1, l2, l3, l4, some (.int x)], [.int x], h) Q := t_iload k_168_17 rfl
theorem k_168_19 : lk 168 19 = some (.aload_n 0, 20, 0, 0, .null) := by decide +kernel
theorem x_168_19 : Tr sc d 168 (19, [some (.ref xk), l1, l2, l3, l4, l5], [.int i0], h) Q = Tr sc d 168 (20, [some (.ref xk), l1, l2, l3, l4, l5], [.ref xk, .int i0], h) Q := t_aload_n k_168_19 rfl
theorem k_168_20 : lk 168 20 = some (.getfield 17, 23, 10, 6, .null) := by decide +kernel
theorem x_168_20 : Tr sc d 168 (20, [l0, l1, l2, l3, l4, l5], [.ref k1, .int i0], h) Q = (okp h k1 10 = true ∧ ∃ q, hR h k1 6 = some q ∧ Tr sc d 168 (23, [l0, l1, l2, l3, l4, l5], [.ref q, .int i0], h) Q) := t_getr k_168_20
theorem k_168_23 : lk 168 23 = some (.iload_n 1, 24, 1, 0, .null) := by decide +kernel
theorem x_168_23 : Tr sc d 168 (23, [l0, some (.int x), l2, l3, l4, l5], [.ref k1, .int i0], h) Q = Tr sc d 168 (24, [l0, some (.int x), l2, l3, l4, l5], [.int x, .ref k1, .int i0], h) Q := t_iload_n k_168_23 rfl
theorem k_168_24 : lk 168 24 = some (.iaload, 25, 0, 0, .null) := by decide +kernel
theorem x_168_24 : Tr sc d 168 (24, [l0, l1, l2, l3, l4, l5], [.int i2, .ref k1, .int i0], h) Q = (iOk sc h k1 i2 ∧ Tr sc d 168 (25, [l0, l1, l2, l3, l4, l5], [.int (iRd sc h k1 i2), .int i0], h) Q) := t_iald k_168_24
theorem k_168_25 : lk 168 25 = some (.if_icmp .ge 25, 28, 50, 0, .null) := by decide +kernel
theorem x_168_25 : Tr sc d 168 (25, [l0, l1, l2, l3, l4, l5], [.int i1, .int i0], h) Q = if i1 ≤ i0 then Tr sc d 168 (50, [l0, l1, l2, l3, l4, l5], [], h) Q else Tr sc d 168 (28, [l0, l1, l2, l3, l4, l5], [], h) Q := t_if k_168_25 rfl
theorem k_168_28 : lk 168 28 = some (.lload_n 3, 29, 3, 0, .null) := by decide +kernel
theorem x_168_28 : Tr sc d 168 (28, [l0, l1, l2, some (.long xl), l4, l5], [], h) Q = Tr sc d 168 (29, [l0, l1, l2, some (.long xl), l4, l5], [.long xl], h) Q := t_lload_n k_168_28 rfl
theorem k_168_29 : lk 168 29 = some (.aload_n 0, 30, 0, 0, .null) := by decide +kernel
theorem x_168_29 : Tr sc d 168 (29, [some (.ref xk), l1, l2, l3, l4, l5], [.long j0], h) Q = Tr sc d 168 (30, [some (.ref xk), l1, l2, l3, l4, l5], [.ref xk, .long j0], h) Q := t_aload_n k_168_29 rfl
theorem k_168_30 : lk 168 30 = some (.getfield 20, 33, 10, 7, .null) := by decide +kernel
theorem x_168_30 : Tr sc d 168 (30, [l0, l1, l2, l3, l4, l5], [.ref k1, .long j0], h) Q = (okp h k1 10 = true ∧ ∃ q, hR h k1 7 = some q ∧ Tr sc d 168 (33, [l0, l1, l2, l3, l4, l5], [.ref q, .long j0], h) Q) := t_getr k_168_30
theorem k_168_33 : lk 168 33 = some (.bipush 40, 35, 0, 0, .int 40) := by decide +kernel
theorem x_168_33 : Tr sc d 168 (33, [l0, l1, l2, l3, l4, l5], [.ref k1, .long j0], h) Q = Tr sc d 168 (35, [l0, l1, l2, l3, l4, l5], [.int 40, .ref k1, .long j0], h) Q := t_go k_168_33 rfl
theorem k_168_35 : lk 168 35 = some (.iload_n 1, 36, 1, 0, .null) := by decide +kernel
theorem x_168_35 : Tr sc d 168 (35, [l0, some (.int x), l2, l3, l4, l5], [.int i2, .ref k1, .long j0], h) Q = Tr sc d 168 (36, [l0, some (.int x), l2, l3, l4, l5], [.int x, .int i2, .ref k1, .long j0], h) Q := t_iload_n k_168_35 rfl
theorem k_168_36 : lk 168 36 = some (.imul, 37, 0, 0, .null) := by decide +kernel
theorem x_168_36 : Tr sc d 168 (36, [l0, l1, l2, l3, l4, l5], [.int i3, .int i2, .ref k1, .long j0], h) Q = Tr sc d 168 (37, [l0, l1, l2, l3, l4, l5], [.int (i2 * i3), .ref k1, .long j0], h) Q := t_go k_168_36 rfl
theorem k_168_37 : lk 168 37 = some (.iload 5, 39, 5, 0, .null) := by decide +kernel
theorem x_168_37 : Tr sc d 168 (37, [l0, l1, l2, l3, l4, some (.int x)], [.int i2, .ref k1, .long j0], h) Q = Tr sc d 168 (39, [l0, l1, l2, l3, l4, some (.int x)], [.int x, .int i2, .ref k1, .long j0], h) Q := t_iload k_168_37 rfl
theorem k_168_39 : lk 168 39 = some (.iadd, 40, 0, 0, .null) := by decide +kernel
theorem x_168_39 : Tr sc d 168 (39, [l0, l1, l2, l3, l4, l5], [.int i3, .int i2, .ref k1, .long j0], h) Q = Tr sc d 168 (40, [l0, l1, l2, l3, l4, l5], [.int (i2 + i3), .ref k1, .long j0], h) Q := t_go k_168_39 rfl
theorem k_168_40 : lk 168 40 = some (.iaload, 41, 0, 0, .null) := by decide +kernel
theorem x_168_40 : Tr sc d 168 (40, [l0, l1, l2, l3, l4, l5], [.int i2, .ref k1, .long j0], h) Q = (iOk sc h k1 i2 ∧ Tr sc d 168 (41, [l0, l1, l2, l3, l4, l5], [.int (iRd sc h k1 i2), .long j0], h) Q) := t_iald k_168_40
theorem k_168_41 : lk 168 41 = some (.i2l, 42, 0, 0, .null) := by decide +kernel
theorem x_168_41 : Tr sc d 168 (41, [l0, l1, l2, l3, l4, l5], [.int i1, .long j0], h) Q = Tr sc d 168 (42, [l0, l1, l2, l3, l4, l5], [.long i1.toInt64, .long j0], h) Q := t_go k_168_41 rfl
theorem k_168_42 : lk 168 42 = some (.ladd, 43, 0, 0, .null) := by decide +kernel
theorem x_168_42 : Tr sc d 168 (42, [l0, l1, l2, l3, l4, l5], [.long j1, .long j0], h) Q = Tr sc d 168 (43, [l0, l1, l2, l3, l4, l5], [.long (j0 + j1)], h) Q := t_go k_168_42 rfl
theorem k_168_43 : lk 168 43 = some (.lstore_n 3, 44, 3, 0, .null) := by decide +kernel
theorem x_168_43 : Tr sc d 168 (43, [l0, l1, l2, l3, l4, l5], [.long j0], h) Q = Tr sc d 168 (44, [l0, l1, cl2 l2, some (.long j0), none, l5], [], h) Q := t_lstore_n k_168_43 (Nat.le_of_ble_eq_true rfl)
theorem k_168_44 : lk 168 44 = some (.iinc 5 1, 47, 5, 0, .int 1) := by decide +kernel
theorem x_168_44 : Tr sc d 168 (44, [l0, l1, l2, l3, l4, some (.int x)], [], h) Q = Tr sc d 168 (47, [l0, l1, l2, l3, cl2 l4, some (.int (x + 1))], [], h) Q := t_inc k_168_44 rfl (Nat.le_of_ble_eq_true rfl)
theorem k_168_47 : lk 168 47 = some (.goto (-30), 50, 17, 0, .null) := by decide +kernel
theorem x_168_47 : Tr sc d 168 (47, [l0, l1, l2, l3, l4, l5], [], h) Q = Tr sc d 168 (17, [l0, l1, l2, l3, l4, l5], [], h) Q := t_go k_168_47 rfl
theorem k_168_50 : lk 168 50 = some (.aload_n 0, 51, 0, 0, .null) := by decide +kernel
theorem x_168_50 : Tr sc d 168 (50, [some (.ref xk), l1, l2, l3, l4, l5], [], h) Q = Tr sc d 168 (51, [some (.ref xk), l1, l2, l3, l4, l5], [.ref xk], h) Q := t_aload_n k_168_50 rfl
theorem k_168_51 : lk 168 51 = some (.getfield 17, 54, 10, 6, .null) := by decide +kernel
theorem x_168_51 : Tr sc d 168 (51, [l0, l1, l2, l3, l4, l5], [.ref k0], h) Q = (okp h k0 10 = true ∧ ∃ q, hR h k0 6 = some q ∧ Tr sc d 168 (54, [l0, l1, l2, l3, l4, l5], [.ref q], h) Q) := t_getr k_168_51
theorem k_168_54 : lk 168 54 = some (.iload_n 1, 55, 1, 0, .null) := by decide +kernel
theorem x_168_54 : Tr sc d 168 (54, [l0, some (.int x), l2, l3, l4, l5], [.ref k0], h) Q = Tr sc d 168 (55, [l0, some (.int x), l2, l3, l4, l5], [.int x, .ref k0], h) Q := t_iload_n k_168_54 rfl
theorem k_168_55 : lk 168 55 = some (.iaload, 56, 0, 0, .null) := by decide +kernel
theorem x_168_55 : Tr sc d 168 (55, [l0, l1, l2, l3, l4, l5], [.int i1, .ref k0], h) Q = (iOk sc h k0 i1 ∧ Tr sc d 168 (56, [l0, l1, l2, l3, l4, l5], [.int (iRd sc h k0 i1)], h) Q) := t_iald k_168_55
theorem k_168_56 : lk 168 56 = some (.ifCond .ne 11, 59, 67, 0, .null) := by decide +kernel
theorem x_168_56 : Tr sc d 168 (56, [l0, l1, l2, l3, l4, l5], [.int i0], h) Q = if i0 = 0 then Tr sc d 168 (59, [l0, l1, l2, l3, l4, l5], [], h) Q else Tr sc d 168 (67, [l0, l1, l2, l3, l4, l5], [], h) Q := t_if k_168_56 rfl
theorem k_168_59 : lk 168 59 = some (.aload_n 0, 60, 0, 0, .null) := by decide +kernel
theorem x_168_59 : Tr sc d 168 (59, [some (.ref xk), l1, l2, l3, l4, l5], [], h) Q = Tr sc d 168 (60, [some (.ref xk), l1, l2, l3, l4, l5], [.ref xk], h) Q := t_aload_n k_168_59 rfl
theorem k_168_60 : lk 168 60 = some (.iconst 4, 61, 0, 0, .int 4) := by decide +kernel
theorem x_168_60 : Tr sc d 168 (60, [l0, l1, l2, l3, l4, l5], [.ref k0], h) Q = Tr sc d 168 (61, [l0, l1, l2, l3, l4, l5], [.int 4, .ref k0], h) Q := t_go k_168_60 rfl
theorem k_168_61 : lk 168 61 = some (.invokevirtual 152, 64, 157, 1, .null) := by decide +kernel
theorem x_168_61 : Tr sc (d + 1) 168 (61, [l0, l1, l2, l3, l4, l5], [.int i1, .ref k0], h) Q = (okp h k0 10 = true ∧ Tr sc d 157 (ent0 157 [.ref k0, .int i1] h) (fun z => Tr sc (d + 1) 168 (64, [l0, l1, l2, l3, l4, l5], z.1.toList ++ [], z.2) Q)) := t_cv (as := [.int i1]) (r := []) k_168_61 rfl rfl (Nat.le_of_ble_eq_true rfl) (Nat.le_of_ble_eq_true rfl) (Nat.le_of_ble_eq_true rfl)
theorem k_168_64 : lk 168 64 = some (.goto 18, 67, 82, 0, .null) := by decide +kernel
theorem x_168_64 : Tr sc d 168 (64, [l0, l1, l2, l3, l4, l5], [.int i0], h) Q = Tr sc d 168 (82, [l0, l1, l2, l3, l4, l5], [.int i0], h) Q := t_go k_168_64 rfl
theorem k_168_67 : lk 168 67 = some (.aload_n 0, 68, 0, 0, .null) := by decide +kernel
theorem x_168_67 : Tr sc d 168 (67, [some (.ref xk), l1, l2, l3, l4, l5], [], h) Q = Tr sc d 168 (68, [some (.ref xk), l1, l2, l3, l4, l5], [.ref xk], h) Q := t_aload_n k_168_67 rfl
theorem k_168_68 : lk 168 68 = some (.lload_n 3, 69, 3, 0, .null) := by decide +kernel
theorem x_168_68 : Tr sc d 168 (68, [l0, l1, l2, some (.long xl), l4, l5], [.ref k0], h) Q = Tr sc d 168 (69, [l0, l1, l2, some (.long xl), l4, l5], [.long xl, .ref k0], h) Q := t_lload_n k_168_68 rfl
theorem k_168_69 : lk 168 69 = some (.aload_n 0, 70, 0, 0, .null) := by decide +kernel
theorem x_168_69 : Tr sc d 168 (69, [some (.ref xk), l1, l2, l3, l4, l5], [.long j1, .ref k0], h) Q = Tr sc d 168 (70, [some (.ref xk), l1, l2, l3, l4, l5], [.ref xk, .long j1, .ref k0], h) Q := t_aload_n k_168_69 rfl
theorem k_168_70 : lk 168 70 = some (.getfield 17, 73, 10, 6, .null) := by decide +kernel
theorem x_168_70 : Tr sc d 168 (70, [l0, l1, l2, l3, l4, l5], [.ref k2, .long j1, .ref k0], h) Q = (okp h k2 10 = true ∧ ∃ q, hR h k2 6 = some q ∧ Tr sc d 168 (73, [l0, l1, l2, l3, l4, l5], [.ref q, .long j1, .ref k0], h) Q) := t_getr k_168_70
theorem k_168_73 : lk 168 73 = some (.iload_n 1, 74, 1, 0, .null) := by decide +kernel
theorem x_168_73 : Tr sc d 168 (73, [l0, some (.int x), l2, l3, l4, l5], [.ref k2, .long j1, .ref k0], h) Q = Tr sc d 168 (74, [l0, some (.int x), l2, l3, l4, l5], [.int x, .ref k2, .long j1, .ref k0], h) Q := t_iload_n k_168_73 rfl
theorem k_168_74 : lk 168 74 = some (.iaload, 75, 0, 0, .null) := by decide +kernel
theorem x_168_74 : Tr sc d 168 (74, [l0, l1, l2, l3, l4, l5], [.int i3, .ref k2, .long j1, .ref k0], h) Q = (iOk sc h k2 i3 ∧ Tr sc d 168 (75, [l0, l1, l2, l3, l4, l5], [.int (iRd sc h k2 i3), .long j1, .ref k0], h) Q) := t_iald k_168_74
theorem k_168_75 : lk 168 75 = some (.i2l, 76, 0, 0, .null) := by decide +kernel
theorem x_168_75 : Tr sc d 168 (75, [l0, l1, l2, l3, l4, l5], [.int i2, .long j1, .ref k0], h) Q = Tr sc d 168 (76, [l0, l1, l2, l3, l4, l5], [.long i2.toInt64, .long j1, .ref k0], h) Q := t_go k_168_75 rfl
theorem k_168_76 : lk 168 76 = some (.ldiv, 77, 0, 0, .null) := by decide +kernel
theorem x_168_76 : Tr sc d 168 (76, [l0, l1, l2, l3, l4, l5], [.long j2, .long j1, .ref k0], h) Q = (¬ j2 = 0 ∧ Tr sc d 168 (77, [l0, l1, l2, l3, l4, l5], [.long (j1 / j2), .ref k0], h) Q) := t_ng k_168_76 rfl
theorem k_168_77 : lk 168 77 = some (.l2i, 78, 0, 0, .null) := by decide +kernel
theorem x_168_77 : Tr sc d 168 (77, [l0, l1, l2, l3, l4, l5], [.long j1, .ref k0], h) Q = Tr sc d 168 (78, [l0, l1, l2, l3, l4, l5], [.int j1.toInt32, .ref k0], h) Q := t_go k_168_77 rfl
theorem k_168_78 : lk 168 78 = some (.iconst 1, 79, 0, 0, .int 1) := by decide +kernel
theorem x_168_78 : Tr sc d 168 (78, [l0, l1, l2, l3, l4, l5], [.int i1, .ref k0], h) Q = Tr sc d 168 (79, [l0, l1, l2, l3, l4, l5], [.int 1, .int i1, .ref k0], h) Q := t_go k_168_78 rfl
theorem k_168_79 : lk 168 79 = some (.invokevirtual 162, 82, 158, 2, .null) := by decide +kernel
theorem x_168_79 : Tr sc (d + 1) 168 (79, [l0, l1, l2, l3, l4, l5], [.int i2, .int i1, .ref k0], h) Q = (okp h k0 10 = true ∧ Tr sc d 158 (ent0 158 [.ref k0, .int i1, .int i2] h) (fun z => Tr sc (d + 1) 168 (82, [l0, l1, l2, l3, l4, l5], z.1.toList ++ [], z.2) Q)) := t_cv (as := [.int i1, .int i2]) (r := []) k_168_79 rfl rfl (Nat.le_of_ble_eq_true rfl) (Nat.le_of_ble_eq_true rfl) (Nat.le_of_ble_eq_true rfl)
theorem k_168_82 : lk 168 82 = some (.ireturn, 83, 0, 0, .null) := by decide +kernel
theorem x_168_82 : Tr sc d 168 (82, [l0, l1, l2, l3, l4, l5], [.int i0], h) Q = Q (some (.int i0), h) := t_ret k_168_82 (by rw [r_168]; rfl)
theorem e_168 : Tr sc d 168 (ent0 168 [.ref k0, .int i1] h) Q = Tr sc d 168 (0, [some (.ref k0), some (.int i1), none, none, none, none], [], h) Q := by
  have e : mL 168 = 6 := by decide +kernel
  unfold ent0
  rw [e]
  rfl
theorem r_169 : mR 169 = some .int := by decide +kernel
theorem k_169_0 : lk 169 0 = some (.iload_n 1, 1, 1, 0, .null) := by decide +kernel
theorem x_169_0 : Tr sc d 169 (0, [l0, some (.int x), l2, l3], [], h) Q = Tr sc d 169 (1, [l0, some (.int x), l2, l3], [.int x], h) Q := t_iload_n k_169_0 rfl
theorem k_169_1 : lk 169 1 = some (.invokestatic 156, 4, 161, 1, .null) := by decide +kernel
theorem x_169_1 : Tr sc (d + 1) 169 (1, [l0, l1, l2, l3], [.int i0], h) Q = Tr sc d 161 (ent0 161 [.int i0] h) (fun z => Tr sc (d + 1) 169 (4, [l0, l1, l2, l3], z.1.toList ++ [], z.2) Q) := t_cs (as := [.int i0]) (r := []) k_169_1 (by decide) rfl rfl (Nat.le_of_ble_eq_true rfl) (Nat.le_of_ble_eq_true rfl)
theorem k_169_4 : lk 169 4 = some (.ifCond .eq 9, 7, 13, 0, .null) := by decide +kernel
theorem x_169_4 : Tr sc d 169 (4, [l0, l1, l2, l3], [.int i0], h) Q = if i0 = 0 then Tr sc d 169 (13, [l0, l1, l2, l3], [], h) Q else Tr sc d 169 (7, [l0, l1, l2, l3], [], h) Q := t_if k_169_4 rfl
theorem k_169_7 : lk 169 7 = some (.iload_n 2, 8, 2, 0, .null) := by decide +kernel
theorem x_169_7 : Tr sc d 169 (7, [l0, l1, some (.int x), l3], [], h) Q = Tr sc d 169 (8, [l0, l1, some (.int x), l3], [.int x], h) Q := t_iload_n k_169_7 rfl
theorem k_169_8 : lk 169 8 = some (.bipush 60, 10, 0, 0, .int 60) := by decide +kernel
theorem x_169_8 : Tr sc d 169 (8, [l0, l1, l2, l3], [.int i0], h) Q = Tr sc d 169 (10, [l0, l1, l2, l3], [.int 60, .int i0], h) Q := t_go k_169_8 rfl
theorem k_169_10 : lk 169 10 = some (.if_icmp .le 5, 13, 15, 0, .null) := by decide +kernel
theorem x_169_10 : Tr sc d 169 (10, [l0, l1, l2, l3], [.int i1, .int i0], h) Q = if i0 ≤ i1 then Tr sc d 169 (15, [l0, l1, l2, l3], [], h) Q else Tr sc d 169 (13, [l0, l1, l2, l3], [], h) Q := t_if k_169_10 rfl
theorem k_169_13 : lk 169 13 = some (.iconst (-1), 14, 0, 0, .int (-1)) := by decide +kernel
theorem x_169_13 : Tr sc d 169 (13, [l0, l1, l2, l3], [], h) Q = Tr sc d 169 (14, [l0, l1, l2, l3], [.int (-1)], h) Q := t_go k_169_13 rfl
theorem k_169_14 : lk 169 14 = some (.ireturn, 15, 0, 0, .null) := by decide +kernel
theorem x_169_14 : Tr sc d 169 (14, [l0, l1, l2, l3], [.int i0], h) Q = Q (some (.int i0), h) := t_ret k_169_14 (by rw [r_169]; rfl)
theorem k_169_15 : lk 169 15 = some (.iload_n 2, 16, 2, 0, .null) := by decide +kernel
theorem x_169_15 : Tr sc d 169 (15, [l0, l1, some (.int x), l3], [], h) Q = Tr sc d 169 (16, [l0, l1, some (.int x), l3], [.int x], h) Q := t_iload_n k_169_15 rfl
theorem k_169_16 : lk 169 16 = some (.ifCond .ge 9, 19, 25, 0, .null) := by decide +kernel
theorem x_169_16 : Tr sc d 169 (16, [l0, l1, l2, l3], [.int i0], h) Q = if 0 ≤ i0 then Tr sc d 169 (25, [l0, l1, l2, l3], [], h) Q else Tr sc d 169 (19, [l0, l1, l2, l3], [], h) Q := t_if k_169_16 rfl
theorem k_169_19 : lk 169 19 = some (.aload_n 0, 20, 0, 0, .null) := by decide +kernel
theorem x_169_19 : Tr sc d 169 (19, [some (.ref xk), l1, l2, l3], [], h) Q = Tr sc d 169 (20, [some (.ref xk), l1, l2, l3], [.ref xk], h) Q := t_aload_n k_169_19 rfl
theorem k_169_20 : lk 169 20 = some (.iconst 5, 21, 0, 0, .int 5) := by decide +kernel
theorem x_169_20 : Tr sc d 169 (20, [l0, l1, l2, l3], [.ref k0], h) Q = Tr sc d 169 (21, [l0, l1, l2, l3], [.int 5, .ref k0], h) Q := t_go k_169_20 rfl
theorem k_169_21 : lk 169 21 = some (.invokevirtual 152, 24, 157, 1, .null) := by decide +kernel
theorem x_169_21 : Tr sc (d + 1) 169 (21, [l0, l1, l2, l3], [.int i1, .ref k0], h) Q = (okp h k0 10 = true ∧ Tr sc d 157 (ent0 157 [.ref k0, .int i1] h) (fun z => Tr sc (d + 1) 169 (24, [l0, l1, l2, l3], z.1.toList ++ [], z.2) Q)) := t_cv (as := [.int i1]) (r := []) k_169_21 rfl rfl (Nat.le_of_ble_eq_true rfl) (Nat.le_of_ble_eq_true rfl) (Nat.le_of_ble_eq_true rfl)
theorem k_169_24 : lk 169 24 = some (.ireturn, 25, 0, 0, .null) := by decide +kernel
theorem x_169_24 : Tr sc d 169 (24, [l0, l1, l2, l3], [.int i0], h) Q = Q (some (.int i0), h) := t_ret k_169_24 (by rw [r_169]; rfl)
theorem k_169_25 : lk 169 25 = some (.aload_n 0, 26, 0, 0, .null) := by decide +kernel
theorem x_169_25 : Tr sc d 169 (25, [some (.ref xk), l1, l2, l3], [], h) Q = Tr sc d 169 (26, [some (.ref xk), l1, l2, l3], [.ref xk], h) Q := t_aload_n k_169_25 rfl
theorem k_169_26 : lk 169 26 = some (.getfield 26, 29, 10, 9, .null) := by decide +kernel
theorem x_169_26 : Tr sc d 169 (26, [l0, l1, l2, l3], [.ref k0], h) Q = (okp h k0 10 = true ∧ ∃ q, hR h k0 9 = some q ∧ Tr sc d 169 (29, [l0, l1, l2, l3], [.ref q], h) Q) := t_getr k_169_26
theorem k_169_29 : lk 169 29 = some (.iload_n 1, 30, 1, 0, .null) := by decide +kernel
theorem x_169_29 : Tr sc d 169 (29, [l0, some (.int x), l2, l3], [.ref k0], h) Q = Tr sc d 169 (30, [l0, some (.int x), l2, l3], [.int x, .ref k0], h) Q := t_iload_n k_169_29 rfl
theorem k_169_30 : lk 169 30 = some (.iload_n 2, 31, 2, 0, .null) := by decide +kernel
theorem x_169_30 : Tr sc d 169 (30, [l0, l1, some (.int x), l3], [.int i1, .ref k0], h) Q = Tr sc d 169 (31, [l0, l1, some (.int x), l3], [.int x, .int i1, .ref k0], h) Q := t_iload_n k_169_30 rfl
theorem k_169_31 : lk 169 31 = some (.iastore, 32, 0, 0, .null) := by decide +kernel
theorem x_169_31 : Tr sc d 169 (31, [l0, l1, l2, l3], [.int i2, .int i1, .ref k0], h) Q = ((okp h k0 11 && inb i1 (LN k0)) = true ∧ Tr sc d 169 (32, [l0, l1, l2, l3], [], (sI h k0 i1.toNatClampNeg i2)) Q) := t_gd k_169_31 rfl
theorem k_169_32 : lk 169 32 = some (.iconst 0, 33, 0, 0, .int 0) := by decide +kernel
theorem x_169_32 : Tr sc d 169 (32, [l0, l1, l2, l3], [], h) Q = Tr sc d 169 (33, [l0, l1, l2, l3], [.int 0], h) Q := t_go k_169_32 rfl
theorem k_169_33 : lk 169 33 = some (.istore_n 3, 34, 3, 0, .null) := by decide +kernel
theorem x_169_33 : Tr sc d 169 (33, [l0, l1, l2, l3], [.int i0], h) Q = Tr sc d 169 (34, [l0, l1, cl2 l2, some (.int i0)], [], h) Q := t_istore_n k_169_33 (Nat.le_of_ble_eq_true rfl)
theorem k_169_34 : lk 169 34 = some (.iload_n 3, 35, 3, 0, .null) := by decide +kernel
theorem x_169_34 : Tr sc d 169 (34, [l0, l1, l2, some (.int x)], [], h) Q = Tr sc d 169 (35, [l0, l1, l2, some (.int x)], [.int x], h) Q := t_iload_n k_169_34 rfl
theorem k_169_35 : lk 169 35 = some (.bipush 60, 37, 0, 0, .int 60) := by decide +kernel
theorem x_169_35 : Tr sc d 169 (35, [l0, l1, l2, l3], [.int i0], h) Q = Tr sc d 169 (37, [l0, l1, l2, l3], [.int 60, .int i0], h) Q := t_go k_169_35 rfl
theorem k_169_37 : lk 169 37 = some (.if_icmp .ge 22, 40, 59, 0, .null) := by decide +kernel
theorem x_169_37 : Tr sc d 169 (37, [l0, l1, l2, l3], [.int i1, .int i0], h) Q = if i1 ≤ i0 then Tr sc d 169 (59, [l0, l1, l2, l3], [], h) Q else Tr sc d 169 (40, [l0, l1, l2, l3], [], h) Q := t_if k_169_37 rfl
theorem k_169_40 : lk 169 40 = some (.aload_n 0, 41, 0, 0, .null) := by decide +kernel
theorem x_169_40 : Tr sc d 169 (40, [some (.ref xk), l1, l2, l3], [], h) Q = Tr sc d 169 (41, [some (.ref xk), l1, l2, l3], [.ref xk], h) Q := t_aload_n k_169_40 rfl
theorem k_169_41 : lk 169 41 = some (.getfield 29, 44, 10, 10, .null) := by decide +kernel
theorem x_169_41 : Tr sc d 169 (41, [l0, l1, l2, l3], [.ref k0], h) Q = (okp h k0 10 = true ∧ ∃ q, hR h k0 10 = some q ∧ Tr sc d 169 (44, [l0, l1, l2, l3], [.ref q], h) Q) := t_getr k_169_41
theorem k_169_44 : lk 169 44 = some (.bipush 60, 46, 0, 0, .int 60) := by decide +kernel
theorem x_169_44 : Tr sc d 169 (44, [l0, l1, l2, l3], [.ref k0], h) Q = Tr sc d 169 (46, [l0, l1, l2, l3], [.int 60, .ref k0], h) Q := t_go k_169_44 rfl
theorem k_169_46 : lk 169 46 = some (.iload_n 1, 47, 1, 0, .null) := by decide +kernel
theorem x_169_46 : Tr sc d 169 (46, [l0, some (.int x), l2, l3], [.int i1, .ref k0], h) Q = Tr sc d 169 (47, [l0, some (.int x), l2, l3], [.int x, .int i1, .ref k0], h) Q := t_iload_n k_169_46 rfl
theorem k_169_47 : lk 169 47 = some (.imul, 48, 0, 0, .null) := by decide +kernel
theorem x_169_47 : Tr sc d 169 (47, [l0, l1, l2, l3], [.int i2, .int i1, .ref k0], h) Q = Tr sc d 169 (48, [l0, l1, l2, l3], [.int (i1 * i2), .ref k0], h) Q := t_go k_169_47 rfl
theorem k_169_48 : lk 169 48 = some (.iload_n 3, 49, 3, 0, .null) := by decide +kernel
theorem x_169_48 : Tr sc d 169 (48, [l0, l1, l2, some (.int x)], [.int i1, .ref k0], h) Q = Tr sc d 169 (49, [l0, l1, l2, some (.int x)], [.int x, .int i1, .ref k0], h) Q := t_iload_n k_169_48 rfl
theorem k_169_49 : lk 169 49 = some (.iadd, 50, 0, 0, .null) := by decide +kernel
theorem x_169_49 : Tr sc d 169 (49, [l0, l1, l2, l3], [.int i2, .int i1, .ref k0], h) Q = Tr sc d 169 (50, [l0, l1, l2, l3], [.int (i1 + i2), .ref k0], h) Q := t_go k_169_49 rfl
theorem k_169_50 : lk 169 50 = some (.bipush 32, 52, 0, 0, .int 32) := by decide +kernel
theorem x_169_50 : Tr sc d 169 (50, [l0, l1, l2, l3], [.int i1, .ref k0], h) Q = Tr sc d 169 (52, [l0, l1, l2, l3], [.int 32, .int i1, .ref k0], h) Q := t_go k_169_50 rfl
theorem k_169_52 : lk 169 52 = some (.iastore, 53, 0, 0, .null) := by decide +kernel
theorem x_169_52 : Tr sc d 169 (52, [l0, l1, l2, l3], [.int i2, .int i1, .ref k0], h) Q = ((okp h k0 11 && inb i1 (LN k0)) = true ∧ Tr sc d 169 (53, [l0, l1, l2, l3], [], (sI h k0 i1.toNatClampNeg i2)) Q) := t_gd k_169_52 rfl
theorem k_169_53 : lk 169 53 = some (.iinc 3 1, 56, 3, 0, .int 1) := by decide +kernel
theorem x_169_53 : Tr sc d 169 (53, [l0, l1, l2, some (.int x)], [], h) Q = Tr sc d 169 (56, [l0, l1, cl2 l2, some (.int (x + 1))], [], h) Q := t_inc k_169_53 rfl (Nat.le_of_ble_eq_true rfl)
theorem k_169_56 : lk 169 56 = some (.goto (-22), 59, 34, 0, .null) := by decide +kernel
theorem x_169_56 : Tr sc d 169 (56, [l0, l1, l2, l3], [], h) Q = Tr sc d 169 (34, [l0, l1, l2, l3], [], h) Q := t_go k_169_56 rfl
theorem k_169_59 : lk 169 59 = some (.iload_n 2, 60, 2, 0, .null) := by decide +kernel
theorem x_169_59 : Tr sc d 169 (59, [l0, l1, some (.int x), l3], [], h) Q = Tr sc d 169 (60, [l0, l1, some (.int x), l3], [.int x], h) Q := t_iload_n k_169_59 rfl
theorem k_169_60 : lk 169 60 = some (.ireturn, 61, 0, 0, .null) := by decide +kernel
theorem x_169_60 : Tr sc d 169 (60, [l0, l1, l2, l3], [.int i0], h) Q = Q (some (.int i0), h) := t_ret k_169_60 (by rw [r_169]; rfl)
theorem e_169 : Tr sc d 169 (ent0 169 [.ref k0, .int i1, .int i2] h) Q = Tr sc d 169 (0, [some (.ref k0), some (.int i1), some (.int i2), none], [], h) Q := by
  have e : mL 169 = 4 := by decide +kernel
  unfold ent0
  rw [e]
  rfl
theorem r_170 : mR 170 = some .int := by decide +kernel
theorem k_170_0 : lk 170 0 = some (.aload_n 0, 1, 0, 0, .null) := by decide +kernel
theorem x_170_0 : Tr sc d 170 (0, [some (.ref xk), l1, l2, l3, l4, l5], [], h) Q = Tr sc d 170 (1, [some (.ref xk), l1, l2, l3, l4, l5], [.ref xk], h) Q := t_aload_n k_170_0 rfl
theorem k_170_1 : lk 170 1 = some (.iload_n 1, 2, 1, 0, .null) := by decide +kernel
theorem x_170_1 : Tr sc d 170 (1, [l0, some (.int x), l2, l3, l4, l5], [.ref k0], h) Q = Tr sc d 170 (2, [l0, some (.int x), l2, l3, l4, l5], [.int x, .ref k0], h) Q := t_iload_n k_170_1 rfl
theorem k_170_2 : lk 170 2 = some (.invokevirtual 166, 5, 163, 1, .null) := by decide +kernel
theorem x_170_2 : Tr sc (d + 1) 170 (2, [l0, l1, l2, l3, l4, l5], [.int i1, .ref k0], h) Q = (okp h k0 10 = true ∧ Tr sc d 163 (ent0 163 [.ref k0, .int i1] h) (fun z => Tr sc (d + 1) 170 (5, [l0, l1, l2, l3, l4, l5], z.1.toList ++ [], z.2) Q)) := t_cv (as := [.int i1]) (r := []) k_170_2 rfl rfl (Nat.le_of_ble_eq_true rfl) (Nat.le_of_ble_eq_true rfl) (Nat.le_of_ble_eq_true rfl)
theorem k_170_5 : lk 170 5 = some (.istore 4, 7, 4, 0, .null) := by decide +kernel
theorem x_170_5 : Tr sc d 170 (5, [l0, l1, l2, l3, l4, l5], [.int i0], h) Q = Tr sc d 170 (7, [l0, l1, l2, cl2 l3, some (.int i0), l5], [], h) Q := t_istore k_170_5 (Nat.le_of_ble_eq_true rfl)
theorem k_170_7 : lk 170 7 = some (.iload 4, 9, 4, 0, .null) := by decide +kernel
theorem x_170_7 : Tr sc d 170 (7, [l0, l1, l2, l3, some (.int x), l5], [], h) Q = Tr sc d 170 (9, [l0, l1, l2, l3, some (.int x), l5], [.int x], h) Q := t_iload k_170_7 rfl
theorem k_170_9 : lk 170 9 = some (.ifCond .ge 6, 12, 15, 0, .null) := by decide +kernel
theorem x_170_9 : Tr sc d 170 (9, [l0, l1, l2, l3, l4, l5], [.int i0], h) Q = if 0 ≤ i0 then Tr sc d 170 (15, [l0, l1, l2, l3, l4, l5], [], h) Q else Tr sc d 170 (12, [l0, l1, l2, l3, l4, l5], [], h) Q := t_if k_170_9 rfl
theorem k_170_12 : lk 170 12 = some (.iload 4, 14, 4, 0, .null) := by decide +kernel
theorem x_170_12 : Tr sc d 170 (12, [l0, l1, l2, l3, some (.int x), l5], [], h) Q = Tr sc d 170 (14, [l0, l1, l2, l3, some (.int x), l5], [.int x], h) Q := t_iload k_170_12 rfl
theorem k_170_14 : lk 170 14 = some (.ireturn, 15, 0, 0, .null) := by decide +kernel
theorem x_170_14 : Tr sc d 170 (14, [l0, l1, l2, l3, l4, l5], [.int i0], h) Q = Q (some (.int i0), h) := t_ret k_170_14 (by rw [r_170]; rfl)
theorem k_170_15 : lk 170 15 = some (.iload_n 2, 16, 2, 0, .null) := by decide +kernel
theorem x_170_15 : Tr sc d 170 (15, [l0, l1, some (.int x), l3, l4, l5], [], h) Q = Tr sc d 170 (16, [l0, l1, some (.int x), l3, l4, l5], [.int x], h) Q := t_iload_n k_170_15 rfl
theorem k_170_16 : lk 170 16 = some (.iconst 0, 17, 0, 0, .int 0) := by decide +kernel
theorem x_170_16 : Tr sc d 170 (16, [l0, l1, l2, l3, l4, l5], [.int i0], h) Q = Tr sc d 170 (17, [l0, l1, l2, l3, l4, l5], [.int 0, .int i0], h) Q := t_go k_170_16 rfl
theorem k_170_17 : lk 170 17 = some (.aload_n 0, 18, 0, 0, .null) := by decide +kernel
theorem x_170_17 : Tr sc d 170 (17, [some (.ref xk), l1, l2, l3, l4, l5], [.int i1, .int i0], h) Q = Tr sc d 170 (18, [some (.ref xk), l1, l2, l3, l4, l5], [.ref xk, .int i1, .int i0], h) Q := t_aload_n k_170_17 rfl
theorem k_170_18 : lk 170 18 = some (.getfield 26, 21, 10, 9, .null) := by decide +kernel
theorem x_170_18 : Tr sc d 170 (18, [l0, l1, l2, l3, l4, l5], [.ref k2, .int i1, .int i0], h) Q = (okp h k2 10 = true ∧ ∃ q, hR h k2 9 = some q ∧ Tr sc d 170 (21, [l0, l1, l2, l3, l4, l5], [.ref q, .int i1, .int i0], h) Q) := t_getr k_170_18
theorem k_170_21 : lk 170 21 = some (.iload_n 1, 22, 1, 0, .null) := by decide +kernel
theorem x_170_21 : Tr sc d 170 (21, [l0, some (.int x), l2, l3, l4, l5], [.ref k2, .int i1, .int i0], h) Q = Tr sc d 170 (22, [l0, some (.int x), l2, l3, l4, l5], [.int x, .ref k2, .int i1, .int i0], h) Q := t_iload_n k_170_21 rfl
theorem k_170_22 : lk 170 22 = some (.iaload, 23, 0, 0, .null) := by decide +kernel
theorem x_170_22 : Tr sc d 170 (22, [l0, l1, l2, l3, l4, l5], [.int i3, .ref k2, .int i1, .int i0], h) Q = (iOk sc h k2 i3 ∧ Tr sc d 170 (23, [l0, l1, l2, l3, l4, l5], [.int (iRd sc h k2 i3), .int i1, .int i0], h) Q) := t_iald k_170_22
theorem k_170_23 : lk 170 23 = some (.iconst 1, 24, 0, 0, .int 1) := by decide +kernel
theorem x_170_23 : Tr sc d 170 (23, [l0, l1, l2, l3, l4, l5], [.int i2, .int i1, .int i0], h) Q = Tr sc d 170 (24, [l0, l1, l2, l3, l4, l5], [.int 1, .int i2, .int i1, .int i0], h) Q := t_go k_170_23 rfl
theorem k_170_24 : lk 170 24 = some (.isub, 25, 0, 0, .null) := by decide +kernel
theorem x_170_24 : Tr sc d 170 (24, [l0, l1, l2, l3, l4, l5], [.int i3, .int i2, .int i1, .int i0], h) Q = Tr sc d 170 (25, [l0, l1, l2, l3, l4, l5], [.int (i2 - i3), .int i1, .int i0], h) Q := t_go k_170_24 rfl
theorem k_170_25 : lk 170 25 = some (.invokestatic 144, 28, 156, 3, .null) := by decide +kernel
theorem x_170_25 : Tr sc (d + 1) 170 (25, [l0, l1, l2, l3, l4, l5], [.int i2, .int i1, .int i0], h) Q = Tr sc d 156 (ent0 156 [.int i0, .int i1, .int i2] h) (fun z => Tr sc (d + 1) 170 (28, [l0, l1, l2, l3, l4, l5], z.1.toList ++ [], z.2) Q) := t_cs (as := [.int i0, .int i1, .int i2]) (r := []) k_170_25 (by decide) rfl rfl (Nat.le_of_ble_eq_true rfl) (Nat.le_of_ble_eq_true rfl)
theorem k_170_28 : lk 170 28 = some (.ifCond .ne 9, 31, 37, 0, .null) := by decide +kernel
theorem x_170_28 : Tr sc d 170 (28, [l0, l1, l2, l3, l4, l5], [.int i0], h) Q = if i0 = 0 then Tr sc d 170 (31, [l0, l1, l2, l3, l4, l5], [], h) Q else Tr sc d 170 (37, [l0, l1, l2, l3, l4, l5], [], h) Q := t_if k_170_28 rfl
theorem k_170_31 : lk 170 31 = some (.aload_n 0, 32, 0, 0, .null) := by decide +kernel
theorem x_170_31 : Tr sc d 170 (31, [some (.ref xk), l1, l2, l3, l4, l5], [], h) Q = Tr sc d 170 (32, [some (.ref xk), l1, l2, l3, l4, l5], [.ref xk], h) Q := t_aload_n k_170_31 rfl
theorem k_170_32 : lk 170 32 = some (.iconst 2, 33, 0, 0, .int 2) := by decide +kernel
theorem x_170_32 : Tr sc d 170 (32, [l0, l1, l2, l3, l4, l5], [.ref k0], h) Q = Tr sc d 170 (33, [l0, l1, l2, l3, l4, l5], [.int 2, .ref k0], h) Q := t_go k_170_32 rfl
theorem k_170_33 : lk 170 33 = some (.invokevirtual 152, 36, 157, 1, .null) := by decide +kernel
theorem x_170_33 : Tr sc (d + 1) 170 (33, [l0, l1, l2, l3, l4, l5], [.int i1, .ref k0], h) Q = (okp h k0 10 = true ∧ Tr sc d 157 (ent0 157 [.ref k0, .int i1] h) (fun z => Tr sc (d + 1) 170 (36, [l0, l1, l2, l3, l4, l5], z.1.toList ++ [], z.2) Q)) := t_cv (as := [.int i1]) (r := []) k_170_33 rfl rfl (Nat.le_of_ble_eq_true rfl) (Nat.le_of_ble_eq_true rfl) (Nat.le_of_ble_eq_true rfl)
theorem k_170_36 : lk 170 36 = some (.ireturn, 37, 0, 0, .null) := by decide +kernel
theorem x_170_36 : Tr sc d 170 (36, [l0, l1, l2, l3, l4, l5], [.int i0], h) Q = Q (some (.int i0), h) := t_ret k_170_36 (by rw [r_170]; rfl)
theorem k_170_37 : lk 170 37 = some (.aload_n 0, 38, 0, 0, .null) := by decide +kernel
theorem x_170_37 : Tr sc d 170 (37, [some (.ref xk), l1, l2, l3, l4, l5], [], h) Q = Tr sc d 170 (38, [some (.ref xk), l1, l2, l3, l4, l5], [.ref xk], h) Q := t_aload_n k_170_37 rfl
theorem k_170_38 : lk 170 38 = some (.getfield 29, 41, 10, 10, .null) := by decide +kernel
theorem x_170_38 : Tr sc d 170 (38, [l0, l1, l2, l3, l4, l5], [.ref k0], h) Q = (okp h k0 10 = true ∧ ∃ q, hR h k0 10 = some q ∧ Tr sc d 170 (41, [l0, l1, l2, l3, l4, l5], [.ref q], h) Q) := t_getr k_170_38
theorem k_170_41 : lk 170 41 = some (.bipush 60, 43, 0, 0, .int 60) := by decide +kernel
theorem x_170_41 : Tr sc d 170 (41, [l0, l1, l2, l3, l4, l5], [.ref k0], h) Q = Tr sc d 170 (43, [l0, l1, l2, l3, l4, l5], [.int 60, .ref k0], h) Q := t_go k_170_41 rfl
theorem k_170_43 : lk 170 43 = some (.iload_n 1, 44, 1, 0, .null) := by decide +kernel
theorem x_170_43 : Tr sc d 170 (43, [l0, some (.int x), l2, l3, l4, l5], [.int i1, .ref k0], h) Q = Tr sc d 170 (44, [l0, some (.int x), l2, l3, l4, l5], [.int x, .int i1, .ref k0], h) Q := t_iload_n k_170_43 rfl
theorem k_170_44 : lk 170 44 = some (.imul, 45, 0, 0, .null) := by decide +kernel
theorem x_170_44 : Tr sc d 170 (44, [l0, l1, l2, l3, l4, l5], [.int i2, .int i1, .ref k0], h) Q = Tr sc d 170 (45, [l0, l1, l2, l3, l4, l5], [.int (i1 * i2), .ref k0], h) Q := t_go k_170_44 rfl
theorem k_170_45 : lk 170 45 = some (.iload_n 2, 46, 2, 0, .null) := by decide +kernel
theorem x_170_45 : Tr sc d 170 (45, [l0, l1, some (.int x), l3, l4, l5], [.int i1, .ref k0], h) Q = Tr sc d 170 (46, [l0, l1, some (.int x), l3, l4, l5], [.int x, .int i1, .ref k0], h) Q := t_iload_n k_170_45 rfl
theorem k_170_46 : lk 170 46 = some (.iadd, 47, 0, 0, .null) := by decide +kernel
theorem x_170_46 : Tr sc d 170 (46, [l0, l1, l2, l3, l4, l5], [.int i2, .int i1, .ref k0], h) Q = Tr sc d 170 (47, [l0, l1, l2, l3, l4, l5], [.int (i1 + i2), .ref k0], h) Q := t_go k_170_46 rfl
theorem k_170_47 : lk 170 47 = some (.iaload, 48, 0, 0, .null) := by decide +kernel
theorem x_170_47 : Tr sc d 170 (47, [l0, l1, l2, l3, l4, l5], [.int i1, .ref k0], h) Q = (iOk sc h k0 i1 ∧ Tr sc d 170 (48, [l0, l1, l2, l3, l4, l5], [.int (iRd sc h k0 i1)], h) Q) := t_iald k_170_47
theorem k_170_48 : lk 170 48 = some (.istore 5, 50, 5, 0, .null) := by decide +kernel
theorem x_170_48 : Tr sc d 170 (48, [l0, l1, l2, l3, l4, l5], [.int i0], h) Q = Tr sc d 170 (50, [l0, l1, l2, l3, cl2 l4, some (.int i0)], [], h) Q := t_istore k_170_48 (Nat.le_of_ble_eq_true rfl)
theorem k_170_50 : lk 170 50 = some (.aload_n 0, 51, 0, 0, .null) := by decide +kernel
theorem x_170_50 : Tr sc d 170 (50, [some (.ref xk), l1, l2, l3, l4, l5], [], h) Q = Tr sc d 170 (51, [some (.ref xk), l1, l2, l3, l4, l5], [.ref xk], h) Q := t_aload_n k_170_50 rfl
theorem k_170_51 : lk 170 51 = some (.getfield 29, 54, 10, 10, .null) := by decide +kernel
theorem x_170_51 : Tr sc d 170 (51, [l0, l1, l2, l3, l4, l5], [.ref k0], h) Q = (okp h k0 10 = true ∧ ∃ q, hR h k0 10 = some q ∧ Tr sc d 170 (54, [l0, l1, l2, l3, l4, l5], [.ref q], h) Q) := t_getr k_170_51
theorem k_170_54 : lk 170 54 = some (.bipush 60, 56, 0, 0, .int 60) := by decide +kernel
theorem x_170_54 : Tr sc d 170 (54, [l0, l1, l2, l3, l4, l5], [.ref k0], h) Q = Tr sc d 170 (56, [l0, l1, l2, l3, l4, l5], [.int 60, .ref k0], h) Q := t_go k_170_54 rfl
theorem k_170_56 : lk 170 56 = some (.iload_n 1, 57, 1, 0, .null) := by decide +kernel
theorem x_170_56 : Tr sc d 170 (56, [l0, some (.int x), l2, l3, l4, l5], [.int i1, .ref k0], h) Q = Tr sc d 170 (57, [l0, some (.int x), l2, l3, l4, l5], [.int x, .int i1, .ref k0], h) Q := t_iload_n k_170_56 rfl
theorem k_170_57 : lk 170 57 = some (.imul, 58, 0, 0, .null) := by decide +kernel
theorem x_170_57 : Tr sc d 170 (57, [l0, l1, l2, l3, l4, l5], [.int i2, .int i1, .ref k0], h) Q = Tr sc d 170 (58, [l0, l1, l2, l3, l4, l5], [.int (i1 * i2), .ref k0], h) Q := t_go k_170_57 rfl
theorem k_170_58 : lk 170 58 = some (.iload_n 2, 59, 2, 0, .null) := by decide +kernel
theorem x_170_58 : Tr sc d 170 (58, [l0, l1, some (.int x), l3, l4, l5], [.int i1, .ref k0], h) Q = Tr sc d 170 (59, [l0, l1, some (.int x), l3, l4, l5], [.int x, .int i1, .ref k0], h) Q := t_iload_n k_170_58 rfl
theorem k_170_59 : lk 170 59 = some (.iadd, 60, 0, 0, .null) := by decide +kernel
theorem x_170_59 : Tr sc d 170 (59, [l0, l1, l2, l3, l4, l5], [.int i2, .int i1, .ref k0], h) Q = Tr sc d 170 (60, [l0, l1, l2, l3, l4, l5], [.int (i1 + i2), .ref k0], h) Q := t_go k_170_59 rfl
theorem k_170_60 : lk 170 60 = some (.iload_n 3, 61, 3, 0, .null) := by decide +kernel
theorem x_170_60 : Tr sc d 170 (60, [l0, l1, l2, some (.int x), l4, l5], [.int i1, .ref k0], h) Q = Tr sc d 170 (61, [l0, l1, l2, some (.int x), l4, l5], [.int x, .int i1, .ref k0], h) Q := t_iload_n k_170_60 rfl
theorem k_170_61 : lk 170 61 = some (.i2b, 62, 0, 0, .null) := by decide +kernel
theorem x_170_61 : Tr sc d 170 (61, [l0, l1, l2, l3, l4, l5], [.int i2, .int i1, .ref k0], h) Q = Tr sc d 170 (62, [l0, l1, l2, l3, l4, l5], [.int i2.toInt8.toInt32, .int i1, .ref k0], h) Q := t_go k_170_61 rfl
theorem k_170_62 : lk 170 62 = some (.iastore, 63, 0, 0, .null) := by decide +kernel
theorem x_170_62 : Tr sc d 170 (62, [l0, l1, l2, l3, l4, l5], [.int i2, .int i1, .ref k0], h) Q = ((okp h k0 11 && inb i1 (LN k0)) = true ∧ Tr sc d 170 (63, [l0, l1, l2, l3, l4, l5], [], (sI h k0 i1.toNatClampNeg i2)) Q) := t_gd k_170_62 rfl
theorem k_170_63 : lk 170 63 = some (.iload 5, 65, 5, 0, .null) := by decide +kernel
theorem x_170_63 : Tr sc d 170 (63, [l0, l1, l2, l3, l4, some (.int x)], [], h) Q = Tr sc d 170 (65, [l0, l1, l2, l3, l4, some (.int x)], [.int x], h) Q := t_iload k_170_63 rfl
theorem k_170_65 : lk 170 65 = some (.sipush 1000, 68, 0, 0, .int 1000) := by decide +kernel
theorem x_170_65 : Tr sc d 170 (65, [l0, l1, l2, l3, l4, l5], [.int i0], h) Q = Tr sc d 170 (68, [l0, l1, l2, l3, l4, l5], [.int 1000, .int i0], h) Q := t_go k_170_65 rfl
theorem k_170_68 : lk 170 68 = some (.iadd, 69, 0, 0, .null) := by decide +kernel
theorem x_170_68 : Tr sc d 170 (68, [l0, l1, l2, l3, l4, l5], [.int i1, .int i0], h) Q = Tr sc d 170 (69, [l0, l1, l2, l3, l4, l5], [.int (i0 + i1)], h) Q := t_go k_170_68 rfl
theorem k_170_69 : lk 170 69 = some (.ireturn, 70, 0, 0, .null) := by decide +kernel
theorem x_170_69 : Tr sc d 170 (69, [l0, l1, l2, l3, l4, l5], [.int i0], h) Q = Q (some (.int i0), h) := t_ret k_170_69 (by rw [r_170]; rfl)
theorem e_170 : Tr sc d 170 (ent0 170 [.ref k0, .int i1, .int i2, .int i3] h) Q = Tr sc d 170 (0, [some (.ref k0), some (.int i1), some (.int i2), some (.int i3), none, none], [], h) Q := by
  have e : mL 170 = 6 := by decide +kernel
  unfold ent0
  rw [e]
  rfl
theorem r_171 : mR 171 = some .int := by decide +kernel
theorem k_171_0 : lk 171 0 = some (.aload_n 0, 1, 0, 0, .null) := by decide +kernel
theorem x_171_0 : Tr sc d 171 (0, [some (.ref xk), l1], [], h) Q = Tr sc d 171 (1, [some (.ref xk), l1], [.ref xk], h) Q := t_aload_n k_171_0 rfl
theorem k_171_1 : lk 171 1 = some (.getfield 169, 4, 10, 14, .int 0) := by decide +kernel
theorem x_171_1 : Tr sc d 171 (1, [l0, l1], [.ref k0], h) Q = (okp h k0 10 = true ∧ Tr sc d 171 (4, [l0, l1], [.int (hI h k0 14)], h) Q) := t_gd k_171_1 rfl
theorem k_171_4 : lk 171 4 = some (.aload_n 0, 5, 0, 0, .null) := by decide +kernel
theorem x_171_4 : Tr sc d 171 (4, [some (.ref xk), l1], [.int i0], h) Q = Tr sc d 171 (5, [some (.ref xk), l1], [.ref xk, .int i0], h) Q := t_aload_n k_171_4 rfl
theorem k_171_5 : lk 171 5 = some (.getfield 26, 8, 10, 9, .null) := by decide +kernel
theorem x_171_5 : Tr sc d 171 (5, [l0, l1], [.ref k1, .int i0], h) Q = (okp h k1 10 = true ∧ ∃ q, hR h k1 9 = some q ∧ Tr sc d 171 (8, [l0, l1], [.ref q, .int i0], h) Q) := t_getr k_171_5
theorem k_171_8 : lk 171 8 = some (.iload_n 1, 9, 1, 0, .null) := by decide +kernel
theorem x_171_8 : Tr sc d 171 (8, [l0, some (.int x)], [.ref k1, .int i0], h) Q = Tr sc d 171 (9, [l0, some (.int x)], [.int x, .ref k1, .int i0], h) Q := t_iload_n k_171_8 rfl
theorem k_171_9 : lk 171 9 = some (.iaload, 10, 0, 0, .null) := by decide +kernel
theorem x_171_9 : Tr sc d 171 (9, [l0, l1], [.int i2, .ref k1, .int i0], h) Q = (iOk sc h k1 i2 ∧ Tr sc d 171 (10, [l0, l1], [.int (iRd sc h k1 i2), .int i0], h) Q) := t_iald k_171_9
theorem k_171_10 : lk 171 10 = some (.if_icmp .ge 20, 13, 30, 0, .null) := by decide +kernel
theorem x_171_10 : Tr sc d 171 (10, [l0, l1], [.int i1, .int i0], h) Q = if i1 ≤ i0 then Tr sc d 171 (30, [l0, l1], [], h) Q else Tr sc d 171 (13, [l0, l1], [], h) Q := t_if k_171_10 rfl
theorem k_171_13 : lk 171 13 = some (.aload_n 0, 14, 0, 0, .null) := by decide +kernel
theorem x_171_13 : Tr sc d 171 (13, [some (.ref xk), l1], [], h) Q = Tr sc d 171 (14, [some (.ref xk), l1], [.ref xk], h) Q := t_aload_n k_171_13 rfl
theorem k_171_14 : lk 171 14 = some (.getfield 29, 17, 10, 10, .null) := by decide +kernel
theorem x_171_14 : Tr sc d 171 (14, [l0, l1], [.ref k0], h) Q = (okp h k0 10 = true ∧ ∃ q, hR h k0 10 = some q ∧ Tr sc d 171 (17, [l0, l1], [.ref q], h) Q) := t_getr k_171_14
theorem k_171_17 : lk 171 17 = some (.bipush 60, 19, 0, 0, .int 60) := by decide +kernel
theorem x_171_17 : Tr sc d 171 (17, [l0, l1], [.ref k0], h) Q = Tr sc d 171 (19, [l0, l1], [.int 60, .ref k0], h) Q := t_go k_171_17 rfl
theorem k_171_19 : lk 171 19 = some (.iload_n 1, 20, 1, 0, .null) := by decide +kernel
theorem x_171_19 : Tr sc d 171 (19, [l0, some (.int x)], [.int i1, .ref k0], h) Q = Tr sc d 171 (20, [l0, some (.int x)], [.int x, .int i1, .ref k0], h) Q := t_iload_n k_171_19 rfl
theorem k_171_20 : lk 171 20 = some (.imul, 21, 0, 0, .null) := by decide +kernel
theorem x_171_20 : Tr sc d 171 (20, [l0, l1], [.int i2, .int i1, .ref k0], h) Q = Tr sc d 171 (21, [l0, l1], [.int (i1 * i2), .ref k0], h) Q := t_go k_171_20 rfl
theorem k_171_21 : lk 171 21 = some (.aload_n 0, 22, 0, 0, .null) := by decide +kernel
theorem x_171_21 : Tr sc d 171 (21, [some (.ref xk), l1], [.int i1, .ref k0], h) Q = Tr sc d 171 (22, [some (.ref xk), l1], [.ref xk, .int i1, .ref k0], h) Q := t_aload_n k_171_21 rfl
theorem k_171_22 : lk 171 22 = some (.getfield 169, 25, 10, 14, .int 0) := by decide +kernel
theorem x_171_22 : Tr sc d 171 (22, [l0, l1], [.ref k2, .int i1, .ref k0], h) Q = (okp h k2 10 = true ∧ Tr sc d 171 (25, [l0, l1], [.int (hI h k2 14), .int i1, .ref k0], h) Q) := t_gd k_171_22 rfl
theorem k_171_25 : lk 171 25 = some (.iadd, 26, 0, 0, .null) := by decide +kernel
theorem x_171_25 : Tr sc d 171 (25, [l0, l1], [.int i2, .int i1, .ref k0], h) Q = Tr sc d 171 (26, [l0, l1], [.int (i1 + i2), .ref k0], h) Q := t_go k_171_25 rfl
theorem k_171_26 : lk 171 26 = some (.iaload, 27, 0, 0, .null) := by decide +kernel
theorem x_171_26 : Tr sc d 171 (26, [l0, l1], [.int i1, .ref k0], h) Q = (iOk sc h k0 i1 ∧ Tr sc d 171 (27, [l0, l1], [.int (iRd sc h k0 i1)], h) Q) := t_iald k_171_26
theorem k_171_27 : lk 171 27 = some (.goto 5, 30, 32, 0, .null) := by decide +kernel
theorem x_171_27 : Tr sc d 171 (27, [l0, l1], [.int i0], h) Q = Tr sc d 171 (32, [l0, l1], [.int i0], h) Q := t_go k_171_27 rfl
theorem k_171_30 : lk 171 30 = some (.bipush (-9), 32, 0, 0, .int (-9)) := by decide +kernel
theorem x_171_30 : Tr sc d 171 (30, [l0, l1], [], h) Q = Tr sc d 171 (32, [l0, l1], [.int (-9)], h) Q := t_go k_171_30 rfl
theorem k_171_32 : lk 171 32 = some (.ireturn, 33, 0, 0, .null) := by decide +kernel
theorem x_171_32 : Tr sc d 171 (32, [l0, l1], [.int i0], h) Q = Q (some (.int i0), h) := t_ret k_171_32 (by rw [r_171]; rfl)
theorem e_171 : Tr sc d 171 (ent0 171 [.ref k0, .int i1] h) Q = Tr sc d 171 (0, [some (.ref k0), some (.int i1)], [], h) Q := by
  have e : mL 171 = 2 := by decide +kernel
  unfold ent0
  rw [e]
  rfl
theorem r_172 : mR 172 = some .boolean := by decide +kernel
theorem k_172_0 : lk 172 0 = some (.aload_n 0, 1, 0, 0, .null) := by decide +kernel
theorem x_172_0 : Tr sc d 172 (0, [some (.ref xk), l1, l2], [], h) Q = Tr sc d 172 (1, [some (.ref xk), l1, l2], [.ref xk], h) Q := t_aload_n k_172_0 rfl
theorem k_172_1 : lk 172 1 = some (.iload_n 1, 2, 1, 0, .null) := by decide +kernel
theorem x_172_1 : Tr sc d 172 (1, [l0, some (.int x), l2], [.ref k0], h) Q = Tr sc d 172 (2, [l0, some (.int x), l2], [.int x, .ref k0], h) Q := t_iload_n k_172_1 rfl
theorem k_172_2 : lk 172 2 = some (.invokevirtual 172, 5, 171, 1, .null) := by decide +kernel
theorem x_172_2 : Tr sc (d + 1) 172 (2, [l0, l1, l2], [.int i1, .ref k0], h) Q = (okp h k0 10 = true ∧ Tr sc d 171 (ent0 171 [.ref k0, .int i1] h) (fun z => Tr sc (d + 1) 172 (5, [l0, l1, l2], z.1.toList ++ [], z.2) Q)) := t_cv (as := [.int i1]) (r := []) k_172_2 rfl rfl (Nat.le_of_ble_eq_true rfl) (Nat.le_of_ble_eq_true rfl) (Nat.le_of_ble_eq_true rfl)
theorem k_172_5 : lk 172 5 = some (.bipush 45, 7, 0, 0, .int 45) := by decide +kernel
theorem x_172_5 : Tr sc d 172 (5, [l0, l1, l2], [.int i0], h) Q = Tr sc d 172 (7, [l0, l1, l2], [.int 45, .int i0], h) Q := t_go k_172_5 rfl
theorem k_172_7 : lk 172 7 = some (.if_icmp .ne 7, 10, 14, 0, .null) := by decide +kernel
theorem x_172_7 : Tr sc d 172 (7, [l0, l1, l2], [.int i1, .int i0], h) Q = if i0 = i1 then Tr sc d 172 (10, [l0, l1, l2], [], h) Q else Tr sc d 172 (14, [l0, l1, l2], [], h) Q := t_if k_172_7 rfl
theorem k_172_10 : lk 172 10 = some (.iconst 1, 11, 0, 0, .int 1) := by decide +kernel
theorem x_172_10 : Tr sc d 172 (10, [l0, l1, l2], [], h) Q = Tr sc d 172 (11, [l0, l1, l2], [.int 1], h) Q := t_go k_172_10 rfl
theorem k_172_11 : lk 172 11 = some (.goto 4, 14, 15, 0, .null) := by decide +kernel
theorem x_172_11 : Tr sc d 172 (11, [l0, l1, l2], [.int i0], h) Q = Tr sc d 172 (15, [l0, l1, l2], [.int i0], h) Q := t_go k_172_11 rfl
theorem k_172_14 : lk 172 14 = some (.iconst 0, 15, 0, 0, .int 0) := by decide +kernel
theorem x_172_14 : Tr sc d 172 (14, [l0, l1, l2], [], h) Q = Tr sc d 172 (15, [l0, l1, l2], [.int 0], h) Q := t_go k_172_14 rfl
theorem k_172_15 : lk 172 15 = some (.istore_n 2, 16, 2, 0, .null) := by decide +kernel
theorem x_172_15 : Tr sc d 172 (15, [l0, l1, l2], [.int i0], h) Q = Tr sc d 172 (16, [l0, cl2 l1, some (.int i0)], [], h) Q := t_istore_n k_172_15 (Nat.le_of_ble_eq_true rfl)
theorem k_172_16 : lk 172 16 = some (.aload_n 0, 17, 0, 0, .null) := by decide +kernel
theorem x_172_16 : Tr sc d 172 (16, [some (.ref xk), l1, l2], [], h) Q = Tr sc d 172 (17, [some (.ref xk), l1, l2], [.ref xk], h) Q := t_aload_n k_172_16 rfl
theorem k_172_17 : lk 172 17 = some (.dup, 18, 0, 0, .null) := by decide +kernel
theorem x_172_17 : Tr sc d 172 (17, [l0, l1, l2], [.ref k0], h) Q = Tr sc d 172 (18, [l0, l1, l2], [.ref k0, .ref k0], h) Q := t_go k_172_17 rfl
theorem k_172_18 : lk 172 18 = some (.getfield 169, 21, 10, 14, .int 0) := by decide +kernel
theorem x_172_18 : Tr sc d 172 (18, [l0, l1, l2], [.ref k1, .ref k0], h) Q = (okp h k1 10 = true ∧ Tr sc d 172 (21, [l0, l1, l2], [.int (hI h k1 14), .ref k0], h) Q) := t_gd k_172_18 rfl
theorem k_172_21 : lk 172 21 = some (.iload_n 2, 22, 2, 0, .null) := by decide +kernel
theorem x_172_21 : Tr sc d 172 (21, [l0, l1, some (.int x)], [.int i1, .ref k0], h) Q = Tr sc d 172 (22, [l0, l1, some (.int x)], [.int x, .int i1, .ref k0], h) Q := t_iload_n k_172_21 rfl
theorem k_172_22 : lk 172 22 = some (.ifCond .eq 7, 25, 29, 0, .null) := by decide +kernel
theorem x_172_22 : Tr sc d 172 (22, [l0, l1, l2], [.int i2, .int i1, .ref k0], h) Q = if i2 = 0 then Tr sc d 172 (29, [l0, l1, l2], [.int i1, .ref k0], h) Q else Tr sc d 172 (25, [l0, l1, l2], [.int i1, .ref k0], h) Q := t_if k_172_22 rfl
theorem k_172_25 : lk 172 25 = some (.iconst 1, 26, 0, 0, .int 1) := by decide +kernel
theorem x_172_25 : Tr sc d 172 (25, [l0, l1, l2], [.int i1, .ref k0], h) Q = Tr sc d 172 (26, [l0, l1, l2], [.int 1, .int i1, .ref k0], h) Q := t_go k_172_25 rfl
theorem k_172_26 : lk 172 26 = some (.goto 4, 29, 30, 0, .null) := by decide +kernel
theorem x_172_26 : Tr sc d 172 (26, [l0, l1, l2], [.int i2, .int i1, .ref k0], h) Q = Tr sc d 172 (30, [l0, l1, l2], [.int i2, .int i1, .ref k0], h) Q := t_go k_172_26 rfl
theorem k_172_29 : lk 172 29 = some (.iconst 0, 30, 0, 0, .int 0) := by decide +kernel
theorem x_172_29 : Tr sc d 172 (29, [l0, l1, l2], [.int i1, .ref k0], h) Q = Tr sc d 172 (30, [l0, l1, l2], [.int 0, .int i1, .ref k0], h) Q := t_go k_172_29 rfl
theorem k_172_30 : lk 172 30 = some (.iadd, 31, 0, 0, .null) := by decide +kernel
theorem x_172_30 : Tr sc d 172 (30, [l0, l1, l2], [.int i2, .int i1, .ref k0], h) Q = Tr sc d 172 (31, [l0, l1, l2], [.int (i1 + i2), .ref k0], h) Q := t_go k_172_30 rfl
theorem k_172_31 : lk 172 31 = some (.putfield 169, 34, 10, 14, .int 0) := by decide +kernel
theorem x_172_31 : Tr sc d 172 (31, [l0, l1, l2], [.int i1, .ref k0], h) Q = (okp h k0 10 = true ∧ Tr sc d 172 (34, [l0, l1, l2], [], (sI h k0 14 i1)) Q) := t_gd k_172_31 rfl
theorem k_172_34 : lk 172 34 = some (.aload_n 0, 35, 0, 0, .null) := by decide +kernel
theorem x_172_34 : Tr sc d 172 (34, [some (.ref xk), l1, l2], [], h) Q = Tr sc d 172 (35, [some (.ref xk), l1, l2], [.ref xk], h) Q := t_aload_n k_172_34 rfl
theorem k_172_35 : lk 172 35 = some (.iload_n 1, 36, 1, 0, .null) := by decide +kernel
theorem x_172_35 : Tr sc d 172 (35, [l0, some (.int x), l2], [.ref k0], h) Q = Tr sc d 172 (36, [l0, some (.int x), l2], [.int x, .ref k0], h) Q := t_iload_n k_172_35 rfl
theorem k_172_36 : lk 172 36 = some (.invokevirtual 172, 39, 171, 1, .null) := by decide +kernel
theorem x_172_36 : Tr sc (d + 1) 172 (36, [l0, l1, l2], [.int i1, .ref k0], h) Q = (okp h k0 10 = true ∧ Tr sc d 171 (ent0 171 [.ref k0, .int i1] h) (fun z => Tr sc (d + 1) 172 (39, [l0, l1, l2], z.1.toList ++ [], z.2) Q)) := t_cv (as := [.int i1]) (r := []) k_172_36 rfl rfl (Nat.le_of_ble_eq_true rfl) (Nat.le_of_ble_eq_true rfl) (Nat.le_of_ble_eq_true rfl)
theorem k_172_39 : lk 172 39 = some (.bipush 48, 41, 0, 0, .int 48) := by decide +kernel
theorem x_172_39 : Tr sc d 172 (39, [l0, l1, l2], [.int i0], h) Q = Tr sc d 172 (41, [l0, l1, l2], [.int 48, .int i0], h) Q := t_go k_172_39 rfl
theorem k_172_41 : lk 172 41 = some (.bipush 57, 43, 0, 0, .int 57) := by decide +kernel
theorem x_172_41 : Tr sc d 172 (41, [l0, l1, l2], [.int i1, .int i0], h) Q = Tr sc d 172 (43, [l0, l1, l2], [.int 57, .int i1, .int i0], h) Q := t_go k_172_41 rfl
theorem k_172_43 : lk 172 43 = some (.invokestatic 144, 46, 156, 3, .null) := by decide +kernel
theorem x_172_43 : Tr sc (d + 1) 172 (43, [l0, l1, l2], [.int i2, .int i1, .int i0], h) Q = Tr sc d 156 (ent0 156 [.int i0, .int i1, .int i2] h) (fun z => Tr sc (d + 1) 172 (46, [l0, l1, l2], z.1.toList ++ [], z.2) Q) := t_cs (as := [.int i0, .int i1, .int i2]) (r := []) k_172_43 (by decide) rfl rfl (Nat.le_of_ble_eq_true rfl) (Nat.le_of_ble_eq_true rfl)
theorem k_172_46 : lk 172 46 = some (.ifCond .ne 5, 49, 51, 0, .null) := by decide +kernel
theorem x_172_46 : Tr sc d 172 (46, [l0, l1, l2], [.int i0], h) Q = if i0 = 0 then Tr sc d 172 (49, [l0, l1, l2], [], h) Q else Tr sc d 172 (51, [l0, l1, l2], [], h) Q := t_if k_172_46 rfl
theorem k_172_49 : lk 172 49 = some (.iconst 0, 50, 0, 0, .int 0) := by decide +kernel
theorem x_172_49 : Tr sc d 172 (49, [l0, l1, l2], [], h) Q = Tr sc d 172 (50, [l0, l1, l2], [.int 0], h) Q := t_go k_172_49 rfl
theorem k_172_50 : lk 172 50 = some (.ireturn, 51, 0, 0, .null) := by decide +kernel
theorem x_172_50 : Tr sc d 172 (50, [l0, l1, l2], [.int i0], h) Q = (vp_nar .boolean i0 = i0 ∧ Q (some (.int i0), h)) := t_zret k_172_50 r_172
theorem k_172_51 : lk 172 51 = some (.aload_n 0, 52, 0, 0, .null) := by decide +kernel
theorem x_172_51 : Tr sc d 172 (51, [some (.ref xk), l1, l2], [], h) Q = Tr sc d 172 (52, [some (.ref xk), l1, l2], [.ref xk], h) Q := t_aload_n k_172_51 rfl
theorem k_172_52 : lk 172 52 = some (.iload_n 2, 53, 2, 0, .null) := by decide +kernel
theorem x_172_52 : Tr sc d 172 (52, [l0, l1, some (.int x)], [.ref k0], h) Q = Tr sc d 172 (53, [l0, l1, some (.int x)], [.int x, .ref k0], h) Q := t_iload_n k_172_52 rfl
theorem k_172_53 : lk 172 53 = some (.ifCond .eq 14, 56, 67, 0, .null) := by decide +kernel
theorem x_172_53 : Tr sc d 172 (53, [l0, l1, l2], [.int i1, .ref k0], h) Q = if i1 = 0 then Tr sc d 172 (67, [l0, l1, l2], [.ref k0], h) Q else Tr sc d 172 (56, [l0, l1, l2], [.ref k0], h) Q := t_if k_172_53 rfl
theorem k_172_56 : lk 172 56 = some (.bipush 48, 58, 0, 0, .int 48) := by decide +kernel
theorem x_172_56 : Tr sc d 172 (56, [l0, l1, l2], [.ref k0], h) Q = Tr sc d 172 (58, [l0, l1, l2], [.int 48, .ref k0], h) Q := t_go k_172_56 rfl
theorem k_172_58 : lk 172 58 = some (.aload_n 0, 59, 0, 0, .null) := by decide +kernel
theorem x_172_58 : Tr sc d 172 (58, [some (.ref xk), l1, l2], [.int i1, .ref k0], h) Q = Tr sc d 172 (59, [some (.ref xk), l1, l2], [.ref xk, .int i1, .ref k0], h) Q := t_aload_n k_172_58 rfl
theorem k_172_59 : lk 172 59 = some (.iload_n 1, 60, 1, 0, .null) := by decide +kernel
theorem x_172_59 : Tr sc d 172 (59, [l0, some (.int x), l2], [.ref k2, .int i1, .ref k0], h) Q = Tr sc d 172 (60, [l0, some (.int x), l2], [.int x, .ref k2, .int i1, .ref k0], h) Q := t_iload_n k_172_59 rfl
theorem k_172_60 : lk 172 60 = some (.invokevirtual 172, 63, 171, 1, .null) := by decide +kernel
theorem x_172_60 : Tr sc (d + 1) 172 (60, [l0, l1, l2], [.int i3, .ref k2, .int i1, .ref k0], h) Q = (okp h k2 10 = true ∧ Tr sc d 171 (ent0 171 [.ref k2, .int i3] h) (fun z => Tr sc (d + 1) 172 (63, [l0, l1, l2], z.1.toList ++ [.int i1, .ref k0], z.2) Q)) := t_cv (as := [.int i3]) (r := [.int i1, .ref k0]) k_172_60 rfl rfl (Nat.le_of_ble_eq_true rfl) (Nat.le_of_ble_eq_true rfl) (Nat.le_of_ble_eq_true rfl)
theorem k_172_63 : lk 172 63 = some (.isub, 64, 0, 0, .null) := by decide +kernel
theorem x_172_63 : Tr sc d 172 (63, [l0, l1, l2], [.int i2, .int i1, .ref k0], h) Q = Tr sc d 172 (64, [l0, l1, l2], [.int (i1 - i2), .ref k0], h) Q := t_go k_172_63 rfl
theorem k_172_64 : lk 172 64 = some (.goto 11, 67, 75, 0, .null) := by decide +kernel
theorem x_172_64 : Tr sc d 172 (64, [l0, l1, l2], [.int i1, .ref k0], h) Q = Tr sc d 172 (75, [l0, l1, l2], [.int i1, .ref k0], h) Q := t_go k_172_64 rfl
theorem k_172_67 : lk 172 67 = some (.aload_n 0, 68, 0, 0, .null) := by decide +kernel
theorem x_172_67 : Tr sc d 172 (67, [some (.ref xk), l1, l2], [.ref k0], h) Q = Tr sc d 172 (68, [some (.ref xk), l1, l2], [.ref xk, .ref k0], h) Q := t_aload_n k_172_67 rfl
theorem k_172_68 : lk 172 68 = some (.iload_n 1, 69, 1, 0, .null) := by decide +kernel
theorem x_172_68 : Tr sc d 172 (68, [l0, some (.int x), l2], [.ref k1, .ref k0], h) Q = Tr sc d 172 (69, [l0, some (.int x), l2], [.int x, .ref k1, .ref k0], h) Q := t_iload_n k_172_68 rfl
theorem k_172_69 : lk 172 69 = some (.invokevirtual 172, 72, 171, 1, .null) := by decide +kernel
theorem x_172_69 : Tr sc (d + 1) 172 (69, [l0, l1, l2], [.int i2, .ref k1, .ref k0], h) Q = (okp h k1 10 = true ∧ Tr sc d 171 (ent0 171 [.ref k1, .int i2] h) (fun z => Tr sc (d + 1) 172 (72, [l0, l1, l2], z.1.toList ++ [.ref k0], z.2) Q)) := t_cv (as := [.int i2]) (r := [.ref k0]) k_172_69 rfl rfl (Nat.le_of_ble_eq_true rfl) (Nat.le_of_ble_eq_true rfl) (Nat.le_of_ble_eq_true rfl)
theorem k_172_72 : lk 172 72 = some (.bipush 48, 74, 0, 0, .int 48) := by decide +kernel
theorem x_172_72 : Tr sc d 172 (72, [l0, l1, l2], [.int i1, .ref k0], h) Q = Tr sc d 172 (74, [l0, l1, l2], [.int 48, .int i1, .ref k0], h) Q := t_go k_172_72 rfl
theorem k_172_74 : lk 172 74 = some (.isub, 75, 0, 0, .null) := by decide +kernel
theorem x_172_74 : Tr sc d 172 (74, [l0, l1, l2], [.int i2, .int i1, .ref k0], h) Q = Tr sc d 172 (75, [l0, l1, l2], [.int (i1 - i2), .ref k0], h) Q := t_go k_172_74 rfl
theorem k_172_75 : lk 172 75 = some (.putfield 175, 78, 10, 15, .int 0) := by decide +kernel
theorem x_172_75 : Tr sc d 172 (75, [l0, l1, l2], [.int i1, .ref k0], h) Q = (okp h k0 10 = true ∧ Tr sc d 172 (78, [l0, l1, l2], [], (sI h k0 15 i1)) Q) := t_gd k_172_75 rfl
theorem k_172_78 : lk 172 78 = some (.aload_n 0, 79, 0, 0, .null) := by decide +kernel
theorem x_172_78 : Tr sc d 172 (78, [some (.ref xk), l1, l2], [], h) Q = Tr sc d 172 (79, [some (.ref xk), l1, l2], [.ref xk], h) Q := t_aload_n k_172_78 rfl
theorem k_172_79 : lk 172 79 = some (.dup, 80, 0, 0, .null) := by decide +kernel
theorem x_172_79 : Tr sc d 172 (79, [l0, l1, l2], [.ref k0], h) Q = Tr sc d 172 (80, [l0, l1, l2], [.ref k0, .ref k0], h) Q := t_go k_172_79 rfl
theorem k_172_80 : lk 172 80 = some (.getfield 169, 83, 10, 14, .int 0) := by decide +kernel
theorem x_172_80 : Tr sc d 172 (80, [l0, l1, l2], [.ref k1, .ref k0], h) Q = (okp h k1 10 = true ∧ Tr sc d 172 (83, [l0, l1, l2], [.int (hI h k1 14), .ref k0], h) Q) := t_gd k_172_80 rfl
theorem k_172_83 : lk 172 83 = some (.iconst 1, 84, 0, 0, .int 1) := by decide +kernel
theorem x_172_83 : Tr sc d 172 (83, [l0, l1, l2], [.int i1, .ref k0], h) Q = Tr sc d 172 (84, [l0, l1, l2], [.int 1, .int i1, .ref k0], h) Q := t_go k_172_83 rfl
theorem k_172_84 : lk 172 84 = some (.iadd, 85, 0, 0, .null) := by decide +kernel
theorem x_172_84 : Tr sc d 172 (84, [l0, l1, l2], [.int i2, .int i1, .ref k0], h) Q = Tr sc d 172 (85, [l0, l1, l2], [.int (i1 + i2), .ref k0], h) Q := t_go k_172_84 rfl
theorem k_172_85 : lk 172 85 = some (.putfield 169, 88, 10, 14, .int 0) := by decide +kernel
theorem x_172_85 : Tr sc d 172 (85, [l0, l1, l2], [.int i1, .ref k0], h) Q = (okp h k0 10 = true ∧ Tr sc d 172 (88, [l0, l1, l2], [], (sI h k0 14 i1)) Q) := t_gd k_172_85 rfl
theorem k_172_88 : lk 172 88 = some (.iconst 1, 89, 0, 0, .int 1) := by decide +kernel
theorem x_172_88 : Tr sc d 172 (88, [l0, l1, l2], [], h) Q = Tr sc d 172 (89, [l0, l1, l2], [.int 1], h) Q := t_go k_172_88 rfl
theorem k_172_89 : lk 172 89 = some (.ireturn, 90, 0, 0, .null) := by decide +kernel
theorem x_172_89 : Tr sc d 172 (89, [l0, l1, l2], [.int i0], h) Q = (vp_nar .boolean i0 = i0 ∧ Q (some (.int i0), h)) := t_zret k_172_89 r_172
theorem e_172 : Tr sc d 172 (ent0 172 [.ref k0, .int i1] h) Q = Tr sc d 172 (0, [some (.ref k0), some (.int i1), none], [], h) Q := by
  have e : mL 172 = 3 := by decide +kernel
  unfold ent0
  rw [e]
  rfl
theorem r_173 : mR 173 = some .int := by decide +kernel
theorem k_173_0 : lk 173 0 = some (.aload_n 0, 1, 0, 0, .null) := by decide +kernel
theorem x_173_0 : Tr sc d 173 (0, [some (.ref xk), l1, l2], [], h) Q = Tr sc d 173 (1, [some (.ref xk), l1, l2], [.ref xk], h) Q := t_aload_n k_173_0 rfl
theorem k_173_1 : lk 173 1 = some (.iconst 0, 2, 0, 0, .int 0) := by decide +kernel
theorem x_173_1 : Tr sc d 173 (1, [l0, l1, l2], [.ref k0], h) Q = Tr sc d 173 (2, [l0, l1, l2], [.int 0, .ref k0], h) Q := t_go k_173_1 rfl
theorem k_173_2 : lk 173 2 = some (.putfield 169, 5, 10, 14, .int 0) := by decide +kernel
theorem x_173_2 : Tr sc d 173 (2, [l0, l1, l2], [.int i1, .ref k0], h) Q = (okp h k0 10 = true ∧ Tr sc d 173 (5, [l0, l1, l2], [], (sI h k0 14 i1)) Q) := t_gd k_173_2 rfl
theorem k_173_5 : lk 173 5 = some (.aload_n 0, 6, 0, 0, .null) := by decide +kernel
theorem x_173_5 : Tr sc d 173 (5, [some (.ref xk), l1, l2], [], h) Q = Tr sc d 173 (6, [some (.ref xk), l1, l2], [.ref xk], h) Q := t_aload_n k_173_5 rfl
theorem k_173_6 : lk 173 6 = some (.iconst 0, 7, 0, 0, .int 0) := by decide +kernel
theorem x_173_6 : Tr sc d 173 (6, [l0, l1, l2], [.ref k0], h) Q = Tr sc d 173 (7, [l0, l1, l2], [.int 0, .ref k0], h) Q := t_go k_173_6 rfl
theorem k_173_7 : lk 173 7 = some (.putfield 178, 10, 10, 12, .int 0) := by decide +kernel
theorem x_173_7 : Tr sc d 173 (7, [l0, l1, l2], [.int i1, .ref k0], h) Q = (okp h k0 10 = true ∧ Tr sc d 173 (10, [l0, l1, l2], [], (sI h k0 12 i1)) Q) := t_gd k_173_7 rfl
theorem k_173_10 : lk 173 10 = some (.aload_n 0, 11, 0, 0, .null) := by decide +kernel
theorem x_173_10 : Tr sc d 173 (10, [some (.ref xk), l1, l2], [], h) Q = Tr sc d 173 (11, [some (.ref xk), l1, l2], [.ref xk], h) Q := t_aload_n k_173_10 rfl
theorem k_173_11 : lk 173 11 = some (.iload_n 1, 12, 1, 0, .null) := by decide +kernel
theorem x_173_11 : Tr sc d 173 (11, [l0, some (.int x), l2], [.ref k0], h) Q = Tr sc d 173 (12, [l0, some (.int x), l2], [.int x, .ref k0], h) Q := t_iload_n k_173_11 rfl
theorem k_173_12 : lk 173 12 = some (.invokevirtual 172, 15, 171, 1, .null) := by decide +kernel
theorem x_173_12 : Tr sc (d + 1) 173 (12, [l0, l1, l2], [.int i1, .ref k0], h) Q = (okp h k0 10 = true ∧ Tr sc d 171 (ent0 171 [.ref k0, .int i1] h) (fun z => Tr sc (d + 1) 173 (15, [l0, l1, l2], z.1.toList ++ [], z.2) Q)) := t_cv (as := [.int i1]) (r := []) k_173_12 rfl rfl (Nat.le_of_ble_eq_true rfl) (Nat.le_of_ble_eq_true rfl) (Nat.le_of_ble_eq_true rfl)
theorem k_173_15 : lk 173 15 = some (.bipush 50, 17, 0, 0, .int 50) := by decide +kernel
theorem x_173_15 : Tr sc d 173 (15, [l0, l1, l2], [.int i0], h) Q = Tr sc d 173 (17, [l0, l1, l2], [.int 50, .int i0], h) Q := t_go k_173_15 rfl
theorem k_173_17 : lk 173 17 = some (.bipush 52, 19, 0, 0, .int 52) := by decide +kernel
theorem x_173_17 : Tr sc d 173 (17, [l0, l1, l2], [.int i1, .int i0], h) Q = Tr sc d 173 (19, [l0, l1, l2], [.int 52, .int i1, .int i0], h) Q := t_go k_173_17 rfl
theorem k_173_19 : lk 173 19 = some (.invokestatic 144, 22, 156, 3, .null) := by decide +kernel
theorem x_173_19 : Tr sc (d + 1) 173 (19, [l0, l1, l2], [.int i2, .int i1, .int i0], h) Q = Tr sc d 156 (ent0 156 [.int i0, .int i1, .int i2] h) (fun z => Tr sc (d + 1) 173 (22, [l0, l1, l2], z.1.toList ++ [], z.2) Q) := t_cs (as := [.int i0, .int i1, .int i2]) (r := []) k_173_19 (by decide) rfl rfl (Nat.le_of_ble_eq_true rfl) (Nat.le_of_ble_eq_true rfl)
theorem k_173_22 : lk 173 22 = some (.ifCond .ne 5, 25, 27, 0, .null) := by decide +kernel
theorem x_173_22 : Tr sc d 173 (22, [l0, l1, l2], [.int i0], h) Q = if i0 = 0 then Tr sc d 173 (25, [l0, l1, l2], [], h) Q else Tr sc d 173 (27, [l0, l1, l2], [], h) Q := t_if k_173_22 rfl
theorem k_173_25 : lk 173 25 = some (.iconst 0, 26, 0, 0, .int 0) := by decide +kernel
theorem x_173_25 : Tr sc d 173 (25, [l0, l1, l2], [], h) Q = Tr sc d 173 (26, [l0, l1, l2], [.int 0], h) Q := t_go k_173_25 rfl
theorem k_173_26 : lk 173 26 = some (.ireturn, 27, 0, 0, .null) := by decide +kernel
theorem x_173_26 : Tr sc d 173 (26, [l0, l1, l2], [.int i0], h) Q = Q (some (.int i0), h) := t_ret k_173_26 (by rw [r_173]; rfl)
theorem k_173_27 : lk 173 27 = some (.aload_n 0, 28, 0, 0, .null) := by decide +kernel
theorem x_173_27 : Tr sc d 173 (27, [some (.ref xk), l1, l2], [], h) Q = Tr sc d 173 (28, [some (.ref xk), l1, l2], [.ref xk], h) Q := t_aload_n k_173_27 rfl
theorem k_173_28 : lk 173 28 = some (.aload_n 0, 29, 0, 0, .null) := by decide +kernel
theorem x_173_28 : Tr sc d 173 (28, [some (.ref xk), l1, l2], [.ref k0], h) Q = Tr sc d 173 (29, [some (.ref xk), l1, l2], [.ref xk, .ref k0], h) Q := t_aload_n k_173_28 rfl
theorem k_173_29 : lk 173 29 = some (.iload_n 1, 30, 1, 0, .null) := by decide +kernel
theorem x_173_29 : Tr sc d 173 (29, [l0, some (.int x), l2], [.ref k1, .ref k0], h) Q = Tr sc d 173 (30, [l0, some (.int x), l2], [.int x, .ref k1, .ref k0], h) Q := t_iload_n k_173_29 rfl
theorem k_173_30 : lk 173 30 = some (.invokevirtual 172, 33, 171, 1, .null) := by decide +kernel
theorem x_173_30 : Tr sc (d + 1) 173 (30, [l0, l1, l2], [.int i2, .ref k1, .ref k0], h) Q = (okp h k1 10 = true ∧ Tr sc d 171 (ent0 171 [.ref k1, .int i2] h) (fun z => Tr sc (d + 1) 173 (33, [l0, l1, l2], z.1.toList ++ [.ref k0], z.2) Q)) := t_cv (as := [.int i2]) (r := [.ref k0]) k_173_30 rfl rfl (Nat.le_of_ble_eq_true rfl) (Nat.le_of_ble_eq_true rfl) (Nat.le_of_ble_eq_true rfl)
theorem k_173_33 : lk 173 33 = some (.bipush 48, 35, 0, 0, .int 48) := by decide +kernel
theorem x_173_33 : Tr sc d 173 (33, [l0, l1, l2], [.int i1, .ref k0], h) Q = Tr sc d 173 (35, [l0, l1, l2], [.int 48, .int i1, .ref k0], h) Q := t_go k_173_33 rfl
theorem k_173_35 : lk 173 35 = some (.isub, 36, 0, 0, .null) := by decide +kernel
theorem x_173_35 : Tr sc d 173 (35, [l0, l1, l2], [.int i2, .int i1, .ref k0], h) Q = Tr sc d 173 (36, [l0, l1, l2], [.int (i1 - i2), .ref k0], h) Q := t_go k_173_35 rfl
theorem k_173_36 : lk 173 36 = some (.putfield 181, 39, 10, 11, .int 0) := by decide +kernel
theorem x_173_36 : Tr sc d 173 (36, [l0, l1, l2], [.int i1, .ref k0], h) Q = (okp h k0 10 = true ∧ Tr sc d 173 (39, [l0, l1, l2], [], (sI h k0 11 i1)) Q) := t_gd k_173_36 rfl
theorem k_173_39 : lk 173 39 = some (.aload_n 0, 40, 0, 0, .null) := by decide +kernel
theorem x_173_39 : Tr sc d 173 (39, [some (.ref xk), l1, l2], [], h) Q = Tr sc d 173 (40, [some (.ref xk), l1, l2], [.ref xk], h) Q := t_aload_n k_173_39 rfl
theorem k_173_40 : lk 173 40 = some (.iconst 1, 41, 0, 0, .int 1) := by decide +kernel
theorem x_173_40 : Tr sc d 173 (40, [l0, l1, l2], [.ref k0], h) Q = Tr sc d 173 (41, [l0, l1, l2], [.int 1, .ref k0], h) Q := t_go k_173_40 rfl
theorem k_173_41 : lk 173 41 = some (.putfield 169, 44, 10, 14, .int 0) := by decide +kernel
theorem x_173_41 : Tr sc d 173 (41, [l0, l1, l2], [.int i1, .ref k0], h) Q = (okp h k0 10 = true ∧ Tr sc d 173 (44, [l0, l1, l2], [], (sI h k0 14 i1)) Q) := t_gd k_173_41 rfl
theorem k_173_44 : lk 173 44 = some (.aload_n 0, 45, 0, 0, .null) := by decide +kernel
theorem x_173_44 : Tr sc d 173 (44, [some (.ref xk), l1, l2], [], h) Q = Tr sc d 173 (45, [some (.ref xk), l1, l2], [.ref xk], h) Q := t_aload_n k_173_44 rfl
theorem k_173_45 : lk 173 45 = some (.getfield 178, 48, 10, 12, .int 0) := by decide +kernel
theorem x_173_45 : Tr sc d 173 (45, [l0, l1, l2], [.ref k0], h) Q = (okp h k0 10 = true ∧ Tr sc d 173 (48, [l0, l1, l2], [.int (hI h k0 12)], h) Q) := t_gd k_173_45 rfl
theorem k_173_48 : lk 173 48 = some (.ifCond .eq 16, 51, 64, 0, .null) := by decide +kernel
theorem x_173_48 : Tr sc d 173 (48, [l0, l1, l2], [.int i0], h) Q = if i0 = 0 then Tr sc d 173 (64, [l0, l1, l2], [], h) Q else Tr sc d 173 (51, [l0, l1, l2], [], h) Q := t_if k_173_48 rfl
theorem k_173_51 : lk 173 51 = some (.aload_n 0, 52, 0, 0, .null) := by decide +kernel
theorem x_173_51 : Tr sc d 173 (51, [some (.ref xk), l1, l2], [], h) Q = Tr sc d 173 (52, [some (.ref xk), l1, l2], [.ref xk], h) Q := t_aload_n k_173_51 rfl
theorem k_173_52 : lk 173 52 = some (.getfield 169, 55, 10, 14, .int 0) := by decide +kernel
theorem x_173_52 : Tr sc d 173 (52, [l0, l1, l2], [.ref k0], h) Q = (okp h k0 10 = true ∧ Tr sc d 173 (55, [l0, l1, l2], [.int (hI h k0 14)], h) Q) := t_gd k_173_52 rfl
theorem k_173_55 : lk 173 55 = some (.aload_n 0, 56, 0, 0, .null) := by decide +kernel
theorem x_173_55 : Tr sc d 173 (55, [some (.ref xk), l1, l2], [.int i0], h) Q = Tr sc d 173 (56, [some (.ref xk), l1, l2], [.ref xk, .int i0], h) Q := t_aload_n k_173_55 rfl
theorem k_173_56 : lk 173 56 = some (.getfield 26, 59, 10, 9, .null) := by decide +kernel
theorem x_173_56 : Tr sc d 173 (56, [l0, l1, l2], [.ref k1, .int i0], h) Q = (okp h k1 10 = true ∧ ∃ q, hR h k1 9 = some q ∧ Tr sc d 173 (59, [l0, l1, l2], [.ref q, .int i0], h) Q) := t_getr k_173_56
theorem k_173_59 : lk 173 59 = some (.iload_n 1, 60, 1, 0, .null) := by decide +kernel
theorem x_173_59 : Tr sc d 173 (59, [l0, some (.int x), l2], [.ref k1, .int i0], h) Q = Tr sc d 173 (60, [l0, some (.int x), l2], [.int x, .ref k1, .int i0], h) Q := t_iload_n k_173_59 rfl
theorem k_173_60 : lk 173 60 = some (.iaload, 61, 0, 0, .null) := by decide +kernel
theorem x_173_60 : Tr sc d 173 (60, [l0, l1, l2], [.int i2, .ref k1, .int i0], h) Q = (iOk sc h k1 i2 ∧ Tr sc d 173 (61, [l0, l1, l2], [.int (iRd sc h k1 i2), .int i0], h) Q) := t_iald k_173_60
theorem k_173_61 : lk 173 61 = some (.if_icmp .ge 142, 64, 203, 0, .null) := by decide +kernel
theorem x_173_61 : Tr sc d 173 (61, [l0, l1, l2], [.int i1, .int i0], h) Q = if i1 ≤ i0 then Tr sc d 173 (203, [l0, l1, l2], [], h) Q else Tr sc d 173 (64, [l0, l1, l2], [], h) Q := t_if k_173_61 rfl
theorem k_173_64 : lk 173 64 = some (.aload_n 0, 65, 0, 0, .null) := by decide +kernel
theorem x_173_64 : Tr sc d 173 (64, [some (.ref xk), l1, l2], [], h) Q = Tr sc d 173 (65, [some (.ref xk), l1, l2], [.ref xk], h) Q := t_aload_n k_173_64 rfl
theorem k_173_65 : lk 173 65 = some (.iload_n 1, 66, 1, 0, .null) := by decide +kernel
theorem x_173_65 : Tr sc d 173 (65, [l0, some (.int x), l2], [.ref k0], h) Q = Tr sc d 173 (66, [l0, some (.int x), l2], [.int x, .ref k0], h) Q := t_iload_n k_173_65 rfl
theorem k_173_66 : lk 173 66 = some (.invokevirtual 172, 69, 171, 1, .null) := by decide +kernel
theorem x_173_66 : Tr sc (d + 1) 173 (66, [l0, l1, l2], [.int i1, .ref k0], h) Q = (okp h k0 10 = true ∧ Tr sc d 171 (ent0 171 [.ref k0, .int i1] h) (fun z => Tr sc (d + 1) 173 (69, [l0, l1, l2], z.1.toList ++ [], z.2) Q)) := t_cv (as := [.int i1]) (r := []) k_173_66 rfl rfl (Nat.le_of_ble_eq_true rfl) (Nat.le_of_ble_eq_true rfl) (Nat.le_of_ble_eq_true rfl)
theorem k_173_69 : lk 173 69 = some (.bipush 47, 71, 0, 0, .int 47) := by decide +kernel
theorem x_173_69 : Tr sc d 173 (69, [l0, l1, l2], [.int i0], h) Q = Tr sc d 173 (71, [l0, l1, l2], [.int 47, .int i0], h) Q := t_go k_173_69 rfl
theorem k_173_71 : lk 173 71 = some (.if_icmp .ne 12, 74, 83, 0, .null) := by decide +kernel
theorem x_173_71 : Tr sc d 173 (71, [l0, l1, l2], [.int i1, .int i0], h) Q = if i0 = i1 then Tr sc d 173 (74, [l0, l1, l2], [], h) Q else Tr sc d 173 (83, [l0, l1, l2], [], h) Q := t_if k_173_71 rfl
theorem k_173_74 : lk 173 74 = some (.aload_n 0, 75, 0, 0, .null) := by decide +kernel
theorem x_173_74 : Tr sc d 173 (74, [some (.ref xk), l1, l2], [], h) Q = Tr sc d 173 (75, [some (.ref xk), l1, l2], [.ref xk], h) Q := t_aload_n k_173_74 rfl
theorem k_173_75 : lk 173 75 = some (.getfield 178, 78, 10, 12, .int 0) := by decide +kernel
theorem x_173_75 : Tr sc d 173 (75, [l0, l1, l2], [.ref k0], h) Q = (okp h k0 10 = true ∧ Tr sc d 173 (78, [l0, l1, l2], [.int (hI h k0 12)], h) Q) := t_gd k_173_75 rfl
theorem k_173_78 : lk 173 78 = some (.bipush 6, 80, 0, 0, .int 6) := by decide +kernel
theorem x_173_78 : Tr sc d 173 (78, [l0, l1, l2], [.int i0], h) Q = Tr sc d 173 (80, [l0, l1, l2], [.int 6, .int i0], h) Q := t_go k_173_78 rfl
theorem k_173_80 : lk 173 80 = some (.if_icmp .ne 8, 83, 88, 0, .null) := by decide +kernel
theorem x_173_80 : Tr sc d 173 (80, [l0, l1, l2], [.int i1, .int i0], h) Q = if i0 = i1 then Tr sc d 173 (83, [l0, l1, l2], [], h) Q else Tr sc d 173 (88, [l0, l1, l2], [], h) Q := t_if k_173_80 rfl
theorem k_173_83 : lk 173 83 = some (.aload_n 0, 84, 0, 0, .null) := by decide +kernel
theorem x_173_83 : Tr sc d 173 (83, [some (.ref xk), l1, l2], [], h) Q = Tr sc d 173 (84, [some (.ref xk), l1, l2], [.ref xk], h) Q := t_aload_n k_173_83 rfl
theorem k_173_84 : lk 173 84 = some (.getfield 169, 87, 10, 14, .int 0) := by decide +kernel
theorem x_173_84 : Tr sc d 173 (84, [l0, l1, l2], [.ref k0], h) Q = (okp h k0 10 = true ∧ Tr sc d 173 (87, [l0, l1, l2], [.int (hI h k0 14)], h) Q) := t_gd k_173_84 rfl
theorem k_173_87 : lk 173 87 = some (.ireturn, 88, 0, 0, .null) := by decide +kernel
theorem x_173_87 : Tr sc d 173 (87, [l0, l1, l2], [.int i0], h) Q = Q (some (.int i0), h) := t_ret k_173_87 (by rw [r_173]; rfl)
theorem k_173_88 : lk 173 88 = some (.aload_n 0, 89, 0, 0, .null) := by decide +kernel
theorem x_173_88 : Tr sc d 173 (88, [some (.ref xk), l1, l2], [], h) Q = Tr sc d 173 (89, [some (.ref xk), l1, l2], [.ref xk], h) Q := t_aload_n k_173_88 rfl
theorem k_173_89 : lk 173 89 = some (.dup, 90, 0, 0, .null) := by decide +kernel
theorem x_173_89 : Tr sc d 173 (89, [l0, l1, l2], [.ref k0], h) Q = Tr sc d 173 (90, [l0, l1, l2], [.ref k0, .ref k0], h) Q := t_go k_173_89 rfl
theorem k_173_90 : lk 173 90 = some (.getfield 169, 93, 10, 14, .int 0) := by decide +kernel
theorem x_173_90 : Tr sc d 173 (90, [l0, l1, l2], [.ref k1, .ref k0], h) Q = (okp h k1 10 = true ∧ Tr sc d 173 (93, [l0, l1, l2], [.int (hI h k1 14), .ref k0], h) Q) := t_gd k_173_90 rfl
theorem k_173_93 : lk 173 93 = some (.iconst 1, 94, 0, 0, .int 1) := by decide +kernel
theorem x_173_93 : Tr sc d 173 (93, [l0, l1, l2], [.int i1, .ref k0], h) Q = Tr sc d 173 (94, [l0, l1, l2], [.int 1, .int i1, .ref k0], h) Q := t_go k_173_93 rfl
theorem k_173_94 : lk 173 94 = some (.iadd, 95, 0, 0, .null) := by decide +kernel
theorem x_173_94 : Tr sc d 173 (94, [l0, l1, l2], [.int i2, .int i1, .ref k0], h) Q = Tr sc d 173 (95, [l0, l1, l2], [.int (i1 + i2), .ref k0], h) Q := t_go k_173_94 rfl
theorem k_173_95 : lk 173 95 = some (.putfield 169, 98, 10, 14, .int 0) := by decide +kernel
theorem x_173_95 : Tr sc d 173 (95, [l0, l1, l2], [.int i1, .ref k0], h) Q = (okp h k0 10 = true ∧ Tr sc d 173 (98, [l0, l1, l2], [], (sI h k0 14 i1)) Q) := t_gd k_173_95 rfl
theorem k_173_98 : lk 173 98 = some (.aload_n 0, 99, 0, 0, .null) := by decide +kernel
theorem x_173_98 : Tr sc d 173 (98, [some (.ref xk), l1, l2], [], h) Q = Tr sc d 173 (99, [some (.ref xk), l1, l2], [.ref xk], h) Q := t_aload_n k_173_98 rfl
theorem k_173_99 : lk 173 99 = some (.iload_n 1, 100, 1, 0, .null) := by decide +kernel
theorem x_173_99 : Tr sc d 173 (99, [l0, some (.int x), l2], [.ref k0], h) Q = Tr sc d 173 (100, [l0, some (.int x), l2], [.int x, .ref k0], h) Q := t_iload_n k_173_99 rfl
theorem k_173_100 : lk 173 100 = some (.invokevirtual 172, 103, 171, 1, .null) := by decide +kernel
theorem x_173_100 : Tr sc (d + 1) 173 (100, [l0, l1, l2], [.int i1, .ref k0], h) Q = (okp h k0 10 = true ∧ Tr sc d 171 (ent0 171 [.ref k0, .int i1] h) (fun z => Tr sc (d + 1) 173 (103, [l0, l1, l2], z.1.toList ++ [], z.2) Q)) := t_cv (as := [.int i1]) (r := []) k_173_100 rfl rfl (Nat.le_of_ble_eq_true rfl) (Nat.le_of_ble_eq_true rfl) (Nat.le_of_ble_eq_true rfl)
theorem k_173_103 : lk 173 103 = some (.bipush 97, 105, 0, 0, .int 97) := by decide +kernel
theorem x_173_103 : Tr sc d 173 (103, [l0, l1, l2], [.int i0], h) Q = Tr sc d 173 (105, [l0, l1, l2], [.int 97, .int i0], h) Q := t_go k_173_103 rfl
theorem k_173_105 : lk 173 105 = some (.bipush 104, 107, 0, 0, .int 104) := by decide +kernel
theorem x_173_105 : Tr sc d 173 (105, [l0, l1, l2], [.int i1, .int i0], h) Q = Tr sc d 173 (107, [l0, l1, l2], [.int 104, .int i1, .int i0], h) Q := t_go k_173_105 rfl
theorem k_173_107 : lk 173 107 = some (.invokestatic 144, 110, 156, 3, .null) := by decide +kernel
theorem x_173_107 : Tr sc (d + 1) 173 (107, [l0, l1, l2], [.int i2, .int i1, .int i0], h) Q = Tr sc d 156 (ent0 156 [.int i0, .int i1, .int i2] h) (fun z => Tr sc (d + 1) 173 (110, [l0, l1, l2], z.1.toList ++ [], z.2) Q) := t_cs (as := [.int i0, .int i1, .int i2]) (r := []) k_173_107 (by decide) rfl rfl (Nat.le_of_ble_eq_true rfl) (Nat.le_of_ble_eq_true rfl)
theorem k_173_110 : lk 173 110 = some (.ifCond .ne 8, 113, 118, 0, .null) := by decide +kernel
theorem x_173_110 : Tr sc d 173 (110, [l0, l1, l2], [.int i0], h) Q = if i0 = 0 then Tr sc d 173 (113, [l0, l1, l2], [], h) Q else Tr sc d 173 (118, [l0, l1, l2], [], h) Q := t_if k_173_110 rfl
theorem k_173_113 : lk 173 113 = some (.aload_n 0, 114, 0, 0, .null) := by decide +kernel
theorem x_173_113 : Tr sc d 173 (113, [some (.ref xk), l1, l2], [], h) Q = Tr sc d 173 (114, [some (.ref xk), l1, l2], [.ref xk], h) Q := t_aload_n k_173_113 rfl
theorem k_173_114 : lk 173 114 = some (.getfield 169, 117, 10, 14, .int 0) := by decide +kernel
theorem x_173_114 : Tr sc d 173 (114, [l0, l1, l2], [.ref k0], h) Q = (okp h k0 10 = true ∧ Tr sc d 173 (117, [l0, l1, l2], [.int (hI h k0 14)], h) Q) := t_gd k_173_114 rfl
theorem k_173_117 : lk 173 117 = some (.ireturn, 118, 0, 0, .null) := by decide +kernel
theorem x_173_117 : Tr sc d 173 (117, [l0, l1, l2], [.int i0], h) Q = Q (some (.int i0), h) := t_ret k_173_117 (by rw [r_173]; rfl)
theorem k_173_118 : lk 173 118 = some (.aload_n 0, 119, 0, 0, .null) := by decide +kernel
theorem x_173_118 : Tr sc d 173 (118, [some (.ref xk), l1, l2], [], h) Q = Tr sc d 173 (119, [some (.ref xk), l1, l2], [.ref xk], h) Q := t_aload_n k_173_118 rfl
theorem k_173_119 : lk 173 119 = some (.getfield 32, 122, 10, 13, .null) := by decide +kernel
theorem x_173_119 : Tr sc d 173 (119, [l0, l1, l2], [.ref k0], h) Q = (okp h k0 10 = true ∧ ∃ q, hR h k0 13 = some q ∧ Tr sc d 173 (122, [l0, l1, l2], [.ref q], h) Q) := t_getr k_173_119
theorem k_173_122 : lk 173 122 = some (.iconst 3, 123, 0, 0, .int 3) := by decide +kernel
theorem x_173_122 : Tr sc d 173 (122, [l0, l1, l2], [.ref k0], h) Q = Tr sc d 173 (123, [l0, l1, l2], [.int 3, .ref k0], h) Q := t_go k_173_122 rfl
theorem k_173_123 : lk 173 123 = some (.aload_n 0, 124, 0, 0, .null) := by decide +kernel
theorem x_173_123 : Tr sc d 173 (123, [some (.ref xk), l1, l2], [.int i1, .ref k0], h) Q = Tr sc d 173 (124, [some (.ref xk), l1, l2], [.ref xk, .int i1, .ref k0], h) Q := t_aload_n k_173_123 rfl
theorem k_173_124 : lk 173 124 = some (.getfield 178, 127, 10, 12, .int 0) := by decide +kernel
theorem x_173_124 : Tr sc d 173 (124, [l0, l1, l2], [.ref k2, .int i1, .ref k0], h) Q = (okp h k2 10 = true ∧ Tr sc d 173 (127, [l0, l1, l2], [.int (hI h k2 12), .int i1, .ref k0], h) Q) := t_gd k_173_124 rfl
theorem k_173_127 : lk 173 127 = some (.imul, 128, 0, 0, .null) := by decide +kernel
theorem x_173_127 : Tr sc d 173 (127, [l0, l1, l2], [.int i2, .int i1, .ref k0], h) Q = Tr sc d 173 (128, [l0, l1, l2], [.int (i1 * i2), .ref k0], h) Q := t_go k_173_127 rfl
theorem k_173_128 : lk 173 128 = some (.aload_n 0, 129, 0, 0, .null) := by decide +kernel
theorem x_173_128 : Tr sc d 173 (128, [some (.ref xk), l1, l2], [.int i1, .ref k0], h) Q = Tr sc d 173 (129, [some (.ref xk), l1, l2], [.ref xk, .int i1, .ref k0], h) Q := t_aload_n k_173_128 rfl
theorem k_173_129 : lk 173 129 = some (.iload_n 1, 130, 1, 0, .null) := by decide +kernel
theorem x_173_129 : Tr sc d 173 (129, [l0, some (.int x), l2], [.ref k2, .int i1, .ref k0], h) Q = Tr sc d 173 (130, [l0, some (.int x), l2], [.int x, .ref k2, .int i1, .ref k0], h) Q := t_iload_n k_173_129 rfl
theorem k_173_130 : lk 173 130 = some (.invokevirtual 172, 133, 171, 1, .null) := by decide +kernel
theorem x_173_130 : Tr sc (d + 1) 173 (130, [l0, l1, l2], [.int i3, .ref k2, .int i1, .ref k0], h) Q = (okp h k2 10 = true ∧ Tr sc d 171 (ent0 171 [.ref k2, .int i3] h) (fun z => Tr sc (d + 1) 173 (133, [l0, l1, l2], z.1.toList ++ [.int i1, .ref k0], z.2) Q)) := t_cv (as := [.int i3]) (r := [.int i1, .ref k0]) k_173_130 rfl rfl (Nat.le_of_ble_eq_true rfl) (Nat.le_of_ble_eq_true rfl) (Nat.le_of_ble_eq_true rfl)
theorem k_173_133 : lk 173 133 = some (.bipush 97, 135, 0, 0, .int 97) := by decide +kernel
theorem x_173_133 : Tr sc d 173 (133, [l0, l1, l2], [.int i2, .int i1, .ref k0], h) Q = Tr sc d 173 (135, [l0, l1, l2], [.int 97, .int i2, .int i1, .ref k0], h) Q := t_go k_173_133 rfl
theorem k_173_135 : lk 173 135 = some (.isub, 136, 0, 0, .null) := by decide +kernel
theorem x_173_135 : Tr sc d 173 (135, [l0, l1, l2], [.int i3, .int i2, .int i1, .ref k0], h) Q = Tr sc d 173 (136, [l0, l1, l2], [.int (i2 - i3), .int i1, .ref k0], h) Q := t_go k_173_135 rfl
theorem k_173_136 : lk 173 136 = some (.iastore, 137, 0, 0, .null) := by decide +kernel
theorem x_173_136 : Tr sc d 173 (136, [l0, l1, l2], [.int i2, .int i1, .ref k0], h) Q = ((okp h k0 11 && inb i1 (LN k0)) = true ∧ Tr sc d 173 (137, [l0, l1, l2], [], (sI h k0 i1.toNatClampNeg i2)) Q) := t_gd k_173_136 rfl
theorem k_173_137 : lk 173 137 = some (.aload_n 0, 138, 0, 0, .null) := by decide +kernel
theorem x_173_137 : Tr sc d 173 (137, [some (.ref xk), l1, l2], [], h) Q = Tr sc d 173 (138, [some (.ref xk), l1, l2], [.ref xk], h) Q := t_aload_n k_173_137 rfl
theorem k_173_138 : lk 173 138 = some (.dup, 139, 0, 0, .null) := by decide +kernel
theorem x_173_138 : Tr sc d 173 (138, [l0, l1, l2], [.ref k0], h) Q = Tr sc d 173 (139, [l0, l1, l2], [.ref k0, .ref k0], h) Q := t_go k_173_138 rfl
theorem k_173_139 : lk 173 139 = some (.getfield 169, 142, 10, 14, .int 0) := by decide +kernel
theorem x_173_139 : Tr sc d 173 (139, [l0, l1, l2], [.ref k1, .ref k0], h) Q = (okp h k1 10 = true ∧ Tr sc d 173 (142, [l0, l1, l2], [.int (hI h k1 14), .ref k0], h) Q) := t_gd k_173_139 rfl
theorem k_173_142 : lk 173 142 = some (.iconst 1, 143, 0, 0, .int 1) := by decide +kernel
theorem x_173_142 : Tr sc d 173 (142, [l0, l1, l2], [.int i1, .ref k0], h) Q = Tr sc d 173 (143, [l0, l1, l2], [.int 1, .int i1, .ref k0], h) Q := t_go k_173_142 rfl
theorem k_173_143 : lk 173 143 = some (.iadd, 144, 0, 0, .null) := by decide +kernel
theorem x_173_143 : Tr sc d 173 (143, [l0, l1, l2], [.int i2, .int i1, .ref k0], h) Q = Tr sc d 173 (144, [l0, l1, l2], [.int (i1 + i2), .ref k0], h) Q := t_go k_173_143 rfl
theorem k_173_144 : lk 173 144 = some (.putfield 169, 147, 10, 14, .int 0) := by decide +kernel
theorem x_173_144 : Tr sc d 173 (144, [l0, l1, l2], [.int i1, .ref k0], h) Q = (okp h k0 10 = true ∧ Tr sc d 173 (147, [l0, l1, l2], [], (sI h k0 14 i1)) Q) := t_gd k_173_144 rfl
theorem k_173_147 : lk 173 147 = some (.iconst 1, 148, 0, 0, .int 1) := by decide +kernel
theorem x_173_147 : Tr sc d 173 (147, [l0, l1, l2], [], h) Q = Tr sc d 173 (148, [l0, l1, l2], [.int 1], h) Q := t_go k_173_147 rfl
theorem k_173_148 : lk 173 148 = some (.istore_n 2, 149, 2, 0, .null) := by decide +kernel
theorem x_173_148 : Tr sc d 173 (148, [l0, l1, l2], [.int i0], h) Q = Tr sc d 173 (149, [l0, cl2 l1, some (.int i0)], [], h) Q := t_istore_n k_173_148 (Nat.le_of_ble_eq_true rfl)
theorem k_173_149 : lk 173 149 = some (.iload_n 2, 150, 2, 0, .null) := by decide +kernel
theorem x_173_149 : Tr sc d 173 (149, [l0, l1, some (.int x)], [], h) Q = Tr sc d 173 (150, [l0, l1, some (.int x)], [.int x], h) Q := t_iload_n k_173_149 rfl
theorem k_173_150 : lk 173 150 = some (.iconst 3, 151, 0, 0, .int 3) := by decide +kernel
theorem x_173_150 : Tr sc d 173 (150, [l0, l1, l2], [.int i0], h) Q = Tr sc d 173 (151, [l0, l1, l2], [.int 3, .int i0], h) Q := t_go k_173_150 rfl
theorem k_173_151 : lk 173 151 = some (.if_icmp .ge 39, 154, 190, 0, .null) := by decide +kernel
theorem x_173_151 : Tr sc d 173 (151, [l0, l1, l2], [.int i1, .int i0], h) Q = if i1 ≤ i0 then Tr sc d 173 (190, [l0, l1, l2], [], h) Q else Tr sc d 173 (154, [l0, l1, l2], [], h) Q := t_if k_173_151 rfl
theorem k_173_154 : lk 173 154 = some (.aload_n 0, 155, 0, 0, .null) := by decide +kernel
theorem x_173_154 : Tr sc d 173 (154, [some (.ref xk), l1, l2], [], h) Q = Tr sc d 173 (155, [some (.ref xk), l1, l2], [.ref xk], h) Q := t_aload_n k_173_154 rfl
theorem k_173_155 : lk 173 155 = some (.iload_n 1, 156, 1, 0, .null) := by decide +kernel
theorem x_173_155 : Tr sc d 173 (155, [l0, some (.int x), l2], [.ref k0], h) Q = Tr sc d 173 (156, [l0, some (.int x), l2], [.int x, .ref k0], h) Q := t_iload_n k_173_155 rfl
theorem k_173_156 : lk 173 156 = some (.invokevirtual 184, 159, 172, 1, .null) := by decide +kernel
theorem x_173_156 : Tr sc (d + 1) 173 (156, [l0, l1, l2], [.int i1, .ref k0], h) Q = (okp h k0 10 = true ∧ Tr sc d 172 (ent0 172 [.ref k0, .int i1] h) (fun z => Tr sc (d + 1) 173 (159, [l0, l1, l2], z.1.toList ++ [], z.2) Q)) := t_cv (as := [.int i1]) (r := []) k_173_156 rfl rfl (Nat.le_of_ble_eq_true rfl) (Nat.le_of_ble_eq_true rfl) (Nat.le_of_ble_eq_true rfl)
theorem k_173_159 : lk 173 159 = some (.ifCond .ne 8, 162, 167, 0, .null) := by decide +kernel
theorem x_173_159 : Tr sc d 173 (159, [l0, l1, l2], [.int i0], h) Q = if i0 = 0 then Tr sc d 173 (162, [l0, l1, l2], [], h) Q else Tr sc d 173 (167, [l0, l1, l2], [], h) Q := t_if k_173_159 rfl
theorem k_173_162 : lk 173 162 = some (.aload_n 0, 163, 0, 0, .null) := by decide +kernel
theorem x_173_162 : Tr sc d 173 (162, [some (.ref xk), l1, l2], [], h) Q = Tr sc d 173 (163, [some (.ref xk), l1, l2], [.ref xk], h) Q := t_aload_n k_173_162 rfl
theorem k_173_163 : lk 173 163 = some (.getfield 169, 166, 10, 14, .int 0) := by decide +kernel
theorem x_173_163 : Tr sc d 173 (163, [l0, l1, l2], [.ref k0], h) Q = (okp h k0 10 = true ∧ Tr sc d 173 (166, [l0, l1, l2], [.int (hI h k0 14)], h) Q) := t_gd k_173_163 rfl
theorem k_173_166 : lk 173 166 = some (.ireturn, 167, 0, 0, .null) := by decide +kernel
theorem x_173_166 : Tr sc d 173 (166, [l0, l1, l2], [.int i0], h) Q = Q (some (.int i0), h) := t_ret k_173_166 (by rw [r_173]; rfl)
theorem k_173_167 : lk 173 167 = some (.aload_n 0, 168, 0, 0, .null) := by decide +kernel
theorem x_173_167 : Tr sc d 173 (167, [some (.ref xk), l1, l2], [], h) Q = Tr sc d 173 (168, [some (.ref xk), l1, l2], [.ref xk], h) Q := t_aload_n k_173_167 rfl
theorem k_173_168 : lk 173 168 = some (.getfield 32, 171, 10, 13, .null) := by decide +kernel
theorem x_173_168 : Tr sc d 173 (168, [l0, l1, l2], [.ref k0], h) Q = (okp h k0 10 = true ∧ ∃ q, hR h k0 13 = some q ∧ Tr sc d 173 (171, [l0, l1, l2], [.ref q], h) Q) := t_getr k_173_168
theorem k_173_171 : lk 173 171 = some (.iconst 3, 172, 0, 0, .int 3) := by decide +kernel
theorem x_173_171 : Tr sc d 173 (171, [l0, l1, l2], [.ref k0], h) Q = Tr sc d 173 (172, [l0, l1, l2], [.int 3, .ref k0], h) Q := t_go k_173_171 rfl
theorem k_173_172 : lk 173 172 = some (.aload_n 0, 173, 0, 0, .null) := by decide +kernel
theorem x_173_172 : Tr sc d 173 (172, [some (.ref xk), l1, l2], [.int i1, .ref k0], h) Q = Tr sc d 173 (173, [some (.ref xk), l1, l2], [.ref xk, .int i1, .ref k0], h) Q := t_aload_n k_173_172 rfl
theorem k_173_173 : lk 173 173 = some (.getfield 178, 176, 10, 12, .int 0) := by decide +kernel
theorem x_173_173 : Tr sc d 173 (173, [l0, l1, l2], [.ref k2, .int i1, .ref k0], h) Q = (okp h k2 10 = true ∧ Tr sc d 173 (176, [l0, l1, l2], [.int (hI h k2 12), .int i1, .ref k0], h) Q) := t_gd k_173_173 rfl
theorem k_173_176 : lk 173 176 = some (.imul, 177, 0, 0, .null) := by decide +kernel
theorem x_173_176 : Tr sc d 173 (176, [l0, l1, l2], [.int i2, .int i1, .ref k0], h) Q = Tr sc d 173 (177, [l0, l1, l2], [.int (i1 * i2), .ref k0], h) Q := t_go k_173_176 rfl
theorem k_173_177 : lk 173 177 = some (.iload_n 2, 178, 2, 0, .null) := by decide +kernel
theorem x_173_177 : Tr sc d 173 (177, [l0, l1, some (.int x)], [.int i1, .ref k0], h) Q = Tr sc d 173 (178, [l0, l1, some (.int x)], [.int x, .int i1, .ref k0], h) Q := t_iload_n k_173_177 rfl
theorem k_173_178 : lk 173 178 = some (.iadd, 179, 0, 0, .null) := by decide +kernel
theorem x_173_178 : Tr sc d 173 (178, [l0, l1, l2], [.int i2, .int i1, .ref k0], h) Q = Tr sc d 173 (179, [l0, l1, l2], [.int (i1 + i2), .ref k0], h) Q := t_go k_173_178 rfl
theorem k_173_179 : lk 173 179 = some (.aload_n 0, 180, 0, 0, .null) := by decide +kernel
theorem x_173_179 : Tr sc d 173 (179, [some (.ref xk), l1, l2], [.int i1, .ref k0], h) Q = Tr sc d 173 (180, [some (.ref xk), l1, l2], [.ref xk, .int i1, .ref k0], h) Q := t_aload_n k_173_179 rfl
theorem k_173_180 : lk 173 180 = some (.getfield 175, 183, 10, 15, .int 0) := by decide +kernel
theorem x_173_180 : Tr sc d 173 (180, [l0, l1, l2], [.ref k2, .int i1, .ref k0], h) Q = (okp h k2 10 = true ∧ Tr sc d 173 (183, [l0, l1, l2], [.int (hI h k2 15), .int i1, .ref k0], h) Q) := t_gd k_173_180 rfl
theorem k_173_183 : lk 173 183 = some (.iastore, 184, 0, 0, .null) := by decide +kernel
theorem x_173_183 : Tr sc d 173 (183, [l0, l1, l2], [.int i2, .int i1, .ref k0], h) Q = ((okp h k0 11 && inb i1 (LN k0)) = true ∧ Tr sc d 173 (184, [l0, l1, l2], [], (sI h k0 i1.toNatClampNeg i2)) Q) := t_gd k_173_183 rfl
theorem k_173_184 : lk 173 184 = some (.iinc 2 1, 187, 2, 0, .int 1) := by decide +kernel
theorem x_173_184 : Tr sc d 173 (184, [l0, l1, some (.int x)], [], h) Q = Tr sc d 173 (187, [l0, cl2 l1, some (.int (x + 1))], [], h) Q := t_inc k_173_184 rfl (Nat.le_of_ble_eq_true rfl)
theorem k_173_187 : lk 173 187 = some (.goto (-38), 190, 149, 0, .null) := by decide +kernel
theorem x_173_187 : Tr sc d 173 (187, [l0, l1, l2], [], h) Q = Tr sc d 173 (149, [l0, l1, l2], [], h) Q := t_go k_173_187 rfl
theorem k_173_190 : lk 173 190 = some (.aload_n 0, 191, 0, 0, .null) := by decide +kernel
theorem x_173_190 : Tr sc d 173 (190, [some (.ref xk), l1, l2], [], h) Q = Tr sc d 173 (191, [some (.ref xk), l1, l2], [.ref xk], h) Q := t_aload_n k_173_190 rfl
theorem k_173_191 : lk 173 191 = some (.dup, 192, 0, 0, .null) := by decide +kernel
theorem x_173_191 : Tr sc d 173 (191, [l0, l1, l2], [.ref k0], h) Q = Tr sc d 173 (192, [l0, l1, l2], [.ref k0, .ref k0], h) Q := t_go k_173_191 rfl
theorem k_173_192 : lk 173 192 = some (.getfield 178, 195, 10, 12, .int 0) := by decide +kernel
theorem x_173_192 : Tr sc d 173 (192, [l0, l1, l2], [.ref k1, .ref k0], h) Q = (okp h k1 10 = true ∧ Tr sc d 173 (195, [l0, l1, l2], [.int (hI h k1 12), .ref k0], h) Q) := t_gd k_173_192 rfl
theorem k_173_195 : lk 173 195 = some (.iconst 1, 196, 0, 0, .int 1) := by decide +kernel
theorem x_173_195 : Tr sc d 173 (195, [l0, l1, l2], [.int i1, .ref k0], h) Q = Tr sc d 173 (196, [l0, l1, l2], [.int 1, .int i1, .ref k0], h) Q := t_go k_173_195 rfl
theorem k_173_196 : lk 173 196 = some (.iadd, 197, 0, 0, .null) := by decide +kernel
theorem x_173_196 : Tr sc d 173 (196, [l0, l1, l2], [.int i2, .int i1, .ref k0], h) Q = Tr sc d 173 (197, [l0, l1, l2], [.int (i1 + i2), .ref k0], h) Q := t_go k_173_196 rfl
theorem k_173_197 : lk 173 197 = some (.putfield 178, 200, 10, 12, .int 0) := by decide +kernel
theorem x_173_197 : Tr sc d 173 (197, [l0, l1, l2], [.int i1, .ref k0], h) Q = (okp h k0 10 = true ∧ Tr sc d 173 (200, [l0, l1, l2], [], (sI h k0 12 i1)) Q) := t_gd k_173_197 rfl
theorem k_173_200 : lk 173 200 = some (.goto (-156), 203, 44, 0, .null) := by decide +kernel
theorem x_173_200 : Tr sc d 173 (200, [l0, l1, l2], [], h) Q = Tr sc d 173 (44, [l0, l1, l2], [], h) Q := t_go k_173_200 rfl
theorem k_173_203 : lk 173 203 = some (.bipush (-9), 205, 0, 0, .int (-9)) := by decide +kernel
theorem x_173_203 : Tr sc d 173 (203, [l0, l1, l2], [], h) Q = Tr sc d 173 (205, [l0, l1, l2], [.int (-9)], h) Q := t_go k_173_203 rfl
theorem k_173_205 : lk 173 205 = some (.ireturn, 206, 0, 0, .null) := by decide +kernel
theorem x_173_205 : Tr sc d 173 (205, [l0, l1, l2], [.int i0], h) Q = Q (some (.int i0), h) := t_ret k_173_205 (by rw [r_173]; rfl)
theorem e_173 : Tr sc d 173 (ent0 173 [.ref k0, .int i1] h) Q = Tr sc d 173 (0, [some (.ref k0), some (.int i1), none], [], h) Q := by
  have e : mL 173 = 3 := by decide +kernel
  unfold ent0
  rw [e]
  rfl
theorem r_174 : mR 174 = some .int := by decide +kernel
theorem k_174_0 : lk 174 0 = some (.aload_n 0, 1, 0, 0, .null) := by decide +kernel
theorem x_174_0 : Tr sc d 174 (0, [some (.ref xk), l1, l2], [], h) Q = Tr sc d 174 (1, [some (.ref xk), l1, l2], [.ref xk], h) Q := t_aload_n k_174_0 rfl
theorem k_174_1 : lk 174 1 = some (.iload_n 1, 2, 1, 0, .null) := by decide +kernel
theorem x_174_1 : Tr sc d 174 (1, [l0, some (.int x), l2], [.ref k0], h) Q = Tr sc d 174 (2, [l0, some (.int x), l2], [.int x, .ref k0], h) Q := t_iload_n k_174_1 rfl
theorem k_174_2 : lk 174 2 = some (.invokevirtual 166, 5, 163, 1, .null) := by decide +kernel
theorem x_174_2 : Tr sc (d + 1) 174 (2, [l0, l1, l2], [.int i1, .ref k0], h) Q = (okp h k0 10 = true ∧ Tr sc d 163 (ent0 163 [.ref k0, .int i1] h) (fun z => Tr sc (d + 1) 174 (5, [l0, l1, l2], z.1.toList ++ [], z.2) Q)) := t_cv (as := [.int i1]) (r := []) k_174_2 rfl rfl (Nat.le_of_ble_eq_true rfl) (Nat.le_of_ble_eq_true rfl) (Nat.le_of_ble_eq_true rfl)
theorem k_174_5 : lk 174 5 = some (.istore_n 2, 6, 2, 0, .null) := by decide +kernel
theorem x_174_5 : Tr sc d 174 (5, [l0, l1, l2], [.int i0], h) Q = Tr sc d 174 (6, [l0, cl2 l1, some (.int i0)], [], h) Q := t_istore_n k_174_5 (Nat.le_of_ble_eq_true rfl)
theorem k_174_6 : lk 174 6 = some (.iload_n 2, 7, 2, 0, .null) := by decide +kernel
theorem x_174_6 : Tr sc d 174 (6, [l0, l1, some (.int x)], [], h) Q = Tr sc d 174 (7, [l0, l1, some (.int x)], [.int x], h) Q := t_iload_n k_174_6 rfl
theorem k_174_7 : lk 174 7 = some (.ifCond .ge 7, 10, 14, 0, .null) := by decide +kernel
theorem x_174_7 : Tr sc d 174 (7, [l0, l1, l2], [.int i0], h) Q = if 0 ≤ i0 then Tr sc d 174 (14, [l0, l1, l2], [], h) Q else Tr sc d 174 (10, [l0, l1, l2], [], h) Q := t_if k_174_7 rfl
theorem k_174_10 : lk 174 10 = some (.iload_n 2, 11, 2, 0, .null) := by decide +kernel
theorem x_174_10 : Tr sc d 174 (10, [l0, l1, some (.int x)], [], h) Q = Tr sc d 174 (11, [l0, l1, some (.int x)], [.int x], h) Q := t_iload_n k_174_10 rfl
theorem k_174_11 : lk 174 11 = some (.goto 8, 14, 19, 0, .null) := by decide +kernel
theorem x_174_11 : Tr sc d 174 (11, [l0, l1, l2], [.int i0], h) Q = Tr sc d 174 (19, [l0, l1, l2], [.int i0], h) Q := t_go k_174_11 rfl
theorem k_174_14 : lk 174 14 = some (.aload_n 0, 15, 0, 0, .null) := by decide +kernel
theorem x_174_14 : Tr sc d 174 (14, [some (.ref xk), l1, l2], [], h) Q = Tr sc d 174 (15, [some (.ref xk), l1, l2], [.ref xk], h) Q := t_aload_n k_174_14 rfl
theorem k_174_15 : lk 174 15 = some (.iload_n 1, 16, 1, 0, .null) := by decide +kernel
theorem x_174_15 : Tr sc d 174 (15, [l0, some (.int x), l2], [.ref k0], h) Q = Tr sc d 174 (16, [l0, some (.int x), l2], [.int x, .ref k0], h) Q := t_iload_n k_174_15 rfl
theorem k_174_16 : lk 174 16 = some (.invokevirtual 187, 19, 173, 1, .null) := by decide +kernel
theorem x_174_16 : Tr sc (d + 1) 174 (16, [l0, l1, l2], [.int i1, .ref k0], h) Q = (okp h k0 10 = true ∧ Tr sc d 173 (ent0 173 [.ref k0, .int i1] h) (fun z => Tr sc (d + 1) 174 (19, [l0, l1, l2], z.1.toList ++ [], z.2) Q)) := t_cv (as := [.int i1]) (r := []) k_174_16 rfl rfl (Nat.le_of_ble_eq_true rfl) (Nat.le_of_ble_eq_true rfl) (Nat.le_of_ble_eq_true rfl)
theorem k_174_19 : lk 174 19 = some (.ireturn, 20, 0, 0, .null) := by decide +kernel
theorem x_174_19 : Tr sc d 174 (19, [l0, l1, l2], [.int i0], h) Q = Q (some (.int i0), h) := t_ret k_174_19 (by rw [r_174]; rfl)
theorem e_174 : Tr sc d 174 (ent0 174 [.ref k0, .int i1] h) Q = Tr sc d 174 (0, [some (.ref k0), some (.int i1), none], [], h) Q := by
  have e : mL 174 = 3 := by decide +kernel
  unfold ent0
  rw [e]
  rfl
theorem r_175 : mR 175 = some .boolean := by decide +kernel
theorem k_175_0 : lk 175 0 = some (.iload_n 0, 1, 0, 0, .null) := by decide +kernel
theorem x_175_0 : Tr sc d 175 (0, [some (.int x)], [], h) Q = Tr sc d 175 (1, [some (.int x)], [.int x], h) Q := t_iload_n k_175_0 rfl
theorem k_175_1 : lk 175 1 = some (.iconst 0, 2, 0, 0, .int 0) := by decide +kernel
theorem x_175_1 : Tr sc d 175 (1, [l0], [.int i0], h) Q = Tr sc d 175 (2, [l0], [.int 0, .int i0], h) Q := t_go k_175_1 rfl
theorem k_175_2 : lk 175 2 = some (.bipush 7, 4, 0, 0, .int 7) := by decide +kernel
theorem x_175_2 : Tr sc d 175 (2, [l0], [.int i1, .int i0], h) Q = Tr sc d 175 (4, [l0], [.int 7, .int i1, .int i0], h) Q := t_go k_175_2 rfl
theorem k_175_4 : lk 175 4 = some (.invokestatic 144, 7, 156, 3, .null) := by decide +kernel
theorem x_175_4 : Tr sc (d + 1) 175 (4, [l0], [.int i2, .int i1, .int i0], h) Q = Tr sc d 156 (ent0 156 [.int i0, .int i1, .int i2] h) (fun z => Tr sc (d + 1) 175 (7, [l0], z.1.toList ++ [], z.2) Q) := t_cs (as := [.int i0, .int i1, .int i2]) (r := []) k_175_4 (by decide) rfl rfl (Nat.le_of_ble_eq_true rfl) (Nat.le_of_ble_eq_true rfl)
theorem k_175_7 : lk 175 7 = some (.ireturn, 8, 0, 0, .null) := by decide +kernel
theorem x_175_7 : Tr sc d 175 (7, [l0], [.int i0], h) Q = (vp_nar .boolean i0 = i0 ∧ Q (some (.int i0), h)) := t_zret k_175_7 r_175
theorem e_175 : Tr sc d 175 (ent0 175 [.int i0] h) Q = Tr sc d 175 (0, [some (.int i0)], [], h) Q := by
  have e : mL 175 = 1 := by decide +kernel
  unfold ent0
  rw [e]
  rfl
theorem r_176 : mR 176 = some .int := by decide +kernel
theorem k_176_0 : lk 176 0 = some (.iload_n 1, 1, 1, 0, .null) := by decide +kernel
theorem x_176_0 : Tr sc d 176 (0, [l0, some (.int x)], [], h) Q = Tr sc d 176 (1, [l0, some (.int x)], [.int x], h) Q := t_iload_n k_176_0 rfl
theorem k_176_1 : lk 176 1 = some (.invokestatic 190, 4, 175, 1, .null) := by decide +kernel
theorem x_176_1 : Tr sc (d + 1) 176 (1, [l0, l1], [.int i0], h) Q = Tr sc d 175 (ent0 175 [.int i0] h) (fun z => Tr sc (d + 1) 176 (4, [l0, l1], z.1.toList ++ [], z.2) Q) := t_cs (as := [.int i0]) (r := []) k_176_1 (by decide) rfl rfl (Nat.le_of_ble_eq_true rfl) (Nat.le_of_ble_eq_true rfl)
theorem k_176_4 : lk 176 4 = some (.ifCond .ne 7, 7, 11, 0, .null) := by decide +kernel
theorem x_176_4 : Tr sc d 176 (4, [l0, l1], [.int i0], h) Q = if i0 = 0 then Tr sc d 176 (7, [l0, l1], [], h) Q else Tr sc d 176 (11, [l0, l1], [], h) Q := t_if k_176_4 rfl
theorem k_176_7 : lk 176 7 = some (.iconst (-1), 8, 0, 0, .int (-1)) := by decide +kernel
theorem x_176_7 : Tr sc d 176 (7, [l0, l1], [], h) Q = Tr sc d 176 (8, [l0, l1], [.int (-1)], h) Q := t_go k_176_7 rfl
theorem k_176_8 : lk 176 8 = some (.goto 21, 11, 29, 0, .null) := by decide +kernel
theorem x_176_8 : Tr sc d 176 (8, [l0, l1], [.int i0], h) Q = Tr sc d 176 (29, [l0, l1], [.int i0], h) Q := t_go k_176_8 rfl
theorem k_176_11 : lk 176 11 = some (.aload_n 0, 12, 0, 0, .null) := by decide +kernel
theorem x_176_11 : Tr sc d 176 (11, [some (.ref xk), l1], [], h) Q = Tr sc d 176 (12, [some (.ref xk), l1], [.ref xk], h) Q := t_aload_n k_176_11 rfl
theorem k_176_12 : lk 176 12 = some (.getfield 41, 15, 10, 18, .null) := by decide +kernel
theorem x_176_12 : Tr sc d 176 (12, [l0, l1], [.ref k0], h) Q = (okp h k0 10 = true ∧ ∃ q, hR h k0 18 = some q ∧ Tr sc d 176 (15, [l0, l1], [.ref q], h) Q) := t_getr k_176_12
theorem k_176_15 : lk 176 15 = some (.iload_n 1, 16, 1, 0, .null) := by decide +kernel
theorem x_176_15 : Tr sc d 176 (15, [l0, some (.int x)], [.ref k0], h) Q = Tr sc d 176 (16, [l0, some (.int x)], [.int x, .ref k0], h) Q := t_iload_n k_176_15 rfl
theorem k_176_16 : lk 176 16 = some (.iaload, 17, 0, 0, .null) := by decide +kernel
theorem x_176_16 : Tr sc d 176 (16, [l0, l1], [.int i1, .ref k0], h) Q = (iOk sc h k0 i1 ∧ Tr sc d 176 (17, [l0, l1], [.int (iRd sc h k0 i1)], h) Q) := t_iald k_176_16
theorem k_176_17 : lk 176 17 = some (.ifCond .ne 11, 20, 28, 0, .null) := by decide +kernel
theorem x_176_17 : Tr sc d 176 (17, [l0, l1], [.int i0], h) Q = if i0 = 0 then Tr sc d 176 (20, [l0, l1], [], h) Q else Tr sc d 176 (28, [l0, l1], [], h) Q := t_if k_176_17 rfl
theorem k_176_20 : lk 176 20 = some (.aload_n 0, 21, 0, 0, .null) := by decide +kernel
theorem x_176_20 : Tr sc d 176 (20, [some (.ref xk), l1], [], h) Q = Tr sc d 176 (21, [some (.ref xk), l1], [.ref xk], h) Q := t_aload_n k_176_20 rfl
theorem k_176_21 : lk 176 21 = some (.iconst 1, 22, 0, 0, .int 1) := by decide +kernel
theorem x_176_21 : Tr sc d 176 (21, [l0, l1], [.ref k0], h) Q = Tr sc d 176 (22, [l0, l1], [.int 1, .ref k0], h) Q := t_go k_176_21 rfl
theorem k_176_22 : lk 176 22 = some (.invokevirtual 152, 25, 157, 1, .null) := by decide +kernel
theorem x_176_22 : Tr sc (d + 1) 176 (22, [l0, l1], [.int i1, .ref k0], h) Q = (okp h k0 10 = true ∧ Tr sc d 157 (ent0 157 [.ref k0, .int i1] h) (fun z => Tr sc (d + 1) 176 (25, [l0, l1], z.1.toList ++ [], z.2) Q)) := t_cv (as := [.int i1]) (r := []) k_176_22 rfl rfl (Nat.le_of_ble_eq_true rfl) (Nat.le_of_ble_eq_true rfl) (Nat.le_of_ble_eq_true rfl)
theorem k_176_25 : lk 176 25 = some (.goto 4, 28, 29, 0, .null) := by decide +kernel
theorem x_176_25 : Tr sc d 176 (25, [l0, l1], [.int i0], h) Q = Tr sc d 176 (29, [l0, l1], [.int i0], h) Q := t_go k_176_25 rfl
theorem k_176_28 : lk 176 28 = some (.iconst 0, 29, 0, 0, .int 0) := by decide +kernel
theorem x_176_28 : Tr sc d 176 (28, [l0, l1], [], h) Q = Tr sc d 176 (29, [l0, l1], [.int 0], h) Q := t_go k_176_28 rfl
theorem k_176_29 : lk 176 29 = some (.ireturn, 30, 0, 0, .null) := by decide +kernel
theorem x_176_29 : Tr sc d 176 (29, [l0, l1], [.int i0], h) Q = Q (some (.int i0), h) := t_ret k_176_29 (by rw [r_176]; rfl)
theorem e_176 : Tr sc d 176 (ent0 176 [.ref k0, .int i1] h) Q = Tr sc d 176 (0, [some (.ref k0), some (.int i1)], [], h) Q := by
  have e : mL 176 = 2 := by decide +kernel
  unfold ent0
  rw [e]
  rfl
theorem r_177 : mR 177 = some .int := by decide +kernel
theorem k_177_0 : lk 177 0 = some (.iload_n 0, 1, 0, 0, .null) := by decide +kernel
theorem x_177_0 : Tr sc d 177 (0, [some (.int x), l1, l2], [], h) Q = Tr sc d 177 (1, [some (.int x), l1, l2], [.int x], h) Q := t_iload_n k_177_0 rfl
theorem k_177_48 : lk 177 48 = some (.iload_n 1, 49, 1, 0, .null) := by decide +kernel
theorem x_177_48 : Tr sc d 177 (48, [l0, some (.int x), l2], [], h) Q = Tr sc d 177 (49, [l0, some (.int x), l2], [.int x], h) Q := t_iload_n k_177_48 rfl
theorem k_177_49 : lk 177 49 = some (.ireturn, 50, 0, 0, .null) := by decide +kernel
theorem x_177_49 : Tr sc d 177 (49, [l0, l1, l2], [.int i0], h) Q = Q (some (.int i0), h) := t_ret k_177_49 (by rw [r_177]; rfl)
theorem k_177_50 : lk 177 50 = some (.iload_n 2, 51, 2, 0, .null) := by decide +kernel
theorem x_177_50 : Tr sc d 177 (50, [l0, l1, some (.int x)], [], h) Q = Tr sc d 177 (51, [l0, l1, some (.int x)], [.int x], h) Q := t_iload_n k_177_50 rfl
theorem k_177_51 : lk 177 51 = some (.ineg, 52, 0, 0, .null) := by decide +kernel
theorem x_177_51 : Tr sc d 177 (51, [l0, l1, l2], [.int i0], h) Q = Tr sc d 177 (52, [l0, l1, l2], [.int (-i0)], h) Q := t_go k_177_51 rfl
theorem k_177_52 : lk 177 52 = some (.ireturn, 53, 0, 0, .null) := by decide +kernel
theorem x_177_52 : Tr sc d 177 (52, [l0, l1, l2], [.int i0], h) Q = Q (some (.int i0), h) := t_ret k_177_52 (by rw [r_177]; rfl)
theorem k_177_53 : lk 177 53 = some (.iload_n 1, 54, 1, 0, .null) := by decide +kernel
theorem x_177_53 : Tr sc d 177 (53, [l0, some (.int x), l2], [], h) Q = Tr sc d 177 (54, [l0, some (.int x), l2], [.int x], h) Q := t_iload_n k_177_53 rfl
theorem k_177_54 : lk 177 54 = some (.ineg, 55, 0, 0, .null) := by decide +kernel
theorem x_177_54 : Tr sc d 177 (54, [l0, l1, l2], [.int i0], h) Q = Tr sc d 177 (55, [l0, l1, l2], [.int (-i0)], h) Q := t_go k_177_54 rfl
theorem k_177_55 : lk 177 55 = some (.ireturn, 56, 0, 0, .null) := by decide +kernel
theorem x_177_55 : Tr sc d 177 (55, [l0, l1, l2], [.int i0], h) Q = Q (some (.int i0), h) := t_ret k_177_55 (by rw [r_177]; rfl)
theorem k_177_56 : lk 177 56 = some (.iload_n 2, 57, 2, 0, .null) := by decide +kernel
theorem x_177_56 : Tr sc d 177 (56, [l0, l1, some (.int x)], [], h) Q = Tr sc d 177 (57, [l0, l1, some (.int x)], [.int x], h) Q := t_iload_n k_177_56 rfl
theorem k_177_57 : lk 177 57 = some (.ireturn, 58, 0, 0, .null) := by decide +kernel
theorem x_177_57 : Tr sc d 177 (57, [l0, l1, l2], [.int i0], h) Q = Q (some (.int i0), h) := t_ret k_177_57 (by rw [r_177]; rfl)
theorem e_177 : Tr sc d 177 (ent0 177 [.int i0, .int i1, .int i2] h) Q = Tr sc d 177 (0, [some (.int i0), some (.int i1), some (.int i2)], [], h) Q := by
  have e : mL 177 = 3 := by decide +kernel
  unfold ent0
  rw [e]
  rfl
theorem r_178 : mR 178 = some .int := by decide +kernel
theorem k_178_0 : lk 178 0 = some (.iload_n 0, 1, 0, 0, .null) := by decide +kernel
theorem x_178_0 : Tr sc d 178 (0, [some (.int x), l1, l2], [], h) Q = Tr sc d 178 (1, [some (.int x), l1, l2], [.int x], h) Q := t_iload_n k_178_0 rfl
theorem k_178_48 : lk 178 48 = some (.iload_n 2, 49, 2, 0, .null) := by decide +kernel
theorem x_178_48 : Tr sc d 178 (48, [l0, l1, some (.int x)], [], h) Q = Tr sc d 178 (49, [l0, l1, some (.int x)], [.int x], h) Q := t_iload_n k_178_48 rfl
theorem k_178_49 : lk 178 49 = some (.ireturn, 50, 0, 0, .null) := by decide +kernel
theorem x_178_49 : Tr sc d 178 (49, [l0, l1, l2], [.int i0], h) Q = Q (some (.int i0), h) := t_ret k_178_49 (by rw [r_178]; rfl)
theorem k_178_50 : lk 178 50 = some (.iload_n 1, 51, 1, 0, .null) := by decide +kernel
theorem x_178_50 : Tr sc d 178 (50, [l0, some (.int x), l2], [], h) Q = Tr sc d 178 (51, [l0, some (.int x), l2], [.int x], h) Q := t_iload_n k_178_50 rfl
theorem k_178_51 : lk 178 51 = some (.ireturn, 52, 0, 0, .null) := by decide +kernel
theorem x_178_51 : Tr sc d 178 (51, [l0, l1, l2], [.int i0], h) Q = Q (some (.int i0), h) := t_ret k_178_51 (by rw [r_178]; rfl)
theorem k_178_52 : lk 178 52 = some (.iload_n 2, 53, 2, 0, .null) := by decide +kernel
theorem x_178_52 : Tr sc d 178 (52, [l0, l1, some (.int x)], [], h) Q = Tr sc d 178 (53, [l0, l1, some (.int x)], [.int x], h) Q := t_iload_n k_178_52 rfl
theorem k_178_53 : lk 178 53 = some (.ineg, 54, 0, 0, .null) := by decide +kernel
theorem x_178_53 : Tr sc d 178 (53, [l0, l1, l2], [.int i0], h) Q = Tr sc d 178 (54, [l0, l1, l2], [.int (-i0)], h) Q := t_go k_178_53 rfl
theorem k_178_54 : lk 178 54 = some (.ireturn, 55, 0, 0, .null) := by decide +kernel
theorem x_178_54 : Tr sc d 178 (54, [l0, l1, l2], [.int i0], h) Q = Q (some (.int i0), h) := t_ret k_178_54 (by rw [r_178]; rfl)
theorem k_178_55 : lk 178 55 = some (.iload_n 1, 56, 1, 0, .null) := by decide +kernel
theorem x_178_55 : Tr sc d 178 (55, [l0, some (.int x), l2], [], h) Q = Tr sc d 178 (56, [l0, some (.int x), l2], [.int x], h) Q := t_iload_n k_178_55 rfl
theorem k_178_56 : lk 178 56 = some (.ineg, 57, 0, 0, .null) := by decide +kernel
theorem x_178_56 : Tr sc d 178 (56, [l0, l1, l2], [.int i0], h) Q = Tr sc d 178 (57, [l0, l1, l2], [.int (-i0)], h) Q := t_go k_178_56 rfl
theorem k_178_57 : lk 178 57 = some (.ireturn, 58, 0, 0, .null) := by decide +kernel
theorem x_178_57 : Tr sc d 178 (57, [l0, l1, l2], [.int i0], h) Q = Q (some (.int i0), h) := t_ret k_178_57 (by rw [r_178]; rfl)
theorem e_178 : Tr sc d 178 (ent0 178 [.int i0, .int i1, .int i2] h) Q = Tr sc d 178 (0, [some (.int i0), some (.int i1), some (.int i2)], [], h) Q := by
  have e : mL 178 = 3 := by decide +kernel
  unfold ent0
  rw [e]
  rfl
theorem r_179 : mR 179 = some .int := by decide +kernel
theorem k_179_0 : lk 179 0 = some (.aload_n 0, 1, 0, 0, .null) := by decide +kernel
theorem x_179_0 : Tr sc d 179 (0, [some (.ref xk), l1, l2, l3], [], h) Q = Tr sc d 179 (1, [some (.ref xk), l1, l2, l3], [.ref xk], h) Q := t_aload_n k_179_0 rfl
theorem k_179_1 : lk 179 1 = some (.getfield 38, 4, 10, 17, .null) := by decide +kernel
theorem x_179_1 : Tr sc d 179 (1, [l0, l1, l2, l3], [.ref k0], h) Q = (okp h k0 10 = true ∧ ∃ q, hR h k0 17 = some q ∧ Tr sc d 179 (4, [l0, l1, l2, l3], [.ref q], h) Q) := t_getr k_179_1
theorem k_179_4 : lk 179 4 = some (.iload_n 1, 5, 1, 0, .null) := by decide +kernel
theorem x_179_4 : Tr sc d 179 (4, [l0, some (.int x), l2, l3], [.ref k0], h) Q = Tr sc d 179 (5, [l0, some (.int x), l2, l3], [.int x, .ref k0], h) Q := t_iload_n k_179_4 rfl
theorem k_179_5 : lk 179 5 = some (.aload_n 0, 6, 0, 0, .null) := by decide +kernel
theorem x_179_5 : Tr sc d 179 (5, [some (.ref xk), l1, l2, l3], [.int i1, .ref k0], h) Q = Tr sc d 179 (6, [some (.ref xk), l1, l2, l3], [.ref xk, .int i1, .ref k0], h) Q := t_aload_n k_179_5 rfl
theorem k_179_6 : lk 179 6 = some (.getfield 181, 9, 10, 11, .int 0) := by decide +kernel
theorem x_179_6 : Tr sc d 179 (6, [l0, l1, l2, l3], [.ref k2, .int i1, .ref k0], h) Q = (okp h k2 10 = true ∧ Tr sc d 179 (9, [l0, l1, l2, l3], [.int (hI h k2 11), .int i1, .ref k0], h) Q) := t_gd k_179_6 rfl
theorem k_179_9 : lk 179 9 = some (.iastore, 10, 0, 0, .null) := by decide +kernel
theorem x_179_9 : Tr sc d 179 (9, [l0, l1, l2, l3], [.int i2, .int i1, .ref k0], h) Q = ((okp h k0 11 && inb i1 (LN k0)) = true ∧ Tr sc d 179 (10, [l0, l1, l2, l3], [], (sI h k0 i1.toNatClampNeg i2)) Q) := t_gd k_179_9 rfl
theorem k_179_10 : lk 179 10 = some (.aload_n 0, 11, 0, 0, .null) := by decide +kernel
theorem x_179_10 : Tr sc d 179 (10, [some (.ref xk), l1, l2, l3], [], h) Q = Tr sc d 179 (11, [some (.ref xk), l1, l2, l3], [.ref xk], h) Q := t_aload_n k_179_10 rfl
theorem k_179_11 : lk 179 11 = some (.getfield 41, 14, 10, 18, .null) := by decide +kernel
theorem x_179_11 : Tr sc d 179 (11, [l0, l1, l2, l3], [.ref k0], h) Q = (okp h k0 10 = true ∧ ∃ q, hR h k0 18 = some q ∧ Tr sc d 179 (14, [l0, l1, l2, l3], [.ref q], h) Q) := t_getr k_179_11
theorem k_179_14 : lk 179 14 = some (.iload_n 1, 15, 1, 0, .null) := by decide +kernel
theorem x_179_14 : Tr sc d 179 (14, [l0, some (.int x), l2, l3], [.ref k0], h) Q = Tr sc d 179 (15, [l0, some (.int x), l2, l3], [.int x, .ref k0], h) Q := t_iload_n k_179_14 rfl
theorem k_179_15 : lk 179 15 = some (.aload_n 0, 16, 0, 0, .null) := by decide +kernel
theorem x_179_15 : Tr sc d 179 (15, [some (.ref xk), l1, l2, l3], [.int i1, .ref k0], h) Q = Tr sc d 179 (16, [some (.ref xk), l1, l2, l3], [.ref xk, .int i1, .ref k0], h) Q := t_aload_n k_179_15 rfl
theorem k_179_16 : lk 179 16 = some (.getfield 178, 19, 10, 12, .int 0) := by decide +kernel
theorem x_179_16 : Tr sc d 179 (16, [l0, l1, l2, l3], [.ref k2, .int i1, .ref k0], h) Q = (okp h k2 10 = true ∧ Tr sc d 179 (19, [l0, l1, l2, l3], [.int (hI h k2 12), .int i1, .ref k0], h) Q) := t_gd k_179_16 rfl
theorem k_179_19 : lk 179 19 = some (.iastore, 20, 0, 0, .null) := by decide +kernel
theorem x_179_19 : Tr sc d 179 (19, [l0, l1, l2, l3], [.int i2, .int i1, .ref k0], h) Q = ((okp h k0 11 && inb i1 (LN k0)) = true ∧ Tr sc d 179 (20, [l0, l1, l2, l3], [], (sI h k0 i1.toNatClampNeg i2)) Q) := t_gd k_179_19 rfl
theorem k_179_20 : lk 179 20 = some (.iconst 1, 21, 0, 0, .int 1) := by decide +kernel
theorem x_179_20 : Tr sc d 179 (20, [l0, l1, l2, l3], [], h) Q = Tr sc d 179 (21, [l0, l1, l2, l3], [.int 1], h) Q := t_go k_179_20 rfl
theorem k_179_21 : lk 179 21 = some (.istore_n 2, 22, 2, 0, .null) := by decide +kernel
theorem x_179_21 : Tr sc d 179 (21, [l0, l1, l2, l3], [.int i0], h) Q = Tr sc d 179 (22, [l0, cl2 l1, some (.int i0), l3], [], h) Q := t_istore_n k_179_21 (Nat.le_of_ble_eq_true rfl)
theorem k_179_22 : lk 179 22 = some (.iconst 0, 23, 0, 0, .int 0) := by decide +kernel
theorem x_179_22 : Tr sc d 179 (22, [l0, l1, l2, l3], [], h) Q = Tr sc d 179 (23, [l0, l1, l2, l3], [.int 0], h) Q := t_go k_179_22 rfl
theorem k_179_23 : lk 179 23 = some (.istore_n 3, 24, 3, 0, .null) := by decide +kernel
theorem x_179_23 : Tr sc d 179 (23, [l0, l1, l2, l3], [.int i0], h) Q = Tr sc d 179 (24, [l0, l1, cl2 l2, some (.int i0)], [], h) Q := t_istore_n k_179_23 (Nat.le_of_ble_eq_true rfl)
theorem k_179_24 : lk 179 24 = some (.iload_n 3, 25, 3, 0, .null) := by decide +kernel
theorem x_179_24 : Tr sc d 179 (24, [l0, l1, l2, some (.int x)], [], h) Q = Tr sc d 179 (25, [l0, l1, l2, some (.int x)], [.int x], h) Q := t_iload_n k_179_24 rfl
theorem k_179_25 : lk 179 25 = some (.aload_n 0, 26, 0, 0, .null) := by decide +kernel
theorem x_179_25 : Tr sc d 179 (25, [some (.ref xk), l1, l2, l3], [.int i0], h) Q = Tr sc d 179 (26, [some (.ref xk), l1, l2, l3], [.ref xk, .int i0], h) Q := t_aload_n k_179_25 rfl
theorem k_179_26 : lk 179 26 = some (.getfield 178, 29, 10, 12, .int 0) := by decide +kernel
theorem x_179_26 : Tr sc d 179 (26, [l0, l1, l2, l3], [.ref k1, .int i0], h) Q = (okp h k1 10 = true ∧ Tr sc d 179 (29, [l0, l1, l2, l3], [.int (hI h k1 12), .int i0], h) Q) := t_gd k_179_26 rfl
theorem k_179_29 : lk 179 29 = some (.if_icmp .ge 103, 32, 132, 0, .null) := by decide +kernel
theorem x_179_29 : Tr sc d 179 (29, [l0, l1, l2, l3], [.int i1, .int i0], h) Q = if i1 ≤ i0 then Tr sc d 179 (132, [l0, l1, l2, l3], [], h) Q else Tr sc d 179 (32, [l0, l1, l2, l3], [], h) Q := t_if k_179_29 rfl
theorem k_179_32 : lk 179 32 = some (.aload_n 0, 33, 0, 0, .null) := by decide +kernel
theorem x_179_32 : Tr sc d 179 (32, [some (.ref xk), l1, l2, l3], [], h) Q = Tr sc d 179 (33, [some (.ref xk), l1, l2, l3], [.ref xk], h) Q := t_aload_n k_179_32 rfl
theorem k_179_33 : lk 179 33 = some (.getfield 44, 36, 10, 19, .null) := by decide +kernel
theorem x_179_33 : Tr sc d 179 (33, [l0, l1, l2, l3], [.ref k0], h) Q = (okp h k0 10 = true ∧ ∃ q, hR h k0 19 = some q ∧ Tr sc d 179 (36, [l0, l1, l2, l3], [.ref q], h) Q) := t_getr k_179_33
theorem k_179_36 : lk 179 36 = some (.bipush 6, 38, 0, 0, .int 6) := by decide +kernel
theorem x_179_36 : Tr sc d 179 (36, [l0, l1, l2, l3], [.ref k0], h) Q = Tr sc d 179 (38, [l0, l1, l2, l3], [.int 6, .ref k0], h) Q := t_go k_179_36 rfl
theorem k_179_38 : lk 179 38 = some (.iload_n 1, 39, 1, 0, .null) := by decide +kernel
theorem x_179_38 : Tr sc d 179 (38, [l0, some (.int x), l2, l3], [.int i1, .ref k0], h) Q = Tr sc d 179 (39, [l0, some (.int x), l2, l3], [.int x, .int i1, .ref k0], h) Q := t_iload_n k_179_38 rfl
theorem k_179_39 : lk 179 39 = some (.imul, 40, 0, 0, .null) := by decide +kernel
theorem x_179_39 : Tr sc d 179 (39, [l0, l1, l2, l3], [.int i2, .int i1, .ref k0], h) Q = Tr sc d 179 (40, [l0, l1, l2, l3], [.int (i1 * i2), .ref k0], h) Q := t_go k_179_39 rfl
theorem k_179_40 : lk 179 40 = some (.iload_n 3, 41, 3, 0, .null) := by decide +kernel
theorem x_179_40 : Tr sc d 179 (40, [l0, l1, l2, some (.int x)], [.int i1, .ref k0], h) Q = Tr sc d 179 (41, [l0, l1, l2, some (.int x)], [.int x, .int i1, .ref k0], h) Q := t_iload_n k_179_40 rfl
theorem k_179_41 : lk 179 41 = some (.iadd, 42, 0, 0, .null) := by decide +kernel
theorem x_179_41 : Tr sc d 179 (41, [l0, l1, l2, l3], [.int i2, .int i1, .ref k0], h) Q = Tr sc d 179 (42, [l0, l1, l2, l3], [.int (i1 + i2), .ref k0], h) Q := t_go k_179_41 rfl
theorem k_179_42 : lk 179 42 = some (.aload_n 0, 43, 0, 0, .null) := by decide +kernel
theorem x_179_42 : Tr sc d 179 (42, [some (.ref xk), l1, l2, l3], [.int i1, .ref k0], h) Q = Tr sc d 179 (43, [some (.ref xk), l1, l2, l3], [.ref xk, .int i1, .ref k0], h) Q := t_aload_n k_179_42 rfl
theorem k_179_43 : lk 179 43 = some (.getfield 32, 46, 10, 13, .null) := by decide +kernel
theorem x_179_43 : Tr sc d 179 (43, [l0, l1, l2, l3], [.ref k2, .int i1, .ref k0], h) Q = (okp h k2 10 = true ∧ ∃ q, hR h k2 13 = some q ∧ Tr sc d 179 (46, [l0, l1, l2, l3], [.ref q, .int i1, .ref k0], h) Q) := t_getr k_179_43
theorem k_179_46 : lk 179 46 = some (.iconst 3, 47, 0, 0, .int 3) := by decide +kernel
theorem x_179_46 : Tr sc d 179 (46, [l0, l1, l2, l3], [.ref k2, .int i1, .ref k0], h) Q = Tr sc d 179 (47, [l0, l1, l2, l3], [.int 3, .ref k2, .int i1, .ref k0], h) Q := t_go k_179_46 rfl
theorem k_179_47 : lk 179 47 = some (.iload_n 3, 48, 3, 0, .null) := by decide +kernel
theorem x_179_47 : Tr sc d 179 (47, [l0, l1, l2, some (.int x)], [.int i3, .ref k2, .int i1, .ref k0], h) Q = Tr sc d 179 (48, [l0, l1, l2, some (.int x)], [.int x, .int i3, .ref k2, .int i1, .ref k0], h) Q := t_iload_n k_179_47 rfl
theorem k_179_48 : lk 179 48 = some (.imul, 49, 0, 0, .null) := by decide +kernel
theorem x_179_48 : Tr sc d 179 (48, [l0, l1, l2, l3], [.int i4, .int i3, .ref k2, .int i1, .ref k0], h) Q = Tr sc d 179 (49, [l0, l1, l2, l3], [.int (i3 * i4), .ref k2, .int i1, .ref k0], h) Q := t_go k_179_48 rfl
theorem k_179_49 : lk 179 49 = some (.iaload, 50, 0, 0, .null) := by decide +kernel
theorem x_179_49 : Tr sc d 179 (49, [l0, l1, l2, l3], [.int i3, .ref k2, .int i1, .ref k0], h) Q = (iOk sc h k2 i3 ∧ Tr sc d 179 (50, [l0, l1, l2, l3], [.int (iRd sc h k2 i3), .int i1, .ref k0], h) Q) := t_iald k_179_49
theorem k_179_50 : lk 179 50 = some (.iastore, 51, 0, 0, .null) := by decide +kernel
theorem x_179_50 : Tr sc d 179 (50, [l0, l1, l2, l3], [.int i2, .int i1, .ref k0], h) Q = ((okp h k0 11 && inb i1 (LN k0)) = true ∧ Tr sc d 179 (51, [l0, l1, l2, l3], [], (sI h k0 i1.toNatClampNeg i2)) Q) := t_gd k_179_50 rfl
theorem k_179_51 : lk 179 51 = some (.aload_n 0, 52, 0, 0, .null) := by decide +kernel
theorem x_179_51 : Tr sc d 179 (51, [some (.ref xk), l1, l2, l3], [], h) Q = Tr sc d 179 (52, [some (.ref xk), l1, l2, l3], [.ref xk], h) Q := t_aload_n k_179_51 rfl
theorem k_179_52 : lk 179 52 = some (.getfield 47, 55, 10, 20, .null) := by decide +kernel
theorem x_179_52 : Tr sc d 179 (52, [l0, l1, l2, l3], [.ref k0], h) Q = (okp h k0 10 = true ∧ ∃ q, hR h k0 20 = some q ∧ Tr sc d 179 (55, [l0, l1, l2, l3], [.ref q], h) Q) := t_getr k_179_52
theorem k_179_55 : lk 179 55 = some (.bipush 6, 57, 0, 0, .int 6) := by decide +kernel
theorem x_179_55 : Tr sc d 179 (55, [l0, l1, l2, l3], [.ref k0], h) Q = Tr sc d 179 (57, [l0, l1, l2, l3], [.int 6, .ref k0], h) Q := t_go k_179_55 rfl
theorem k_179_57 : lk 179 57 = some (.iload_n 1, 58, 1, 0, .null) := by decide +kernel
theorem x_179_57 : Tr sc d 179 (57, [l0, some (.int x), l2, l3], [.int i1, .ref k0], h) Q = Tr sc d 179 (58, [l0, some (.int x), l2, l3], [.int x, .int i1, .ref k0], h) Q := t_iload_n k_179_57 rfl
theorem k_179_58 : lk 179 58 = some (.imul, 59, 0, 0, .null) := by decide +kernel
theorem x_179_58 : Tr sc d 179 (58, [l0, l1, l2, l3], [.int i2, .int i1, .ref k0], h) Q = Tr sc d 179 (59, [l0, l1, l2, l3], [.int (i1 * i2), .ref k0], h) Q := t_go k_179_58 rfl
theorem k_179_59 : lk 179 59 = some (.iload_n 3, 60, 3, 0, .null) := by decide +kernel
theorem x_179_59 : Tr sc d 179 (59, [l0, l1, l2, some (.int x)], [.int i1, .ref k0], h) Q = Tr sc d 179 (60, [l0, l1, l2, some (.int x)], [.int x, .int i1, .ref k0], h) Q := t_iload_n k_179_59 rfl
theorem k_179_60 : lk 179 60 = some (.iadd, 61, 0, 0, .null) := by decide +kernel
theorem x_179_60 : Tr sc d 179 (60, [l0, l1, l2, l3], [.int i2, .int i1, .ref k0], h) Q = Tr sc d 179 (61, [l0, l1, l2, l3], [.int (i1 + i2), .ref k0], h) Q := t_go k_179_60 rfl
theorem k_179_61 : lk 179 61 = some (.aload_n 0, 62, 0, 0, .null) := by decide +kernel
theorem x_179_61 : Tr sc d 179 (61, [some (.ref xk), l1, l2, l3], [.int i1, .ref k0], h) Q = Tr sc d 179 (62, [some (.ref xk), l1, l2, l3], [.ref xk, .int i1, .ref k0], h) Q := t_aload_n k_179_61 rfl
theorem k_179_62 : lk 179 62 = some (.getfield 32, 65, 10, 13, .null) := by decide +kernel
theorem x_179_62 : Tr sc d 179 (62, [l0, l1, l2, l3], [.ref k2, .int i1, .ref k0], h) Q = (okp h k2 10 = true ∧ ∃ q, hR h k2 13 = some q ∧ Tr sc d 179 (65, [l0, l1, l2, l3], [.ref q, .int i1, .ref k0], h) Q) := t_getr k_179_62
theorem k_179_65 : lk 179 65 = some (.iconst 3, 66, 0, 0, .int 3) := by decide +kernel
theorem x_179_65 : Tr sc d 179 (65, [l0, l1, l2, l3], [.ref k2, .int i1, .ref k0], h) Q = Tr sc d 179 (66, [l0, l1, l2, l3], [.int 3, .ref k2, .int i1, .ref k0], h) Q := t_go k_179_65 rfl
theorem k_179_66 : lk 179 66 = some (.iload_n 3, 67, 3, 0, .null) := by decide +kernel
theorem x_179_66 : Tr sc d 179 (66, [l0, l1, l2, some (.int x)], [.int i3, .ref k2, .int i1, .ref k0], h) Q = Tr sc d 179 (67, [l0, l1, l2, some (.int x)], [.int x, .int i3, .ref k2, .int i1, .ref k0], h) Q := t_iload_n k_179_66 rfl
theorem k_179_67 : lk 179 67 = some (.imul, 68, 0, 0, .null) := by decide +kernel
theorem x_179_67 : Tr sc d 179 (67, [l0, l1, l2, l3], [.int i4, .int i3, .ref k2, .int i1, .ref k0], h) Q = Tr sc d 179 (68, [l0, l1, l2, l3], [.int (i3 * i4), .ref k2, .int i1, .ref k0], h) Q := t_go k_179_67 rfl
theorem k_179_68 : lk 179 68 = some (.iconst 1, 69, 0, 0, .int 1) := by decide +kernel
theorem x_179_68 : Tr sc d 179 (68, [l0, l1, l2, l3], [.int i3, .ref k2, .int i1, .ref k0], h) Q = Tr sc d 179 (69, [l0, l1, l2, l3], [.int 1, .int i3, .ref k2, .int i1, .ref k0], h) Q := t_go k_179_68 rfl
theorem k_179_69 : lk 179 69 = some (.iadd, 70, 0, 0, .null) := by decide +kernel
theorem x_179_69 : Tr sc d 179 (69, [l0, l1, l2, l3], [.int i4, .int i3, .ref k2, .int i1, .ref k0], h) Q = Tr sc d 179 (70, [l0, l1, l2, l3], [.int (i3 + i4), .ref k2, .int i1, .ref k0], h) Q := t_go k_179_69 rfl
theorem k_179_70 : lk 179 70 = some (.iaload, 71, 0, 0, .null) := by decide +kernel
theorem x_179_70 : Tr sc d 179 (70, [l0, l1, l2, l3], [.int i3, .ref k2, .int i1, .ref k0], h) Q = (iOk sc h k2 i3 ∧ Tr sc d 179 (71, [l0, l1, l2, l3], [.int (iRd sc h k2 i3), .int i1, .ref k0], h) Q) := t_iald k_179_70
theorem k_179_71 : lk 179 71 = some (.iastore, 72, 0, 0, .null) := by decide +kernel
theorem x_179_71 : Tr sc d 179 (71, [l0, l1, l2, l3], [.int i2, .int i1, .ref k0], h) Q = ((okp h k0 11 && inb i1 (LN k0)) = true ∧ Tr sc d 179 (72, [l0, l1, l2, l3], [], (sI h k0 i1.toNatClampNeg i2)) Q) := t_gd k_179_71 rfl
theorem k_179_72 : lk 179 72 = some (.aload_n 0, 73, 0, 0, .null) := by decide +kernel
theorem x_179_72 : Tr sc d 179 (72, [some (.ref xk), l1, l2, l3], [], h) Q = Tr sc d 179 (73, [some (.ref xk), l1, l2, l3], [.ref xk], h) Q := t_aload_n k_179_72 rfl
theorem k_179_73 : lk 179 73 = some (.getfield 50, 76, 10, 21, .null) := by decide +kernel
theorem x_179_73 : Tr sc d 179 (73, [l0, l1, l2, l3], [.ref k0], h) Q = (okp h k0 10 = true ∧ ∃ q, hR h k0 21 = some q ∧ Tr sc d 179 (76, [l0, l1, l2, l3], [.ref q], h) Q) := t_getr k_179_73
theorem k_179_76 : lk 179 76 = some (.bipush 6, 78, 0, 0, .int 6) := by decide +kernel
theorem x_179_76 : Tr sc d 179 (76, [l0, l1, l2, l3], [.ref k0], h) Q = Tr sc d 179 (78, [l0, l1, l2, l3], [.int 6, .ref k0], h) Q := t_go k_179_76 rfl
theorem k_179_78 : lk 179 78 = some (.iload_n 1, 79, 1, 0, .null) := by decide +kernel
theorem x_179_78 : Tr sc d 179 (78, [l0, some (.int x), l2, l3], [.int i1, .ref k0], h) Q = Tr sc d 179 (79, [l0, some (.int x), l2, l3], [.int x, .int i1, .ref k0], h) Q := t_iload_n k_179_78 rfl
theorem k_179_79 : lk 179 79 = some (.imul, 80, 0, 0, .null) := by decide +kernel
theorem x_179_79 : Tr sc d 179 (79, [l0, l1, l2, l3], [.int i2, .int i1, .ref k0], h) Q = Tr sc d 179 (80, [l0, l1, l2, l3], [.int (i1 * i2), .ref k0], h) Q := t_go k_179_79 rfl
theorem k_179_80 : lk 179 80 = some (.iload_n 3, 81, 3, 0, .null) := by decide +kernel
theorem x_179_80 : Tr sc d 179 (80, [l0, l1, l2, some (.int x)], [.int i1, .ref k0], h) Q = Tr sc d 179 (81, [l0, l1, l2, some (.int x)], [.int x, .int i1, .ref k0], h) Q := t_iload_n k_179_80 rfl
theorem k_179_81 : lk 179 81 = some (.iadd, 82, 0, 0, .null) := by decide +kernel
theorem x_179_81 : Tr sc d 179 (81, [l0, l1, l2, l3], [.int i2, .int i1, .ref k0], h) Q = Tr sc d 179 (82, [l0, l1, l2, l3], [.int (i1 + i2), .ref k0], h) Q := t_go k_179_81 rfl
theorem k_179_82 : lk 179 82 = some (.aload_n 0, 83, 0, 0, .null) := by decide +kernel
theorem x_179_82 : Tr sc d 179 (82, [some (.ref xk), l1, l2, l3], [.int i1, .ref k0], h) Q = Tr sc d 179 (83, [some (.ref xk), l1, l2, l3], [.ref xk, .int i1, .ref k0], h) Q := t_aload_n k_179_82 rfl
theorem k_179_83 : lk 179 83 = some (.getfield 32, 86, 10, 13, .null) := by decide +kernel
theorem x_179_83 : Tr sc d 179 (83, [l0, l1, l2, l3], [.ref k2, .int i1, .ref k0], h) Q = (okp h k2 10 = true ∧ ∃ q, hR h k2 13 = some q ∧ Tr sc d 179 (86, [l0, l1, l2, l3], [.ref q, .int i1, .ref k0], h) Q) := t_getr k_179_83
theorem k_179_86 : lk 179 86 = some (.iconst 3, 87, 0, 0, .int 3) := by decide +kernel
theorem x_179_86 : Tr sc d 179 (86, [l0, l1, l2, l3], [.ref k2, .int i1, .ref k0], h) Q = Tr sc d 179 (87, [l0, l1, l2, l3], [.int 3, .ref k2, .int i1, .ref k0], h) Q := t_go k_179_86 rfl
theorem k_179_87 : lk 179 87 = some (.iload_n 3, 88, 3, 0, .null) := by decide +kernel
theorem x_179_87 : Tr sc d 179 (87, [l0, l1, l2, some (.int x)], [.int i3, .ref k2, .int i1, .ref k0], h) Q = Tr sc d 179 (88, [l0, l1, l2, some (.int x)], [.int x, .int i3, .ref k2, .int i1, .ref k0], h) Q := t_iload_n k_179_87 rfl
theorem k_179_88 : lk 179 88 = some (.imul, 89, 0, 0, .null) := by decide +kernel
theorem x_179_88 : Tr sc d 179 (88, [l0, l1, l2, l3], [.int i4, .int i3, .ref k2, .int i1, .ref k0], h) Q = Tr sc d 179 (89, [l0, l1, l2, l3], [.int (i3 * i4), .ref k2, .int i1, .ref k0], h) Q := t_go k_179_88 rfl
theorem k_179_89 : lk 179 89 = some (.iconst 2, 90, 0, 0, .int 2) := by decide +kernel
theorem x_179_89 : Tr sc d 179 (89, [l0, l1, l2, l3], [.int i3, .ref k2, .int i1, .ref k0], h) Q = Tr sc d 179 (90, [l0, l1, l2, l3], [.int 2, .int i3, .ref k2, .int i1, .ref k0], h) Q := t_go k_179_89 rfl
theorem k_179_90 : lk 179 90 = some (.iadd, 91, 0, 0, .null) := by decide +kernel
theorem x_179_90 : Tr sc d 179 (90, [l0, l1, l2, l3], [.int i4, .int i3, .ref k2, .int i1, .ref k0], h) Q = Tr sc d 179 (91, [l0, l1, l2, l3], [.int (i3 + i4), .ref k2, .int i1, .ref k0], h) Q := t_go k_179_90 rfl
theorem k_179_91 : lk 179 91 = some (.iaload, 92, 0, 0, .null) := by decide +kernel
theorem x_179_91 : Tr sc d 179 (91, [l0, l1, l2, l3], [.int i3, .ref k2, .int i1, .ref k0], h) Q = (iOk sc h k2 i3 ∧ Tr sc d 179 (92, [l0, l1, l2, l3], [.int (iRd sc h k2 i3), .int i1, .ref k0], h) Q) := t_iald k_179_91
theorem k_179_92 : lk 179 92 = some (.iastore, 93, 0, 0, .null) := by decide +kernel
theorem x_179_92 : Tr sc d 179 (92, [l0, l1, l2, l3], [.int i2, .int i1, .ref k0], h) Q = ((okp h k0 11 && inb i1 (LN k0)) = true ∧ Tr sc d 179 (93, [l0, l1, l2, l3], [], (sI h k0 i1.toNatClampNeg i2)) Q) := t_gd k_179_92 rfl
theorem k_179_93 : lk 179 93 = some (.aload_n 0, 94, 0, 0, .null) := by decide +kernel
theorem x_179_93 : Tr sc d 179 (93, [some (.ref xk), l1, l2, l3], [], h) Q = Tr sc d 179 (94, [some (.ref xk), l1, l2, l3], [.ref xk], h) Q := t_aload_n k_179_93 rfl
theorem k_179_94 : lk 179 94 = some (.getfield 53, 97, 10, 22, .null) := by decide +kernel
theorem x_179_94 : Tr sc d 179 (94, [l0, l1, l2, l3], [.ref k0], h) Q = (okp h k0 10 = true ∧ ∃ q, hR h k0 22 = some q ∧ Tr sc d 179 (97, [l0, l1, l2, l3], [.ref q], h) Q) := t_getr k_179_94
theorem k_179_97 : lk 179 97 = some (.bipush 6, 99, 0, 0, .int 6) := by decide +kernel
theorem x_179_97 : Tr sc d 179 (97, [l0, l1, l2, l3], [.ref k0], h) Q = Tr sc d 179 (99, [l0, l1, l2, l3], [.int 6, .ref k0], h) Q := t_go k_179_97 rfl
theorem k_179_99 : lk 179 99 = some (.iload_n 1, 100, 1, 0, .null) := by decide +kernel
theorem x_179_99 : Tr sc d 179 (99, [l0, some (.int x), l2, l3], [.int i1, .ref k0], h) Q = Tr sc d 179 (100, [l0, some (.int x), l2, l3], [.int x, .int i1, .ref k0], h) Q := t_iload_n k_179_99 rfl
theorem k_179_100 : lk 179 100 = some (.imul, 101, 0, 0, .null) := by decide +kernel
theorem x_179_100 : Tr sc d 179 (100, [l0, l1, l2, l3], [.int i2, .int i1, .ref k0], h) Q = Tr sc d 179 (101, [l0, l1, l2, l3], [.int (i1 * i2), .ref k0], h) Q := t_go k_179_100 rfl
theorem k_179_101 : lk 179 101 = some (.iload_n 3, 102, 3, 0, .null) := by decide +kernel
theorem x_179_101 : Tr sc d 179 (101, [l0, l1, l2, some (.int x)], [.int i1, .ref k0], h) Q = Tr sc d 179 (102, [l0, l1, l2, some (.int x)], [.int x, .int i1, .ref k0], h) Q := t_iload_n k_179_101 rfl
theorem k_179_102 : lk 179 102 = some (.iadd, 103, 0, 0, .null) := by decide +kernel
theorem x_179_102 : Tr sc d 179 (102, [l0, l1, l2, l3], [.int i2, .int i1, .ref k0], h) Q = Tr sc d 179 (103, [l0, l1, l2, l3], [.int (i1 + i2), .ref k0], h) Q := t_go k_179_102 rfl
theorem k_179_103 : lk 179 103 = some (.iconst 0, 104, 0, 0, .int 0) := by decide +kernel
theorem x_179_103 : Tr sc d 179 (103, [l0, l1, l2, l3], [.int i1, .ref k0], h) Q = Tr sc d 179 (104, [l0, l1, l2, l3], [.int 0, .int i1, .ref k0], h) Q := t_go k_179_103 rfl
theorem k_179_104 : lk 179 104 = some (.iastore, 105, 0, 0, .null) := by decide +kernel
theorem x_179_104 : Tr sc d 179 (104, [l0, l1, l2, l3], [.int i2, .int i1, .ref k0], h) Q = ((okp h k0 11 && inb i1 (LN k0)) = true ∧ Tr sc d 179 (105, [l0, l1, l2, l3], [], (sI h k0 i1.toNatClampNeg i2)) Q) := t_gd k_179_104 rfl
theorem k_179_105 : lk 179 105 = some (.iload_n 2, 106, 2, 0, .null) := by decide +kernel
theorem x_179_105 : Tr sc d 179 (105, [l0, l1, some (.int x), l3], [], h) Q = Tr sc d 179 (106, [l0, l1, some (.int x), l3], [.int x], h) Q := t_iload_n k_179_105 rfl
theorem k_179_106 : lk 179 106 = some (.ifCond .eq 18, 109, 124, 0, .null) := by decide +kernel
theorem x_179_106 : Tr sc d 179 (106, [l0, l1, l2, l3], [.int i0], h) Q = if i0 = 0 then Tr sc d 179 (124, [l0, l1, l2, l3], [], h) Q else Tr sc d 179 (109, [l0, l1, l2, l3], [], h) Q := t_if k_179_106 rfl
theorem k_179_109 : lk 179 109 = some (.aload_n 0, 110, 0, 0, .null) := by decide +kernel
theorem x_179_109 : Tr sc d 179 (109, [some (.ref xk), l1, l2, l3], [], h) Q = Tr sc d 179 (110, [some (.ref xk), l1, l2, l3], [.ref xk], h) Q := t_aload_n k_179_109 rfl
theorem k_179_110 : lk 179 110 = some (.getfield 32, 113, 10, 13, .null) := by decide +kernel
theorem x_179_110 : Tr sc d 179 (110, [l0, l1, l2, l3], [.ref k0], h) Q = (okp h k0 10 = true ∧ ∃ q, hR h k0 13 = some q ∧ Tr sc d 179 (113, [l0, l1, l2, l3], [.ref q], h) Q) := t_getr k_179_110
theorem k_179_113 : lk 179 113 = some (.iconst 3, 114, 0, 0, .int 3) := by decide +kernel
theorem x_179_113 : Tr sc d 179 (113, [l0, l1, l2, l3], [.ref k0], h) Q = Tr sc d 179 (114, [l0, l1, l2, l3], [.int 3, .ref k0], h) Q := t_go k_179_113 rfl
theorem k_179_114 : lk 179 114 = some (.iload_n 3, 115, 3, 0, .null) := by decide +kernel
theorem x_179_114 : Tr sc d 179 (114, [l0, l1, l2, some (.int x)], [.int i1, .ref k0], h) Q = Tr sc d 179 (115, [l0, l1, l2, some (.int x)], [.int x, .int i1, .ref k0], h) Q := t_iload_n k_179_114 rfl
theorem k_179_115 : lk 179 115 = some (.imul, 116, 0, 0, .null) := by decide +kernel
theorem x_179_115 : Tr sc d 179 (115, [l0, l1, l2, l3], [.int i2, .int i1, .ref k0], h) Q = Tr sc d 179 (116, [l0, l1, l2, l3], [.int (i1 * i2), .ref k0], h) Q := t_go k_179_115 rfl
theorem k_179_116 : lk 179 116 = some (.iaload, 117, 0, 0, .null) := by decide +kernel
theorem x_179_116 : Tr sc d 179 (116, [l0, l1, l2, l3], [.int i1, .ref k0], h) Q = (iOk sc h k0 i1 ∧ Tr sc d 179 (117, [l0, l1, l2, l3], [.int (iRd sc h k0 i1)], h) Q) := t_iald k_179_116
theorem k_179_117 : lk 179 117 = some (.ifCond .ne 7, 120, 124, 0, .null) := by decide +kernel
theorem x_179_117 : Tr sc d 179 (117, [l0, l1, l2, l3], [.int i0], h) Q = if i0 = 0 then Tr sc d 179 (120, [l0, l1, l2, l3], [], h) Q else Tr sc d 179 (124, [l0, l1, l2, l3], [], h) Q := t_if k_179_117 rfl
theorem k_179_120 : lk 179 120 = some (.iconst 1, 121, 0, 0, .int 1) := by decide +kernel
theorem x_179_120 : Tr sc d 179 (120, [l0, l1, l2, l3], [], h) Q = Tr sc d 179 (121, [l0, l1, l2, l3], [.int 1], h) Q := t_go k_179_120 rfl
theorem k_179_121 : lk 179 121 = some (.goto 4, 124, 125, 0, .null) := by decide +kernel
theorem x_179_121 : Tr sc d 179 (121, [l0, l1, l2, l3], [.int i0], h) Q = Tr sc d 179 (125, [l0, l1, l2, l3], [.int i0], h) Q := t_go k_179_121 rfl
theorem k_179_124 : lk 179 124 = some (.iconst 0, 125, 0, 0, .int 0) := by decide +kernel
theorem x_179_124 : Tr sc d 179 (124, [l0, l1, l2, l3], [], h) Q = Tr sc d 179 (125, [l0, l1, l2, l3], [.int 0], h) Q := t_go k_179_124 rfl
theorem k_179_125 : lk 179 125 = some (.istore_n 2, 126, 2, 0, .null) := by decide +kernel
theorem x_179_125 : Tr sc d 179 (125, [l0, l1, l2, l3], [.int i0], h) Q = Tr sc d 179 (126, [l0, cl2 l1, some (.int i0), l3], [], h) Q := t_istore_n k_179_125 (Nat.le_of_ble_eq_true rfl)
theorem k_179_126 : lk 179 126 = some (.iinc 3 1, 129, 3, 0, .int 1) := by decide +kernel
theorem x_179_126 : Tr sc d 179 (126, [l0, l1, l2, some (.int x)], [], h) Q = Tr sc d 179 (129, [l0, l1, cl2 l2, some (.int (x + 1))], [], h) Q := t_inc k_179_126 rfl (Nat.le_of_ble_eq_true rfl)
theorem k_179_129 : lk 179 129 = some (.goto (-105), 132, 24, 0, .null) := by decide +kernel
theorem x_179_129 : Tr sc d 179 (129, [l0, l1, l2, l3], [], h) Q = Tr sc d 179 (24, [l0, l1, l2, l3], [], h) Q := t_go k_179_129 rfl
theorem k_179_132 : lk 179 132 = some (.aload_n 0, 133, 0, 0, .null) := by decide +kernel
theorem x_179_132 : Tr sc d 179 (132, [some (.ref xk), l1, l2, l3], [], h) Q = Tr sc d 179 (133, [some (.ref xk), l1, l2, l3], [.ref xk], h) Q := t_aload_n k_179_132 rfl
theorem k_179_133 : lk 179 133 = some (.getfield 35, 136, 10, 16, .null) := by decide +kernel
theorem x_179_133 : Tr sc d 179 (133, [l0, l1, l2, l3], [.ref k0], h) Q = (okp h k0 10 = true ∧ ∃ q, hR h k0 16 = some q ∧ Tr sc d 179 (136, [l0, l1, l2, l3], [.ref q], h) Q) := t_getr k_179_133
theorem k_179_136 : lk 179 136 = some (.iload_n 1, 137, 1, 0, .null) := by decide +kernel
theorem x_179_136 : Tr sc d 179 (136, [l0, some (.int x), l2, l3], [.ref k0], h) Q = Tr sc d 179 (137, [l0, some (.int x), l2, l3], [.int x, .ref k0], h) Q := t_iload_n k_179_136 rfl
theorem k_179_137 : lk 179 137 = some (.iload_n 2, 138, 2, 0, .null) := by decide +kernel
theorem x_179_137 : Tr sc d 179 (137, [l0, l1, some (.int x), l3], [.int i1, .ref k0], h) Q = Tr sc d 179 (138, [l0, l1, some (.int x), l3], [.int x, .int i1, .ref k0], h) Q := t_iload_n k_179_137 rfl
theorem k_179_138 : lk 179 138 = some (.ifCond .ne 7, 141, 145, 0, .null) := by decide +kernel
theorem x_179_138 : Tr sc d 179 (138, [l0, l1, l2, l3], [.int i2, .int i1, .ref k0], h) Q = if i2 = 0 then Tr sc d 179 (141, [l0, l1, l2, l3], [.int i1, .ref k0], h) Q else Tr sc d 179 (145, [l0, l1, l2, l3], [.int i1, .ref k0], h) Q := t_if k_179_138 rfl
theorem k_179_141 : lk 179 141 = some (.iconst 0, 142, 0, 0, .int 0) := by decide +kernel
theorem x_179_141 : Tr sc d 179 (141, [l0, l1, l2, l3], [.int i1, .ref k0], h) Q = Tr sc d 179 (142, [l0, l1, l2, l3], [.int 0, .int i1, .ref k0], h) Q := t_go k_179_141 rfl
theorem k_179_142 : lk 179 142 = some (.goto 16, 145, 158, 0, .null) := by decide +kernel
theorem x_179_142 : Tr sc d 179 (142, [l0, l1, l2, l3], [.int i2, .int i1, .ref k0], h) Q = Tr sc d 179 (158, [l0, l1, l2, l3], [.int i2, .int i1, .ref k0], h) Q := t_go k_179_142 rfl
theorem k_179_145 : lk 179 145 = some (.aload_n 0, 146, 0, 0, .null) := by decide +kernel
theorem x_179_145 : Tr sc d 179 (145, [some (.ref xk), l1, l2, l3], [.int i1, .ref k0], h) Q = Tr sc d 179 (146, [some (.ref xk), l1, l2, l3], [.ref xk, .int i1, .ref k0], h) Q := t_aload_n k_179_145 rfl
theorem k_179_146 : lk 179 146 = some (.iload_n 1, 147, 1, 0, .null) := by decide +kernel
theorem x_179_146 : Tr sc d 179 (146, [l0, some (.int x), l2, l3], [.ref k2, .int i1, .ref k0], h) Q = Tr sc d 179 (147, [l0, some (.int x), l2, l3], [.int x, .ref k2, .int i1, .ref k0], h) Q := t_iload_n k_179_146 rfl
theorem k_179_147 : lk 179 147 = some (.invokevirtual 193, 150, 216, 1, .null) := by decide +kernel
theorem x_179_147 : Tr sc (d + 1) 179 (147, [l0, l1, l2, l3], [.int i3, .ref k2, .int i1, .ref k0], h) Q = (okp h k2 10 = true ∧ Tr sc d 216 (ent0 216 [.ref k2, .int i3] h) (fun z => Tr sc (d + 1) 179 (150, [l0, l1, l2, l3], z.1.toList ++ [.int i1, .ref k0], z.2) Q)) := t_cv (as := [.int i3]) (r := [.int i1, .ref k0]) k_179_147 rfl rfl (Nat.le_of_ble_eq_true rfl) (Nat.le_of_ble_eq_true rfl) (Nat.le_of_ble_eq_true rfl)
theorem k_179_150 : lk 179 150 = some (.ifCond .eq 7, 153, 157, 0, .null) := by decide +kernel
theorem x_179_150 : Tr sc d 179 (150, [l0, l1, l2, l3], [.int i2, .int i1, .ref k0], h) Q = if i2 = 0 then Tr sc d 179 (157, [l0, l1, l2, l3], [.int i1, .ref k0], h) Q else Tr sc d 179 (153, [l0, l1, l2, l3], [.int i1, .ref k0], h) Q := t_if k_179_150 rfl
theorem k_179_153 : lk 179 153 = some (.iconst 2, 154, 0, 0, .int 2) := by decide +kernel
theorem x_179_153 : Tr sc d 179 (153, [l0, l1, l2, l3], [.int i1, .ref k0], h) Q = Tr sc d 179 (154, [l0, l1, l2, l3], [.int 2, .int i1, .ref k0], h) Q := t_go k_179_153 rfl
theorem k_179_154 : lk 179 154 = some (.goto 4, 157, 158, 0, .null) := by decide +kernel
theorem x_179_154 : Tr sc d 179 (154, [l0, l1, l2, l3], [.int i2, .int i1, .ref k0], h) Q = Tr sc d 179 (158, [l0, l1, l2, l3], [.int i2, .int i1, .ref k0], h) Q := t_go k_179_154 rfl
theorem k_179_157 : lk 179 157 = some (.iconst 1, 158, 0, 0, .int 1) := by decide +kernel
theorem x_179_157 : Tr sc d 179 (157, [l0, l1, l2, l3], [.int i1, .ref k0], h) Q = Tr sc d 179 (158, [l0, l1, l2, l3], [.int 1, .int i1, .ref k0], h) Q := t_go k_179_157 rfl
theorem k_179_158 : lk 179 158 = some (.iastore, 159, 0, 0, .null) := by decide +kernel
theorem x_179_158 : Tr sc d 179 (158, [l0, l1, l2, l3], [.int i2, .int i1, .ref k0], h) Q = ((okp h k0 11 && inb i1 (LN k0)) = true ∧ Tr sc d 179 (159, [l0, l1, l2, l3], [], (sI h k0 i1.toNatClampNeg i2)) Q) := t_gd k_179_158 rfl
theorem k_179_159 : lk 179 159 = some (.aload_n 0, 160, 0, 0, .null) := by decide +kernel
theorem x_179_159 : Tr sc d 179 (159, [some (.ref xk), l1, l2, l3], [], h) Q = Tr sc d 179 (160, [some (.ref xk), l1, l2, l3], [.ref xk], h) Q := t_aload_n k_179_159 rfl
theorem k_179_160 : lk 179 160 = some (.getfield 35, 163, 10, 16, .null) := by decide +kernel
theorem x_179_160 : Tr sc d 179 (160, [l0, l1, l2, l3], [.ref k0], h) Q = (okp h k0 10 = true ∧ ∃ q, hR h k0 16 = some q ∧ Tr sc d 179 (163, [l0, l1, l2, l3], [.ref q], h) Q) := t_getr k_179_160
theorem k_179_163 : lk 179 163 = some (.iload_n 1, 164, 1, 0, .null) := by decide +kernel
theorem x_179_163 : Tr sc d 179 (163, [l0, some (.int x), l2, l3], [.ref k0], h) Q = Tr sc d 179 (164, [l0, some (.int x), l2, l3], [.int x, .ref k0], h) Q := t_iload_n k_179_163 rfl
theorem k_179_164 : lk 179 164 = some (.iaload, 165, 0, 0, .null) := by decide +kernel
theorem x_179_164 : Tr sc d 179 (164, [l0, l1, l2, l3], [.int i1, .ref k0], h) Q = (iOk sc h k0 i1 ∧ Tr sc d 179 (165, [l0, l1, l2, l3], [.int (iRd sc h k0 i1)], h) Q) := t_iald k_179_164
theorem k_179_165 : lk 179 165 = some (.ireturn, 166, 0, 0, .null) := by decide +kernel
theorem x_179_165 : Tr sc d 179 (165, [l0, l1, l2, l3], [.int i0], h) Q = Q (some (.int i0), h) := t_ret k_179_165 (by rw [r_179]; rfl)
theorem e_179 : Tr sc d 179 (ent0 179 [.ref k0, .int i1] h) Q = Tr sc d 179 (0, [some (.ref k0), some (.int i1), none, none], [], h) Q := by
  have e : mL 179 = 4 := by decide +kernel
  unfold ent0
  rw [e]
  rfl
theorem r_180 : mR 180 = some .int := by decide +kernel
theorem k_180_0 : lk 180 0 = some (.iload_n 1, 1, 1, 0, .null) := by decide +kernel
theorem x_180_0 : Tr sc d 180 (0, [l0, some (.int x), l2], [], h) Q = Tr sc d 180 (1, [l0, some (.int x), l2], [.int x], h) Q := t_iload_n k_180_0 rfl
theorem k_180_1 : lk 180 1 = some (.invokestatic 190, 4, 175, 1, .null) := by decide +kernel
theorem x_180_1 : Tr sc (d + 1) 180 (1, [l0, l1, l2], [.int i0], h) Q = Tr sc d 175 (ent0 175 [.int i0] h) (fun z => Tr sc (d + 1) 180 (4, [l0, l1, l2], z.1.toList ++ [], z.2) Q) := t_cs (as := [.int i0]) (r := []) k_180_1 (by decide) rfl rfl (Nat.le_of_ble_eq_true rfl) (Nat.le_of_ble_eq_true rfl)
theorem k_180_4 : lk 180 4 = some (.ifCond .eq 10, 7, 14, 0, .null) := by decide +kernel
theorem x_180_4 : Tr sc d 180 (4, [l0, l1, l2], [.int i0], h) Q = if i0 = 0 then Tr sc d 180 (14, [l0, l1, l2], [], h) Q else Tr sc d 180 (7, [l0, l1, l2], [], h) Q := t_if k_180_4 rfl
theorem k_180_7 : lk 180 7 = some (.iload_n 2, 8, 2, 0, .null) := by decide +kernel
theorem x_180_7 : Tr sc d 180 (7, [l0, l1, some (.int x)], [], h) Q = Tr sc d 180 (8, [l0, l1, some (.int x)], [.int x], h) Q := t_iload_n k_180_7 rfl
theorem k_180_8 : lk 180 8 = some (.invokestatic 156, 11, 161, 1, .null) := by decide +kernel
theorem x_180_8 : Tr sc (d + 1) 180 (8, [l0, l1, l2], [.int i0], h) Q = Tr sc d 161 (ent0 161 [.int i0] h) (fun z => Tr sc (d + 1) 180 (11, [l0, l1, l2], z.1.toList ++ [], z.2) Q) := t_cs (as := [.int i0]) (r := []) k_180_8 (by decide) rfl rfl (Nat.le_of_ble_eq_true rfl) (Nat.le_of_ble_eq_true rfl)
theorem k_180_11 : lk 180 11 = some (.ifCond .ne 5, 14, 16, 0, .null) := by decide +kernel
theorem x_180_11 : Tr sc d 180 (11, [l0, l1, l2], [.int i0], h) Q = if i0 = 0 then Tr sc d 180 (14, [l0, l1, l2], [], h) Q else Tr sc d 180 (16, [l0, l1, l2], [], h) Q := t_if k_180_11 rfl
theorem k_180_14 : lk 180 14 = some (.iconst (-1), 15, 0, 0, .int (-1)) := by decide +kernel
theorem x_180_14 : Tr sc d 180 (14, [l0, l1, l2], [], h) Q = Tr sc d 180 (15, [l0, l1, l2], [.int (-1)], h) Q := t_go k_180_14 rfl
theorem k_180_15 : lk 180 15 = some (.ireturn, 16, 0, 0, .null) := by decide +kernel
theorem x_180_15 : Tr sc d 180 (15, [l0, l1, l2], [.int i0], h) Q = Q (some (.int i0), h) := t_ret k_180_15 (by rw [r_180]; rfl)
theorem k_180_16 : lk 180 16 = some (.aload_n 0, 17, 0, 0, .null) := by decide +kernel
theorem x_180_16 : Tr sc d 180 (16, [some (.ref xk), l1, l2], [], h) Q = Tr sc d 180 (17, [some (.ref xk), l1, l2], [.ref xk], h) Q := t_aload_n k_180_16 rfl
theorem k_180_17 : lk 180 17 = some (.getfield 26, 20, 10, 9, .null) := by decide +kernel
theorem x_180_17 : Tr sc d 180 (17, [l0, l1, l2], [.ref k0], h) Q = (okp h k0 10 = true ∧ ∃ q, hR h k0 9 = some q ∧ Tr sc d 180 (20, [l0, l1, l2], [.ref q], h) Q) := t_getr k_180_17
theorem k_180_20 : lk 180 20 = some (.iload_n 2, 21, 2, 0, .null) := by decide +kernel
theorem x_180_20 : Tr sc d 180 (20, [l0, l1, some (.int x)], [.ref k0], h) Q = Tr sc d 180 (21, [l0, l1, some (.int x)], [.int x, .ref k0], h) Q := t_iload_n k_180_20 rfl
theorem k_180_21 : lk 180 21 = some (.iaload, 22, 0, 0, .null) := by decide +kernel
theorem x_180_21 : Tr sc d 180 (21, [l0, l1, l2], [.int i1, .ref k0], h) Q = (iOk sc h k0 i1 ∧ Tr sc d 180 (22, [l0, l1, l2], [.int (iRd sc h k0 i1)], h) Q) := t_iald k_180_21
theorem k_180_22 : lk 180 22 = some (.ifCond .ge 9, 25, 31, 0, .null) := by decide +kernel
theorem x_180_22 : Tr sc d 180 (22, [l0, l1, l2], [.int i0], h) Q = if 0 ≤ i0 then Tr sc d 180 (31, [l0, l1, l2], [], h) Q else Tr sc d 180 (25, [l0, l1, l2], [], h) Q := t_if k_180_22 rfl
theorem k_180_25 : lk 180 25 = some (.aload_n 0, 26, 0, 0, .null) := by decide +kernel
theorem x_180_25 : Tr sc d 180 (25, [some (.ref xk), l1, l2], [], h) Q = Tr sc d 180 (26, [some (.ref xk), l1, l2], [.ref xk], h) Q := t_aload_n k_180_25 rfl
theorem k_180_26 : lk 180 26 = some (.iconst 1, 27, 0, 0, .int 1) := by decide +kernel
theorem x_180_26 : Tr sc d 180 (26, [l0, l1, l2], [.ref k0], h) Q = Tr sc d 180 (27, [l0, l1, l2], [.int 1, .ref k0], h) Q := t_go k_180_26 rfl
theorem k_180_27 : lk 180 27 = some (.invokevirtual 152, 30, 157, 1, .null) := by decide +kernel
theorem x_180_27 : Tr sc (d + 1) 180 (27, [l0, l1, l2], [.int i1, .ref k0], h) Q = (okp h k0 10 = true ∧ Tr sc d 157 (ent0 157 [.ref k0, .int i1] h) (fun z => Tr sc (d + 1) 180 (30, [l0, l1, l2], z.1.toList ++ [], z.2) Q)) := t_cv (as := [.int i1]) (r := []) k_180_27 rfl rfl (Nat.le_of_ble_eq_true rfl) (Nat.le_of_ble_eq_true rfl) (Nat.le_of_ble_eq_true rfl)
theorem k_180_30 : lk 180 30 = some (.ireturn, 31, 0, 0, .null) := by decide +kernel
theorem x_180_30 : Tr sc d 180 (30, [l0, l1, l2], [.int i0], h) Q = Q (some (.int i0), h) := t_ret k_180_30 (by rw [r_180]; rfl)
theorem k_180_31 : lk 180 31 = some (.aload_n 0, 32, 0, 0, .null) := by decide +kernel
theorem x_180_31 : Tr sc d 180 (31, [some (.ref xk), l1, l2], [], h) Q = Tr sc d 180 (32, [some (.ref xk), l1, l2], [.ref xk], h) Q := t_aload_n k_180_31 rfl
theorem k_180_32 : lk 180 32 = some (.iload_n 2, 33, 2, 0, .null) := by decide +kernel
theorem x_180_32 : Tr sc d 180 (32, [l0, l1, some (.int x)], [.ref k0], h) Q = Tr sc d 180 (33, [l0, l1, some (.int x)], [.int x, .ref k0], h) Q := t_iload_n k_180_32 rfl
theorem k_180_33 : lk 180 33 = some (.invokevirtual 187, 36, 173, 1, .null) := by decide +kernel
theorem x_180_33 : Tr sc (d + 1) 180 (33, [l0, l1, l2], [.int i1, .ref k0], h) Q = (okp h k0 10 = true ∧ Tr sc d 173 (ent0 173 [.ref k0, .int i1] h) (fun z => Tr sc (d + 1) 180 (36, [l0, l1, l2], z.1.toList ++ [], z.2) Q)) := t_cv (as := [.int i1]) (r := []) k_180_33 rfl rfl (Nat.le_of_ble_eq_true rfl) (Nat.le_of_ble_eq_true rfl) (Nat.le_of_ble_eq_true rfl)
theorem k_180_36 : lk 180 36 = some (.bipush (-9), 38, 0, 0, .int (-9)) := by decide +kernel
theorem x_180_36 : Tr sc d 180 (36, [l0, l1, l2], [.int i0], h) Q = Tr sc d 180 (38, [l0, l1, l2], [.int (-9), .int i0], h) Q := t_go k_180_36 rfl
theorem k_180_38 : lk 180 38 = some (.if_icmp .eq 8, 41, 46, 0, .null) := by decide +kernel
theorem x_180_38 : Tr sc d 180 (38, [l0, l1, l2], [.int i1, .int i0], h) Q = if i0 = i1 then Tr sc d 180 (46, [l0, l1, l2], [], h) Q else Tr sc d 180 (41, [l0, l1, l2], [], h) Q := t_if k_180_38 rfl
theorem k_180_41 : lk 180 41 = some (.bipush (-4), 43, 0, 0, .int (-4)) := by decide +kernel
theorem x_180_41 : Tr sc d 180 (41, [l0, l1, l2], [], h) Q = Tr sc d 180 (43, [l0, l1, l2], [.int (-4)], h) Q := t_go k_180_41 rfl
theorem k_180_43 : lk 180 43 = some (.goto 8, 46, 51, 0, .null) := by decide +kernel
theorem x_180_43 : Tr sc d 180 (43, [l0, l1, l2], [.int i0], h) Q = Tr sc d 180 (51, [l0, l1, l2], [.int i0], h) Q := t_go k_180_43 rfl
theorem k_180_46 : lk 180 46 = some (.aload_n 0, 47, 0, 0, .null) := by decide +kernel
theorem x_180_46 : Tr sc d 180 (46, [some (.ref xk), l1, l2], [], h) Q = Tr sc d 180 (47, [some (.ref xk), l1, l2], [.ref xk], h) Q := t_aload_n k_180_46 rfl
theorem k_180_47 : lk 180 47 = some (.iload_n 1, 48, 1, 0, .null) := by decide +kernel
theorem x_180_47 : Tr sc d 180 (47, [l0, some (.int x), l2], [.ref k0], h) Q = Tr sc d 180 (48, [l0, some (.int x), l2], [.int x, .ref k0], h) Q := t_iload_n k_180_47 rfl
theorem k_180_48 : lk 180 48 = some (.invokevirtual 196, 51, 179, 1, .null) := by decide +kernel
theorem x_180_48 : Tr sc (d + 1) 180 (48, [l0, l1, l2], [.int i1, .ref k0], h) Q = (okp h k0 10 = true ∧ Tr sc d 179 (ent0 179 [.ref k0, .int i1] h) (fun z => Tr sc (d + 1) 180 (51, [l0, l1, l2], z.1.toList ++ [], z.2) Q)) := t_cv (as := [.int i1]) (r := []) k_180_48 rfl rfl (Nat.le_of_ble_eq_true rfl) (Nat.le_of_ble_eq_true rfl) (Nat.le_of_ble_eq_true rfl)
theorem k_180_51 : lk 180 51 = some (.ireturn, 52, 0, 0, .null) := by decide +kernel
theorem x_180_51 : Tr sc d 180 (51, [l0, l1, l2], [.int i0], h) Q = Q (some (.int i0), h) := t_ret k_180_51 (by rw [r_180]; rfl)
theorem e_180 : Tr sc d 180 (ent0 180 [.ref k0, .int i1, .int i2] h) Q = Tr sc d 180 (0, [some (.ref k0), some (.int i1), some (.int i2)], [], h) Q := by
  have e : mL 180 = 3 := by decide +kernel
  unfold ent0
  rw [e]
  rfl
theorem r_181 : mR 181 = none := by decide +kernel
theorem k_181_0 : lk 181 0 = some (.aload_n 0, 1, 0, 0, .null) := by decide +kernel
theorem x_181_0 : Tr sc d 181 (0, [some (.ref xk), l1, l2, l3], [], h) Q = Tr sc d 181 (1, [some (.ref xk), l1, l2, l3], [.ref xk], h) Q := t_aload_n k_181_0 rfl
theorem k_181_1 : lk 181 1 = some (.getfield 38, 4, 10, 17, .null) := by decide +kernel
theorem x_181_1 : Tr sc d 181 (1, [l0, l1, l2, l3], [.ref k0], h) Q = (okp h k0 10 = true ∧ ∃ q, hR h k0 17 = some q ∧ Tr sc d 181 (4, [l0, l1, l2, l3], [.ref q], h) Q) := t_getr k_181_1
theorem k_181_4 : lk 181 4 = some (.iload_n 1, 5, 1, 0, .null) := by decide +kernel
theorem x_181_4 : Tr sc d 181 (4, [l0, some (.int x), l2, l3], [.ref k0], h) Q = Tr sc d 181 (5, [l0, some (.int x), l2, l3], [.int x, .ref k0], h) Q := t_iload_n k_181_4 rfl
theorem k_181_5 : lk 181 5 = some (.aload_n 0, 6, 0, 0, .null) := by decide +kernel
theorem x_181_5 : Tr sc d 181 (5, [some (.ref xk), l1, l2, l3], [.int i1, .ref k0], h) Q = Tr sc d 181 (6, [some (.ref xk), l1, l2, l3], [.ref xk, .int i1, .ref k0], h) Q := t_aload_n k_181_5 rfl
theorem k_181_6 : lk 181 6 = some (.getfield 38, 9, 10, 17, .null) := by decide +kernel
theorem x_181_6 : Tr sc d 181 (6, [l0, l1, l2, l3], [.ref k2, .int i1, .ref k0], h) Q = (okp h k2 10 = true ∧ ∃ q, hR h k2 17 = some q ∧ Tr sc d 181 (9, [l0, l1, l2, l3], [.ref q, .int i1, .ref k0], h) Q) := t_getr k_181_6
theorem k_181_9 : lk 181 9 = some (.iload_n 2, 10, 2, 0, .null) := by decide +kernel
theorem x_181_9 : Tr sc d 181 (9, [l0, l1, some (.int x), l3], [.ref k2, .int i1, .ref k0], h) Q = Tr sc d 181 (10, [l0, l1, some (.int x), l3], [.int x, .ref k2, .int i1, .ref k0], h) Q := t_iload_n k_181_9 rfl
theorem k_181_10 : lk 181 10 = some (.iaload, 11, 0, 0, .null) := by decide +kernel
theorem x_181_10 : Tr sc d 181 (10, [l0, l1, l2, l3], [.int i3, .ref k2, .int i1, .ref k0], h) Q = (iOk sc h k2 i3 ∧ Tr sc d 181 (11, [l0, l1, l2, l3], [.int (iRd sc h k2 i3), .int i1, .ref k0], h) Q) := t_iald k_181_10
theorem k_181_11 : lk 181 11 = some (.iastore, 12, 0, 0, .null) := by decide +kernel
theorem x_181_11 : Tr sc d 181 (11, [l0, l1, l2, l3], [.int i2, .int i1, .ref k0], h) Q = ((okp h k0 11 && inb i1 (LN k0)) = true ∧ Tr sc d 181 (12, [l0, l1, l2, l3], [], (sI h k0 i1.toNatClampNeg i2)) Q) := t_gd k_181_11 rfl
theorem k_181_12 : lk 181 12 = some (.aload_n 0, 13, 0, 0, .null) := by decide +kernel
theorem x_181_12 : Tr sc d 181 (12, [some (.ref xk), l1, l2, l3], [], h) Q = Tr sc d 181 (13, [some (.ref xk), l1, l2, l3], [.ref xk], h) Q := t_aload_n k_181_12 rfl
theorem k_181_13 : lk 181 13 = some (.getfield 41, 16, 10, 18, .null) := by decide +kernel
theorem x_181_13 : Tr sc d 181 (13, [l0, l1, l2, l3], [.ref k0], h) Q = (okp h k0 10 = true ∧ ∃ q, hR h k0 18 = some q ∧ Tr sc d 181 (16, [l0, l1, l2, l3], [.ref q], h) Q) := t_getr k_181_13
theorem k_181_16 : lk 181 16 = some (.iload_n 1, 17, 1, 0, .null) := by decide +kernel
theorem x_181_16 : Tr sc d 181 (16, [l0, some (.int x), l2, l3], [.ref k0], h) Q = Tr sc d 181 (17, [l0, some (.int x), l2, l3], [.int x, .ref k0], h) Q := t_iload_n k_181_16 rfl
theorem k_181_17 : lk 181 17 = some (.aload_n 0, 18, 0, 0, .null) := by decide +kernel
theorem x_181_17 : Tr sc d 181 (17, [some (.ref xk), l1, l2, l3], [.int i1, .ref k0], h) Q = Tr sc d 181 (18, [some (.ref xk), l1, l2, l3], [.ref xk, .int i1, .ref k0], h) Q := t_aload_n k_181_17 rfl
theorem k_181_18 : lk 181 18 = some (.getfield 41, 21, 10, 18, .null) := by decide +kernel
theorem x_181_18 : Tr sc d 181 (18, [l0, l1, l2, l3], [.ref k2, .int i1, .ref k0], h) Q = (okp h k2 10 = true ∧ ∃ q, hR h k2 18 = some q ∧ Tr sc d 181 (21, [l0, l1, l2, l3], [.ref q, .int i1, .ref k0], h) Q) := t_getr k_181_18
theorem k_181_21 : lk 181 21 = some (.iload_n 2, 22, 2, 0, .null) := by decide +kernel
theorem x_181_21 : Tr sc d 181 (21, [l0, l1, some (.int x), l3], [.ref k2, .int i1, .ref k0], h) Q = Tr sc d 181 (22, [l0, l1, some (.int x), l3], [.int x, .ref k2, .int i1, .ref k0], h) Q := t_iload_n k_181_21 rfl
theorem k_181_22 : lk 181 22 = some (.iaload, 23, 0, 0, .null) := by decide +kernel
theorem x_181_22 : Tr sc d 181 (22, [l0, l1, l2, l3], [.int i3, .ref k2, .int i1, .ref k0], h) Q = (iOk sc h k2 i3 ∧ Tr sc d 181 (23, [l0, l1, l2, l3], [.int (iRd sc h k2 i3), .int i1, .ref k0], h) Q) := t_iald k_181_22
theorem k_181_23 : lk 181 23 = some (.iastore, 24, 0, 0, .null) := by decide +kernel
theorem x_181_23 : Tr sc d 181 (23, [l0, l1, l2, l3], [.int i2, .int i1, .ref k0], h) Q = ((okp h k0 11 && inb i1 (LN k0)) = true ∧ Tr sc d 181 (24, [l0, l1, l2, l3], [], (sI h k0 i1.toNatClampNeg i2)) Q) := t_gd k_181_23 rfl
theorem k_181_24 : lk 181 24 = some (.iconst 0, 25, 0, 0, .int 0) := by decide +kernel
theorem x_181_24 : Tr sc d 181 (24, [l0, l1, l2, l3], [], h) Q = Tr sc d 181 (25, [l0, l1, l2, l3], [.int 0], h) Q := t_go k_181_24 rfl
theorem k_181_25 : lk 181 25 = some (.istore_n 3, 26, 3, 0, .null) := by decide +kernel
theorem x_181_25 : Tr sc d 181 (25, [l0, l1, l2, l3], [.int i0], h) Q = Tr sc d 181 (26, [l0, l1, cl2 l2, some (.int i0)], [], h) Q := t_istore_n k_181_25 (Nat.le_of_ble_eq_true rfl)
theorem k_181_26 : lk 181 26 = some (.iload_n 3, 27, 3, 0, .null) := by decide +kernel
theorem x_181_26 : Tr sc d 181 (26, [l0, l1, l2, some (.int x)], [], h) Q = Tr sc d 181 (27, [l0, l1, l2, some (.int x)], [.int x], h) Q := t_iload_n k_181_26 rfl
theorem k_181_27 : lk 181 27 = some (.bipush 6, 29, 0, 0, .int 6) := by decide +kernel
theorem x_181_27 : Tr sc d 181 (27, [l0, l1, l2, l3], [.int i0], h) Q = Tr sc d 181 (29, [l0, l1, l2, l3], [.int 6, .int i0], h) Q := t_go k_181_27 rfl
theorem k_181_29 : lk 181 29 = some (.if_icmp .ge 75, 32, 104, 0, .null) := by decide +kernel
theorem x_181_29 : Tr sc d 181 (29, [l0, l1, l2, l3], [.int i1, .int i0], h) Q = if i1 ≤ i0 then Tr sc d 181 (104, [l0, l1, l2, l3], [], h) Q else Tr sc d 181 (32, [l0, l1, l2, l3], [], h) Q := t_if k_181_29 rfl
theorem k_181_32 : lk 181 32 = some (.aload_n 0, 33, 0, 0, .null) := by decide +kernel
theorem x_181_32 : Tr sc d 181 (32, [some (.ref xk), l1, l2, l3], [], h) Q = Tr sc d 181 (33, [some (.ref xk), l1, l2, l3], [.ref xk], h) Q := t_aload_n k_181_32 rfl
theorem k_181_33 : lk 181 33 = some (.getfield 44, 36, 10, 19, .null) := by decide +kernel
theorem x_181_33 : Tr sc d 181 (33, [l0, l1, l2, l3], [.ref k0], h) Q = (okp h k0 10 = true ∧ ∃ q, hR h k0 19 = some q ∧ Tr sc d 181 (36, [l0, l1, l2, l3], [.ref q], h) Q) := t_getr k_181_33
theorem k_181_36 : lk 181 36 = some (.bipush 6, 38, 0, 0, .int 6) := by decide +kernel
theorem x_181_36 : Tr sc d 181 (36, [l0, l1, l2, l3], [.ref k0], h) Q = Tr sc d 181 (38, [l0, l1, l2, l3], [.int 6, .ref k0], h) Q := t_go k_181_36 rfl
theorem k_181_38 : lk 181 38 = some (.iload_n 1, 39, 1, 0, .null) := by decide +kernel
theorem x_181_38 : Tr sc d 181 (38, [l0, some (.int x), l2, l3], [.int i1, .ref k0], h) Q = Tr sc d 181 (39, [l0, some (.int x), l2, l3], [.int x, .int i1, .ref k0], h) Q := t_iload_n k_181_38 rfl
theorem k_181_39 : lk 181 39 = some (.imul, 40, 0, 0, .null) := by decide +kernel
theorem x_181_39 : Tr sc d 181 (39, [l0, l1, l2, l3], [.int i2, .int i1, .ref k0], h) Q = Tr sc d 181 (40, [l0, l1, l2, l3], [.int (i1 * i2), .ref k0], h) Q := t_go k_181_39 rfl
theorem k_181_40 : lk 181 40 = some (.iload_n 3, 41, 3, 0, .null) := by decide +kernel
theorem x_181_40 : Tr sc d 181 (40, [l0, l1, l2, some (.int x)], [.int i1, .ref k0], h) Q = Tr sc d 181 (41, [l0, l1, l2, some (.int x)], [.int x, .int i1, .ref k0], h) Q := t_iload_n k_181_40 rfl
theorem k_181_41 : lk 181 41 = some (.iadd, 42, 0, 0, .null) := by decide +kernel
theorem x_181_41 : Tr sc d 181 (41, [l0, l1, l2, l3], [.int i2, .int i1, .ref k0], h) Q = Tr sc d 181 (42, [l0, l1, l2, l3], [.int (i1 + i2), .ref k0], h) Q := t_go k_181_41 rfl
theorem k_181_42 : lk 181 42 = some (.aload_n 0, 43, 0, 0, .null) := by decide +kernel
theorem x_181_42 : Tr sc d 181 (42, [some (.ref xk), l1, l2, l3], [.int i1, .ref k0], h) Q = Tr sc d 181 (43, [some (.ref xk), l1, l2, l3], [.ref xk, .int i1, .ref k0], h) Q := t_aload_n k_181_42 rfl
theorem k_181_43 : lk 181 43 = some (.getfield 44, 46, 10, 19, .null) := by decide +kernel
theorem x_181_43 : Tr sc d 181 (43, [l0, l1, l2, l3], [.ref k2, .int i1, .ref k0], h) Q = (okp h k2 10 = true ∧ ∃ q, hR h k2 19 = some q ∧ Tr sc d 181 (46, [l0, l1, l2, l3], [.ref q, .int i1, .ref k0], h) Q) := t_getr k_181_43
theorem k_181_46 : lk 181 46 = some (.bipush 6, 48, 0, 0, .int 6) := by decide +kernel
theorem x_181_46 : Tr sc d 181 (46, [l0, l1, l2, l3], [.ref k2, .int i1, .ref k0], h) Q = Tr sc d 181 (48, [l0, l1, l2, l3], [.int 6, .ref k2, .int i1, .ref k0], h) Q := t_go k_181_46 rfl
theorem k_181_48 : lk 181 48 = some (.iload_n 2, 49, 2, 0, .null) := by decide +kernel
theorem x_181_48 : Tr sc d 181 (48, [l0, l1, some (.int x), l3], [.int i3, .ref k2, .int i1, .ref k0], h) Q = Tr sc d 181 (49, [l0, l1, some (.int x), l3], [.int x, .int i3, .ref k2, .int i1, .ref k0], h) Q := t_iload_n k_181_48 rfl
theorem k_181_49 : lk 181 49 = some (.imul, 50, 0, 0, .null) := by decide +kernel
theorem x_181_49 : Tr sc d 181 (49, [l0, l1, l2, l3], [.int i4, .int i3, .ref k2, .int i1, .ref k0], h) Q = Tr sc d 181 (50, [l0, l1, l2, l3], [.int (i3 * i4), .ref k2, .int i1, .ref k0], h) Q := t_go k_181_49 rfl
theorem k_181_50 : lk 181 50 = some (.iload_n 3, 51, 3, 0, .null) := by decide +kernel
theorem x_181_50 : Tr sc d 181 (50, [l0, l1, l2, some (.int x)], [.int i3, .ref k2, .int i1, .ref k0], h) Q = Tr sc d 181 (51, [l0, l1, l2, some (.int x)], [.int x, .int i3, .ref k2, .int i1, .ref k0], h) Q := t_iload_n k_181_50 rfl
theorem k_181_51 : lk 181 51 = some (.iadd, 52, 0, 0, .null) := by decide +kernel
theorem x_181_51 : Tr sc d 181 (51, [l0, l1, l2, l3], [.int i4, .int i3, .ref k2, .int i1, .ref k0], h) Q = Tr sc d 181 (52, [l0, l1, l2, l3], [.int (i3 + i4), .ref k2, .int i1, .ref k0], h) Q := t_go k_181_51 rfl
theorem k_181_52 : lk 181 52 = some (.iaload, 53, 0, 0, .null) := by decide +kernel
theorem x_181_52 : Tr sc d 181 (52, [l0, l1, l2, l3], [.int i3, .ref k2, .int i1, .ref k0], h) Q = (iOk sc h k2 i3 ∧ Tr sc d 181 (53, [l0, l1, l2, l3], [.int (iRd sc h k2 i3), .int i1, .ref k0], h) Q) := t_iald k_181_52
theorem k_181_53 : lk 181 53 = some (.iastore, 54, 0, 0, .null) := by decide +kernel
theorem x_181_53 : Tr sc d 181 (53, [l0, l1, l2, l3], [.int i2, .int i1, .ref k0], h) Q = ((okp h k0 11 && inb i1 (LN k0)) = true ∧ Tr sc d 181 (54, [l0, l1, l2, l3], [], (sI h k0 i1.toNatClampNeg i2)) Q) := t_gd k_181_53 rfl
theorem k_181_54 : lk 181 54 = some (.aload_n 0, 55, 0, 0, .null) := by decide +kernel
theorem x_181_54 : Tr sc d 181 (54, [some (.ref xk), l1, l2, l3], [], h) Q = Tr sc d 181 (55, [some (.ref xk), l1, l2, l3], [.ref xk], h) Q := t_aload_n k_181_54 rfl
theorem k_181_55 : lk 181 55 = some (.getfield 47, 58, 10, 20, .null) := by decide +kernel
theorem x_181_55 : Tr sc d 181 (55, [l0, l1, l2, l3], [.ref k0], h) Q = (okp h k0 10 = true ∧ ∃ q, hR h k0 20 = some q ∧ Tr sc d 181 (58, [l0, l1, l2, l3], [.ref q], h) Q) := t_getr k_181_55
theorem k_181_58 : lk 181 58 = some (.bipush 6, 60, 0, 0, .int 6) := by decide +kernel
theorem x_181_58 : Tr sc d 181 (58, [l0, l1, l2, l3], [.ref k0], h) Q = Tr sc d 181 (60, [l0, l1, l2, l3], [.int 6, .ref k0], h) Q := t_go k_181_58 rfl
theorem k_181_60 : lk 181 60 = some (.iload_n 1, 61, 1, 0, .null) := by decide +kernel
theorem x_181_60 : Tr sc d 181 (60, [l0, some (.int x), l2, l3], [.int i1, .ref k0], h) Q = Tr sc d 181 (61, [l0, some (.int x), l2, l3], [.int x, .int i1, .ref k0], h) Q := t_iload_n k_181_60 rfl
theorem k_181_61 : lk 181 61 = some (.imul, 62, 0, 0, .null) := by decide +kernel
theorem x_181_61 : Tr sc d 181 (61, [l0, l1, l2, l3], [.int i2, .int i1, .ref k0], h) Q = Tr sc d 181 (62, [l0, l1, l2, l3], [.int (i1 * i2), .ref k0], h) Q := t_go k_181_61 rfl
theorem k_181_62 : lk 181 62 = some (.iload_n 3, 63, 3, 0, .null) := by decide +kernel
theorem x_181_62 : Tr sc d 181 (62, [l0, l1, l2, some (.int x)], [.int i1, .ref k0], h) Q = Tr sc d 181 (63, [l0, l1, l2, some (.int x)], [.int x, .int i1, .ref k0], h) Q := t_iload_n k_181_62 rfl
theorem k_181_63 : lk 181 63 = some (.iadd, 64, 0, 0, .null) := by decide +kernel
theorem x_181_63 : Tr sc d 181 (63, [l0, l1, l2, l3], [.int i2, .int i1, .ref k0], h) Q = Tr sc d 181 (64, [l0, l1, l2, l3], [.int (i1 + i2), .ref k0], h) Q := t_go k_181_63 rfl
theorem k_181_64 : lk 181 64 = some (.aload_n 0, 65, 0, 0, .null) := by decide +kernel
theorem x_181_64 : Tr sc d 181 (64, [some (.ref xk), l1, l2, l3], [.int i1, .ref k0], h) Q = Tr sc d 181 (65, [some (.ref xk), l1, l2, l3], [.ref xk, .int i1, .ref k0], h) Q := t_aload_n k_181_64 rfl
theorem k_181_65 : lk 181 65 = some (.getfield 47, 68, 10, 20, .null) := by decide +kernel
theorem x_181_65 : Tr sc d 181 (65, [l0, l1, l2, l3], [.ref k2, .int i1, .ref k0], h) Q = (okp h k2 10 = true ∧ ∃ q, hR h k2 20 = some q ∧ Tr sc d 181 (68, [l0, l1, l2, l3], [.ref q, .int i1, .ref k0], h) Q) := t_getr k_181_65
theorem k_181_68 : lk 181 68 = some (.bipush 6, 70, 0, 0, .int 6) := by decide +kernel
theorem x_181_68 : Tr sc d 181 (68, [l0, l1, l2, l3], [.ref k2, .int i1, .ref k0], h) Q = Tr sc d 181 (70, [l0, l1, l2, l3], [.int 6, .ref k2, .int i1, .ref k0], h) Q := t_go k_181_68 rfl
theorem k_181_70 : lk 181 70 = some (.iload_n 2, 71, 2, 0, .null) := by decide +kernel
theorem x_181_70 : Tr sc d 181 (70, [l0, l1, some (.int x), l3], [.int i3, .ref k2, .int i1, .ref k0], h) Q = Tr sc d 181 (71, [l0, l1, some (.int x), l3], [.int x, .int i3, .ref k2, .int i1, .ref k0], h) Q := t_iload_n k_181_70 rfl
theorem k_181_71 : lk 181 71 = some (.imul, 72, 0, 0, .null) := by decide +kernel
theorem x_181_71 : Tr sc d 181 (71, [l0, l1, l2, l3], [.int i4, .int i3, .ref k2, .int i1, .ref k0], h) Q = Tr sc d 181 (72, [l0, l1, l2, l3], [.int (i3 * i4), .ref k2, .int i1, .ref k0], h) Q := t_go k_181_71 rfl
theorem k_181_72 : lk 181 72 = some (.iload_n 3, 73, 3, 0, .null) := by decide +kernel
theorem x_181_72 : Tr sc d 181 (72, [l0, l1, l2, some (.int x)], [.int i3, .ref k2, .int i1, .ref k0], h) Q = Tr sc d 181 (73, [l0, l1, l2, some (.int x)], [.int x, .int i3, .ref k2, .int i1, .ref k0], h) Q := t_iload_n k_181_72 rfl
theorem k_181_73 : lk 181 73 = some (.iadd, 74, 0, 0, .null) := by decide +kernel
theorem x_181_73 : Tr sc d 181 (73, [l0, l1, l2, l3], [.int i4, .int i3, .ref k2, .int i1, .ref k0], h) Q = Tr sc d 181 (74, [l0, l1, l2, l3], [.int (i3 + i4), .ref k2, .int i1, .ref k0], h) Q := t_go k_181_73 rfl
theorem k_181_74 : lk 181 74 = some (.iaload, 75, 0, 0, .null) := by decide +kernel
theorem x_181_74 : Tr sc d 181 (74, [l0, l1, l2, l3], [.int i3, .ref k2, .int i1, .ref k0], h) Q = (iOk sc h k2 i3 ∧ Tr sc d 181 (75, [l0, l1, l2, l3], [.int (iRd sc h k2 i3), .int i1, .ref k0], h) Q) := t_iald k_181_74
theorem k_181_75 : lk 181 75 = some (.iastore, 76, 0, 0, .null) := by decide +kernel
theorem x_181_75 : Tr sc d 181 (75, [l0, l1, l2, l3], [.int i2, .int i1, .ref k0], h) Q = ((okp h k0 11 && inb i1 (LN k0)) = true ∧ Tr sc d 181 (76, [l0, l1, l2, l3], [], (sI h k0 i1.toNatClampNeg i2)) Q) := t_gd k_181_75 rfl
theorem k_181_76 : lk 181 76 = some (.aload_n 0, 77, 0, 0, .null) := by decide +kernel
theorem x_181_76 : Tr sc d 181 (76, [some (.ref xk), l1, l2, l3], [], h) Q = Tr sc d 181 (77, [some (.ref xk), l1, l2, l3], [.ref xk], h) Q := t_aload_n k_181_76 rfl
theorem k_181_77 : lk 181 77 = some (.getfield 50, 80, 10, 21, .null) := by decide +kernel
theorem x_181_77 : Tr sc d 181 (77, [l0, l1, l2, l3], [.ref k0], h) Q = (okp h k0 10 = true ∧ ∃ q, hR h k0 21 = some q ∧ Tr sc d 181 (80, [l0, l1, l2, l3], [.ref q], h) Q) := t_getr k_181_77
theorem k_181_80 : lk 181 80 = some (.bipush 6, 82, 0, 0, .int 6) := by decide +kernel
theorem x_181_80 : Tr sc d 181 (80, [l0, l1, l2, l3], [.ref k0], h) Q = Tr sc d 181 (82, [l0, l1, l2, l3], [.int 6, .ref k0], h) Q := t_go k_181_80 rfl
theorem k_181_82 : lk 181 82 = some (.iload_n 1, 83, 1, 0, .null) := by decide +kernel
theorem x_181_82 : Tr sc d 181 (82, [l0, some (.int x), l2, l3], [.int i1, .ref k0], h) Q = Tr sc d 181 (83, [l0, some (.int x), l2, l3], [.int x, .int i1, .ref k0], h) Q := t_iload_n k_181_82 rfl
theorem k_181_83 : lk 181 83 = some (.imul, 84, 0, 0, .null) := by decide +kernel
theorem x_181_83 : Tr sc d 181 (83, [l0, l1, l2, l3], [.int i2, .int i1, .ref k0], h) Q = Tr sc d 181 (84, [l0, l1, l2, l3], [.int (i1 * i2), .ref k0], h) Q := t_go k_181_83 rfl
theorem k_181_84 : lk 181 84 = some (.iload_n 3, 85, 3, 0, .null) := by decide +kernel
theorem x_181_84 : Tr sc d 181 (84, [l0, l1, l2, some (.int x)], [.int i1, .ref k0], h) Q = Tr sc d 181 (85, [l0, l1, l2, some (.int x)], [.int x, .int i1, .ref k0], h) Q := t_iload_n k_181_84 rfl
theorem k_181_85 : lk 181 85 = some (.iadd, 86, 0, 0, .null) := by decide +kernel
theorem x_181_85 : Tr sc d 181 (85, [l0, l1, l2, l3], [.int i2, .int i1, .ref k0], h) Q = Tr sc d 181 (86, [l0, l1, l2, l3], [.int (i1 + i2), .ref k0], h) Q := t_go k_181_85 rfl
theorem k_181_86 : lk 181 86 = some (.aload_n 0, 87, 0, 0, .null) := by decide +kernel
theorem x_181_86 : Tr sc d 181 (86, [some (.ref xk), l1, l2, l3], [.int i1, .ref k0], h) Q = Tr sc d 181 (87, [some (.ref xk), l1, l2, l3], [.ref xk, .int i1, .ref k0], h) Q := t_aload_n k_181_86 rfl
theorem k_181_87 : lk 181 87 = some (.getfield 50, 90, 10, 21, .null) := by decide +kernel
theorem x_181_87 : Tr sc d 181 (87, [l0, l1, l2, l3], [.ref k2, .int i1, .ref k0], h) Q = (okp h k2 10 = true ∧ ∃ q, hR h k2 21 = some q ∧ Tr sc d 181 (90, [l0, l1, l2, l3], [.ref q, .int i1, .ref k0], h) Q) := t_getr k_181_87
theorem k_181_90 : lk 181 90 = some (.bipush 6, 92, 0, 0, .int 6) := by decide +kernel
theorem x_181_90 : Tr sc d 181 (90, [l0, l1, l2, l3], [.ref k2, .int i1, .ref k0], h) Q = Tr sc d 181 (92, [l0, l1, l2, l3], [.int 6, .ref k2, .int i1, .ref k0], h) Q := t_go k_181_90 rfl
theorem k_181_92 : lk 181 92 = some (.iload_n 2, 93, 2, 0, .null) := by decide +kernel
theorem x_181_92 : Tr sc d 181 (92, [l0, l1, some (.int x), l3], [.int i3, .ref k2, .int i1, .ref k0], h) Q = Tr sc d 181 (93, [l0, l1, some (.int x), l3], [.int x, .int i3, .ref k2, .int i1, .ref k0], h) Q := t_iload_n k_181_92 rfl
theorem k_181_93 : lk 181 93 = some (.imul, 94, 0, 0, .null) := by decide +kernel
theorem x_181_93 : Tr sc d 181 (93, [l0, l1, l2, l3], [.int i4, .int i3, .ref k2, .int i1, .ref k0], h) Q = Tr sc d 181 (94, [l0, l1, l2, l3], [.int (i3 * i4), .ref k2, .int i1, .ref k0], h) Q := t_go k_181_93 rfl
theorem k_181_94 : lk 181 94 = some (.iload_n 3, 95, 3, 0, .null) := by decide +kernel
theorem x_181_94 : Tr sc d 181 (94, [l0, l1, l2, some (.int x)], [.int i3, .ref k2, .int i1, .ref k0], h) Q = Tr sc d 181 (95, [l0, l1, l2, some (.int x)], [.int x, .int i3, .ref k2, .int i1, .ref k0], h) Q := t_iload_n k_181_94 rfl
theorem k_181_95 : lk 181 95 = some (.iadd, 96, 0, 0, .null) := by decide +kernel
theorem x_181_95 : Tr sc d 181 (95, [l0, l1, l2, l3], [.int i4, .int i3, .ref k2, .int i1, .ref k0], h) Q = Tr sc d 181 (96, [l0, l1, l2, l3], [.int (i3 + i4), .ref k2, .int i1, .ref k0], h) Q := t_go k_181_95 rfl
theorem k_181_96 : lk 181 96 = some (.iaload, 97, 0, 0, .null) := by decide +kernel
theorem x_181_96 : Tr sc d 181 (96, [l0, l1, l2, l3], [.int i3, .ref k2, .int i1, .ref k0], h) Q = (iOk sc h k2 i3 ∧ Tr sc d 181 (97, [l0, l1, l2, l3], [.int (iRd sc h k2 i3), .int i1, .ref k0], h) Q) := t_iald k_181_96
theorem k_181_97 : lk 181 97 = some (.iastore, 98, 0, 0, .null) := by decide +kernel
theorem x_181_97 : Tr sc d 181 (97, [l0, l1, l2, l3], [.int i2, .int i1, .ref k0], h) Q = ((okp h k0 11 && inb i1 (LN k0)) = true ∧ Tr sc d 181 (98, [l0, l1, l2, l3], [], (sI h k0 i1.toNatClampNeg i2)) Q) := t_gd k_181_97 rfl
theorem k_181_98 : lk 181 98 = some (.iinc 3 1, 101, 3, 0, .int 1) := by decide +kernel
theorem x_181_98 : Tr sc d 181 (98, [l0, l1, l2, some (.int x)], [], h) Q = Tr sc d 181 (101, [l0, l1, cl2 l2, some (.int (x + 1))], [], h) Q := t_inc k_181_98 rfl (Nat.le_of_ble_eq_true rfl)
theorem k_181_101 : lk 181 101 = some (.goto (-75), 104, 26, 0, .null) := by decide +kernel
theorem x_181_101 : Tr sc d 181 (101, [l0, l1, l2, l3], [], h) Q = Tr sc d 181 (26, [l0, l1, l2, l3], [], h) Q := t_go k_181_101 rfl
theorem k_181_104 : lk 181 104 = some (.return_, 105, 0, 0, .null) := by decide +kernel
theorem x_181_104 : Tr sc d 181 (104, [l0, l1, l2, l3], [], h) Q = Q (none, h) := t_ret k_181_104 (by rw [r_181]; rfl)
theorem e_181 : Tr sc d 181 (ent0 181 [.ref k0, .int i1, .int i2] h) Q = Tr sc d 181 (0, [some (.ref k0), some (.int i1), some (.int i2), none], [], h) Q := by
  have e : mL 181 = 4 := by decide +kernel
  unfold ent0
  rw [e]
  rfl
theorem r_182 : mR 182 = some .int := by decide +kernel
theorem k_182_0 : lk 182 0 = some (.iload_n 1, 1, 1, 0, .null) := by decide +kernel
theorem x_182_0 : Tr sc d 182 (0, [l0, some (.int x), l2, l3, l4, l5, l6, l7], [], h) Q = Tr sc d 182 (1, [l0, some (.int x), l2, l3, l4, l5, l6, l7], [.int x], h) Q := t_iload_n k_182_0 rfl
theorem k_182_1 : lk 182 1 = some (.invokestatic 190, 4, 175, 1, .null) := by decide +kernel
theorem x_182_1 : Tr sc (d + 1) 182 (1, [l0, l1, l2, l3, l4, l5, l6, l7], [.int i0], h) Q = Tr sc d 175 (ent0 175 [.int i0] h) (fun z => Tr sc (d + 1) 182 (4, [l0, l1, l2, l3, l4, l5, l6, l7], z.1.toList ++ [], z.2) Q) := t_cs (as := [.int i0]) (r := []) k_182_1 (by decide) rfl rfl (Nat.le_of_ble_eq_true rfl) (Nat.le_of_ble_eq_true rfl)
theorem k_182_4 : lk 182 4 = some (.ifCond .eq 17, 7, 21, 0, .null) := by decide +kernel
theorem x_182_4 : Tr sc d 182 (4, [l0, l1, l2, l3, l4, l5, l6, l7], [.int i0], h) Q = if i0 = 0 then Tr sc d 182 (21, [l0, l1, l2, l3, l4, l5, l6, l7], [], h) Q else Tr sc d 182 (7, [l0, l1, l2, l3, l4, l5, l6, l7], [], h) Q := t_if k_182_4 rfl
theorem k_182_7 : lk 182 7 = some (.iload_n 2, 8, 2, 0, .null) := by decide +kernel
theorem x_182_7 : Tr sc d 182 (7, [l0, l1, some (.int x), l3, l4, l5, l6, l7], [], h) Q = Tr sc d 182 (8, [l0, l1, some (.int x), l3, l4, l5, l6, l7], [.int x], h) Q := t_iload_n k_182_7 rfl
theorem k_182_8 : lk 182 8 = some (.invokestatic 190, 11, 175, 1, .null) := by decide +kernel
theorem x_182_8 : Tr sc (d + 1) 182 (8, [l0, l1, l2, l3, l4, l5, l6, l7], [.int i0], h) Q = Tr sc d 175 (ent0 175 [.int i0] h) (fun z => Tr sc (d + 1) 182 (11, [l0, l1, l2, l3, l4, l5, l6, l7], z.1.toList ++ [], z.2) Q) := t_cs (as := [.int i0]) (r := []) k_182_8 (by decide) rfl rfl (Nat.le_of_ble_eq_true rfl) (Nat.le_of_ble_eq_true rfl)
theorem k_182_11 : lk 182 11 = some (.ifCond .eq 10, 14, 21, 0, .null) := by decide +kernel
theorem x_182_11 : Tr sc d 182 (11, [l0, l1, l2, l3, l4, l5, l6, l7], [.int i0], h) Q = if i0 = 0 then Tr sc d 182 (21, [l0, l1, l2, l3, l4, l5, l6, l7], [], h) Q else Tr sc d 182 (14, [l0, l1, l2, l3, l4, l5, l6, l7], [], h) Q := t_if k_182_11 rfl
theorem k_182_14 : lk 182 14 = some (.iload_n 3, 15, 3, 0, .null) := by decide +kernel
theorem x_182_14 : Tr sc d 182 (14, [l0, l1, l2, some (.int x), l4, l5, l6, l7], [], h) Q = Tr sc d 182 (15, [l0, l1, l2, some (.int x), l4, l5, l6, l7], [.int x], h) Q := t_iload_n k_182_14 rfl
theorem k_182_15 : lk 182 15 = some (.invokestatic 148, 18, 160, 1, .null) := by decide +kernel
theorem x_182_15 : Tr sc (d + 1) 182 (15, [l0, l1, l2, l3, l4, l5, l6, l7], [.int i0], h) Q = Tr sc d 160 (ent0 160 [.int i0] h) (fun z => Tr sc (d + 1) 182 (18, [l0, l1, l2, l3, l4, l5, l6, l7], z.1.toList ++ [], z.2) Q) := t_cs (as := [.int i0]) (r := []) k_182_15 (by decide) rfl rfl (Nat.le_of_ble_eq_true rfl) (Nat.le_of_ble_eq_true rfl)
theorem k_182_18 : lk 182 18 = some (.ifCond .ne 5, 21, 23, 0, .null) := by decide +kernel
theorem x_182_18 : Tr sc d 182 (18, [l0, l1, l2, l3, l4, l5, l6, l7], [.int i0], h) Q = if i0 = 0 then Tr sc d 182 (21, [l0, l1, l2, l3, l4, l5, l6, l7], [], h) Q else Tr sc d 182 (23, [l0, l1, l2, l3, l4, l5, l6, l7], [], h) Q := t_if k_182_18 rfl
theorem k_182_21 : lk 182 21 = some (.iconst (-1), 22, 0, 0, .int (-1)) := by decide +kernel
theorem x_182_21 : Tr sc d 182 (21, [l0, l1, l2, l3, l4, l5, l6, l7], [], h) Q = Tr sc d 182 (22, [l0, l1, l2, l3, l4, l5, l6, l7], [.int (-1)], h) Q := t_go k_182_21 rfl
theorem k_182_22 : lk 182 22 = some (.ireturn, 23, 0, 0, .null) := by decide +kernel
theorem x_182_22 : Tr sc d 182 (22, [l0, l1, l2, l3, l4, l5, l6, l7], [.int i0], h) Q = Q (some (.int i0), h) := t_ret k_182_22 (by rw [r_182]; rfl)
theorem k_182_23 : lk 182 23 = some (.aload_n 0, 24, 0, 0, .null) := by decide +kernel
theorem x_182_23 : Tr sc d 182 (23, [some (.ref xk), l1, l2, l3, l4, l5, l6, l7], [], h) Q = Tr sc d 182 (24, [some (.ref xk), l1, l2, l3, l4, l5, l6, l7], [.ref xk], h) Q := t_aload_n k_182_23 rfl
theorem k_182_24 : lk 182 24 = some (.getfield 41, 27, 10, 18, .null) := by decide +kernel
theorem x_182_24 : Tr sc d 182 (24, [l0, l1, l2, l3, l4, l5, l6, l7], [.ref k0], h) Q = (okp h k0 10 = true ∧ ∃ q, hR h k0 18 = some q ∧ Tr sc d 182 (27, [l0, l1, l2, l3, l4, l5, l6, l7], [.ref q], h) Q) := t_getr k_182_24
theorem k_182_27 : lk 182 27 = some (.iload_n 2, 28, 2, 0, .null) := by decide +kernel
theorem x_182_27 : Tr sc d 182 (27, [l0, l1, some (.int x), l3, l4, l5, l6, l7], [.ref k0], h) Q = Tr sc d 182 (28, [l0, l1, some (.int x), l3, l4, l5, l6, l7], [.int x, .ref k0], h) Q := t_iload_n k_182_27 rfl
theorem k_182_28 : lk 182 28 = some (.iaload, 29, 0, 0, .null) := by decide +kernel
theorem x_182_28 : Tr sc d 182 (28, [l0, l1, l2, l3, l4, l5, l6, l7], [.int i1, .ref k0], h) Q = (iOk sc h k0 i1 ∧ Tr sc d 182 (29, [l0, l1, l2, l3, l4, l5, l6, l7], [.int (iRd sc h k0 i1)], h) Q) := t_iald k_182_28
theorem k_182_29 : lk 182 29 = some (.ifCond .eq 12, 32, 41, 0, .null) := by decide +kernel
theorem x_182_29 : Tr sc d 182 (29, [l0, l1, l2, l3, l4, l5, l6, l7], [.int i0], h) Q = if i0 = 0 then Tr sc d 182 (41, [l0, l1, l2, l3, l4, l5, l6, l7], [], h) Q else Tr sc d 182 (32, [l0, l1, l2, l3, l4, l5, l6, l7], [], h) Q := t_if k_182_29 rfl
theorem k_182_32 : lk 182 32 = some (.aload_n 0, 33, 0, 0, .null) := by decide +kernel
theorem x_182_32 : Tr sc d 182 (32, [some (.ref xk), l1, l2, l3, l4, l5, l6, l7], [], h) Q = Tr sc d 182 (33, [some (.ref xk), l1, l2, l3, l4, l5, l6, l7], [.ref xk], h) Q := t_aload_n k_182_32 rfl
theorem k_182_33 : lk 182 33 = some (.getfield 17, 36, 10, 6, .null) := by decide +kernel
theorem x_182_33 : Tr sc d 182 (33, [l0, l1, l2, l3, l4, l5, l6, l7], [.ref k0], h) Q = (okp h k0 10 = true ∧ ∃ q, hR h k0 6 = some q ∧ Tr sc d 182 (36, [l0, l1, l2, l3, l4, l5, l6, l7], [.ref q], h) Q) := t_getr k_182_33
theorem k_182_36 : lk 182 36 = some (.iload_n 3, 37, 3, 0, .null) := by decide +kernel
theorem x_182_36 : Tr sc d 182 (36, [l0, l1, l2, some (.int x), l4, l5, l6, l7], [.ref k0], h) Q = Tr sc d 182 (37, [l0, l1, l2, some (.int x), l4, l5, l6, l7], [.int x, .ref k0], h) Q := t_iload_n k_182_36 rfl
theorem k_182_37 : lk 182 37 = some (.iaload, 38, 0, 0, .null) := by decide +kernel
theorem x_182_37 : Tr sc d 182 (37, [l0, l1, l2, l3, l4, l5, l6, l7], [.int i1, .ref k0], h) Q = (iOk sc h k0 i1 ∧ Tr sc d 182 (38, [l0, l1, l2, l3, l4, l5, l6, l7], [.int (iRd sc h k0 i1)], h) Q) := t_iald k_182_37
theorem k_182_38 : lk 182 38 = some (.ifCond .ge 9, 41, 47, 0, .null) := by decide +kernel
theorem x_182_38 : Tr sc d 182 (38, [l0, l1, l2, l3, l4, l5, l6, l7], [.int i0], h) Q = if 0 ≤ i0 then Tr sc d 182 (47, [l0, l1, l2, l3, l4, l5, l6, l7], [], h) Q else Tr sc d 182 (41, [l0, l1, l2, l3, l4, l5, l6, l7], [], h) Q := t_if k_182_38 rfl
theorem k_182_41 : lk 182 41 = some (.aload_n 0, 42, 0, 0, .null) := by decide +kernel
theorem x_182_41 : Tr sc d 182 (41, [some (.ref xk), l1, l2, l3, l4, l5, l6, l7], [], h) Q = Tr sc d 182 (42, [some (.ref xk), l1, l2, l3, l4, l5, l6, l7], [.ref xk], h) Q := t_aload_n k_182_41 rfl
theorem k_182_42 : lk 182 42 = some (.iconst 1, 43, 0, 0, .int 1) := by decide +kernel
theorem x_182_42 : Tr sc d 182 (42, [l0, l1, l2, l3, l4, l5, l6, l7], [.ref k0], h) Q = Tr sc d 182 (43, [l0, l1, l2, l3, l4, l5, l6, l7], [.int 1, .ref k0], h) Q := t_go k_182_42 rfl
theorem k_182_43 : lk 182 43 = some (.invokevirtual 152, 46, 157, 1, .null) := by decide +kernel
theorem x_182_43 : Tr sc (d + 1) 182 (43, [l0, l1, l2, l3, l4, l5, l6, l7], [.int i1, .ref k0], h) Q = (okp h k0 10 = true ∧ Tr sc d 157 (ent0 157 [.ref k0, .int i1] h) (fun z => Tr sc (d + 1) 182 (46, [l0, l1, l2, l3, l4, l5, l6, l7], z.1.toList ++ [], z.2) Q)) := t_cv (as := [.int i1]) (r := []) k_182_43 rfl rfl (Nat.le_of_ble_eq_true rfl) (Nat.le_of_ble_eq_true rfl) (Nat.le_of_ble_eq_true rfl)
theorem k_182_46 : lk 182 46 = some (.ireturn, 47, 0, 0, .null) := by decide +kernel
theorem x_182_46 : Tr sc d 182 (46, [l0, l1, l2, l3, l4, l5, l6, l7], [.int i0], h) Q = Q (some (.int i0), h) := t_ret k_182_46 (by rw [r_182]; rfl)
theorem k_182_47 : lk 182 47 = some (.aload_n 0, 48, 0, 0, .null) := by decide +kernel
theorem x_182_47 : Tr sc d 182 (47, [some (.ref xk), l1, l2, l3, l4, l5, l6, l7], [], h) Q = Tr sc d 182 (48, [some (.ref xk), l1, l2, l3, l4, l5, l6, l7], [.ref xk], h) Q := t_aload_n k_182_47 rfl
theorem k_182_48 : lk 182 48 = some (.getfield 17, 51, 10, 6, .null) := by decide +kernel
theorem x_182_48 : Tr sc d 182 (48, [l0, l1, l2, l3, l4, l5, l6, l7], [.ref k0], h) Q = (okp h k0 10 = true ∧ ∃ q, hR h k0 6 = some q ∧ Tr sc d 182 (51, [l0, l1, l2, l3, l4, l5, l6, l7], [.ref q], h) Q) := t_getr k_182_48
theorem k_182_51 : lk 182 51 = some (.iload_n 3, 52, 3, 0, .null) := by decide +kernel
theorem x_182_51 : Tr sc d 182 (51, [l0, l1, l2, some (.int x), l4, l5, l6, l7], [.ref k0], h) Q = Tr sc d 182 (52, [l0, l1, l2, some (.int x), l4, l5, l6, l7], [.int x, .ref k0], h) Q := t_iload_n k_182_51 rfl
theorem k_182_52 : lk 182 52 = some (.iaload, 53, 0, 0, .null) := by decide +kernel
theorem x_182_52 : Tr sc d 182 (52, [l0, l1, l2, l3, l4, l5, l6, l7], [.int i1, .ref k0], h) Q = (iOk sc h k0 i1 ∧ Tr sc d 182 (53, [l0, l1, l2, l3, l4, l5, l6, l7], [.int (iRd sc h k0 i1)], h) Q) := t_iald k_182_52
theorem k_182_53 : lk 182 53 = some (.aload_n 0, 54, 0, 0, .null) := by decide +kernel
theorem x_182_53 : Tr sc d 182 (53, [some (.ref xk), l1, l2, l3, l4, l5, l6, l7], [.int i0], h) Q = Tr sc d 182 (54, [some (.ref xk), l1, l2, l3, l4, l5, l6, l7], [.ref xk, .int i0], h) Q := t_aload_n k_182_53 rfl
theorem k_182_54 : lk 182 54 = some (.getfield 41, 57, 10, 18, .null) := by decide +kernel
theorem x_182_54 : Tr sc d 182 (54, [l0, l1, l2, l3, l4, l5, l6, l7], [.ref k1, .int i0], h) Q = (okp h k1 10 = true ∧ ∃ q, hR h k1 18 = some q ∧ Tr sc d 182 (57, [l0, l1, l2, l3, l4, l5, l6, l7], [.ref q, .int i0], h) Q) := t_getr k_182_54
theorem k_182_57 : lk 182 57 = some (.iload_n 2, 58, 2, 0, .null) := by decide +kernel
theorem x_182_57 : Tr sc d 182 (57, [l0, l1, some (.int x), l3, l4, l5, l6, l7], [.ref k1, .int i0], h) Q = Tr sc d 182 (58, [l0, l1, some (.int x), l3, l4, l5, l6, l7], [.int x, .ref k1, .int i0], h) Q := t_iload_n k_182_57 rfl
theorem k_182_58 : lk 182 58 = some (.iaload, 59, 0, 0, .null) := by decide +kernel
theorem x_182_58 : Tr sc d 182 (58, [l0, l1, l2, l3, l4, l5, l6, l7], [.int i2, .ref k1, .int i0], h) Q = (iOk sc h k1 i2 ∧ Tr sc d 182 (59, [l0, l1, l2, l3, l4, l5, l6, l7], [.int (iRd sc h k1 i2), .int i0], h) Q) := t_iald k_182_58
theorem k_182_59 : lk 182 59 = some (.if_icmp .eq 9, 62, 68, 0, .null) := by decide +kernel
theorem x_182_59 : Tr sc d 182 (59, [l0, l1, l2, l3, l4, l5, l6, l7], [.int i1, .int i0], h) Q = if i0 = i1 then Tr sc d 182 (68, [l0, l1, l2, l3, l4, l5, l6, l7], [], h) Q else Tr sc d 182 (62, [l0, l1, l2, l3, l4, l5, l6, l7], [], h) Q := t_if k_182_59 rfl
theorem k_182_62 : lk 182 62 = some (.aload_n 0, 63, 0, 0, .null) := by decide +kernel
theorem x_182_62 : Tr sc d 182 (62, [some (.ref xk), l1, l2, l3, l4, l5, l6, l7], [], h) Q = Tr sc d 182 (63, [some (.ref xk), l1, l2, l3, l4, l5, l6, l7], [.ref xk], h) Q := t_aload_n k_182_62 rfl
theorem k_182_63 : lk 182 63 = some (.iconst 5, 64, 0, 0, .int 5) := by decide +kernel
theorem x_182_63 : Tr sc d 182 (63, [l0, l1, l2, l3, l4, l5, l6, l7], [.ref k0], h) Q = Tr sc d 182 (64, [l0, l1, l2, l3, l4, l5, l6, l7], [.int 5, .ref k0], h) Q := t_go k_182_63 rfl
theorem k_182_64 : lk 182 64 = some (.invokevirtual 152, 67, 157, 1, .null) := by decide +kernel
theorem x_182_64 : Tr sc (d + 1) 182 (64, [l0, l1, l2, l3, l4, l5, l6, l7], [.int i1, .ref k0], h) Q = (okp h k0 10 = true ∧ Tr sc d 157 (ent0 157 [.ref k0, .int i1] h) (fun z => Tr sc (d + 1) 182 (67, [l0, l1, l2, l3, l4, l5, l6, l7], z.1.toList ++ [], z.2) Q)) := t_cv (as := [.int i1]) (r := []) k_182_64 rfl rfl (Nat.le_of_ble_eq_true rfl) (Nat.le_of_ble_eq_true rfl) (Nat.le_of_ble_eq_true rfl)
theorem k_182_67 : lk 182 67 = some (.ireturn, 68, 0, 0, .null) := by decide +kernel
theorem x_182_67 : Tr sc d 182 (67, [l0, l1, l2, l3, l4, l5, l6, l7], [.int i0], h) Q = Q (some (.int i0), h) := t_ret k_182_67 (by rw [r_182]; rfl)
theorem k_182_68 : lk 182 68 = some (.iconst 1, 69, 0, 0, .int 1) := by decide +kernel
theorem x_182_68 : Tr sc d 182 (68, [l0, l1, l2, l3, l4, l5, l6, l7], [], h) Q = Tr sc d 182 (69, [l0, l1, l2, l3, l4, l5, l6, l7], [.int 1], h) Q := t_go k_182_68 rfl
theorem k_182_69 : lk 182 69 = some (.istore 6, 71, 6, 0, .null) := by decide +kernel
theorem x_182_69 : Tr sc d 182 (69, [l0, l1, l2, l3, l4, l5, l6, l7], [.int i0], h) Q = Tr sc d 182 (71, [l0, l1, l2, l3, l4, cl2 l5, some (.int i0), l7], [], h) Q := t_istore k_182_69 (Nat.le_of_ble_eq_true rfl)
theorem k_182_71 : lk 182 71 = some (.iconst 0, 72, 0, 0, .int 0) := by decide +kernel
theorem x_182_71 : Tr sc d 182 (71, [l0, l1, l2, l3, l4, l5, l6, l7], [], h) Q = Tr sc d 182 (72, [l0, l1, l2, l3, l4, l5, l6, l7], [.int 0], h) Q := t_go k_182_71 rfl
theorem k_182_72 : lk 182 72 = some (.istore 7, 74, 7, 0, .null) := by decide +kernel
theorem x_182_72 : Tr sc d 182 (72, [l0, l1, l2, l3, l4, l5, l6, l7], [.int i0], h) Q = Tr sc d 182 (74, [l0, l1, l2, l3, l4, l5, cl2 l6, some (.int i0)], [], h) Q := t_istore k_182_72 (Nat.le_of_ble_eq_true rfl)
theorem k_182_74 : lk 182 74 = some (.iload 7, 76, 7, 0, .null) := by decide +kernel
theorem x_182_74 : Tr sc d 182 (74, [l0, l1, l2, l3, l4, l5, l6, some (.int x)], [], h) Q = Tr sc d 182 (76, [l0, l1, l2, l3, l4, l5, l6, some (.int x)], [.int x], h) Q := t_iload k_182_74 rfl
theorem k_182_76 : lk 182 76 = some (.aload_n 0, 77, 0, 0, .null) := by decide +kernel
theorem x_182_76 : Tr sc d 182 (76, [some (.ref xk), l1, l2, l3, l4, l5, l6, l7], [.int i0], h) Q = Tr sc d 182 (77, [some (.ref xk), l1, l2, l3, l4, l5, l6, l7], [.ref xk, .int i0], h) Q := t_aload_n k_182_76 rfl
theorem k_182_77 : lk 182 77 = some (.getfield 41, 80, 10, 18, .null) := by decide +kernel
theorem x_182_77 : Tr sc d 182 (77, [l0, l1, l2, l3, l4, l5, l6, l7], [.ref k1, .int i0], h) Q = (okp h k1 10 = true ∧ ∃ q, hR h k1 18 = some q ∧ Tr sc d 182 (80, [l0, l1, l2, l3, l4, l5, l6, l7], [.ref q, .int i0], h) Q) := t_getr k_182_77
theorem k_182_80 : lk 182 80 = some (.iload_n 2, 81, 2, 0, .null) := by decide +kernel
theorem x_182_80 : Tr sc d 182 (80, [l0, l1, some (.int x), l3, l4, l5, l6, l7], [.ref k1, .int i0], h) Q = Tr sc d 182 (81, [l0, l1, some (.int x), l3, l4, l5, l6, l7], [.int x, .ref k1, .int i0], h) Q := t_iload_n k_182_80 rfl
theorem k_182_81 : lk 182 81 = some (.iaload, 82, 0, 0, .null) := by decide +kernel
theorem x_182_81 : Tr sc d 182 (81, [l0, l1, l2, l3, l4, l5, l6, l7], [.int i2, .ref k1, .int i0], h) Q = (iOk sc h k1 i2 ∧ Tr sc d 182 (82, [l0, l1, l2, l3, l4, l5, l6, l7], [.int (iRd sc h k1 i2), .int i0], h) Q) := t_iald k_182_81
theorem k_182_82 : lk 182 82 = some (.if_icmp .ge 61, 85, 143, 0, .null) := by decide +kernel
theorem x_182_82 : Tr sc d 182 (82, [l0, l1, l2, l3, l4, l5, l6, l7], [.int i1, .int i0], h) Q = if i1 ≤ i0 then Tr sc d 182 (143, [l0, l1, l2, l3, l4, l5, l6, l7], [], h) Q else Tr sc d 182 (85, [l0, l1, l2, l3, l4, l5, l6, l7], [], h) Q := t_if k_182_82 rfl
theorem k_182_85 : lk 182 85 = some (.iload 6, 87, 6, 0, .null) := by decide +kernel
theorem x_182_85 : Tr sc d 182 (85, [l0, l1, l2, l3, l4, l5, some (.int x), l7], [], h) Q = Tr sc d 182 (87, [l0, l1, l2, l3, l4, l5, some (.int x), l7], [.int x], h) Q := t_iload k_182_85 rfl
theorem k_182_87 : lk 182 87 = some (.ifCond .eq 47, 90, 134, 0, .null) := by decide +kernel
theorem x_182_87 : Tr sc d 182 (87, [l0, l1, l2, l3, l4, l5, l6, l7], [.int i0], h) Q = if i0 = 0 then Tr sc d 182 (134, [l0, l1, l2, l3, l4, l5, l6, l7], [], h) Q else Tr sc d 182 (90, [l0, l1, l2, l3, l4, l5, l6, l7], [], h) Q := t_if k_182_87 rfl
theorem k_182_90 : lk 182 90 = some (.aload_n 0, 91, 0, 0, .null) := by decide +kernel
theorem x_182_90 : Tr sc d 182 (90, [some (.ref xk), l1, l2, l3, l4, l5, l6, l7], [], h) Q = Tr sc d 182 (91, [some (.ref xk), l1, l2, l3, l4, l5, l6, l7], [.ref xk], h) Q := t_aload_n k_182_90 rfl
theorem k_182_91 : lk 182 91 = some (.getfield 20, 94, 10, 7, .null) := by decide +kernel
theorem x_182_91 : Tr sc d 182 (91, [l0, l1, l2, l3, l4, l5, l6, l7], [.ref k0], h) Q = (okp h k0 10 = true ∧ ∃ q, hR h k0 7 = some q ∧ Tr sc d 182 (94, [l0, l1, l2, l3, l4, l5, l6, l7], [.ref q], h) Q) := t_getr k_182_91
theorem k_182_94 : lk 182 94 = some (.bipush 40, 96, 0, 0, .int 40) := by decide +kernel
theorem x_182_94 : Tr sc d 182 (94, [l0, l1, l2, l3, l4, l5, l6, l7], [.ref k0], h) Q = Tr sc d 182 (96, [l0, l1, l2, l3, l4, l5, l6, l7], [.int 40, .ref k0], h) Q := t_go k_182_94 rfl
theorem k_182_96 : lk 182 96 = some (.iload_n 3, 97, 3, 0, .null) := by decide +kernel
theorem x_182_96 : Tr sc d 182 (96, [l0, l1, l2, some (.int x), l4, l5, l6, l7], [.int i1, .ref k0], h) Q = Tr sc d 182 (97, [l0, l1, l2, some (.int x), l4, l5, l6, l7], [.int x, .int i1, .ref k0], h) Q := t_iload_n k_182_96 rfl
theorem k_182_97 : lk 182 97 = some (.imul, 98, 0, 0, .null) := by decide +kernel
theorem x_182_97 : Tr sc d 182 (97, [l0, l1, l2, l3, l4, l5, l6, l7], [.int i2, .int i1, .ref k0], h) Q = Tr sc d 182 (98, [l0, l1, l2, l3, l4, l5, l6, l7], [.int (i1 * i2), .ref k0], h) Q := t_go k_182_97 rfl
theorem k_182_98 : lk 182 98 = some (.iload 7, 100, 7, 0, .null) := by decide +kernel
theorem x_182_98 : Tr sc d 182 (98, [l0, l1, l2, l3, l4, l5, l6, some (.int x)], [.int i1, .ref k0], h) Q = Tr sc d 182 (100, [l0, l1, l2, l3, l4, l5, l6, some (.int x)], [.int x, .int i1, .ref k0], h) Q := t_iload k_182_98 rfl
theorem k_182_100 : lk 182 100 = some (.iadd, 101, 0, 0, .null) := by decide +kernel
theorem x_182_100 : Tr sc d 182 (100, [l0, l1, l2, l3, l4, l5, l6, l7], [.int i2, .int i1, .ref k0], h) Q = Tr sc d 182 (101, [l0, l1, l2, l3, l4, l5, l6, l7], [.int (i1 + i2), .ref k0], h) Q := t_go k_182_100 rfl
theorem k_182_101 : lk 182 101 = some (.iaload, 102, 0, 0, .null) := by decide +kernel
theorem x_182_101 : Tr sc d 182 (101, [l0, l1, l2, l3, l4, l5, l6, l7], [.int i1, .ref k0], h) Q = (iOk sc h k0 i1 ∧ Tr sc d 182 (102, [l0, l1, l2, l3, l4, l5, l6, l7], [.int (iRd sc h k0 i1)], h) Q) := t_iald k_182_101
theorem k_182_102 : lk 182 102 = some (.iload 4, 104, 4, 0, .null) := by decide +kernel
theorem x_182_102 : Tr sc d 182 (102, [l0, l1, l2, l3, some (.int x), l5, l6, l7], [.int i0], h) Q = Tr sc d 182 (104, [l0, l1, l2, l3, some (.int x), l5, l6, l7], [.int x, .int i0], h) Q := t_iload k_182_102 rfl
theorem k_182_104 : lk 182 104 = some (.iload 5, 106, 5, 0, .null) := by decide +kernel
theorem x_182_104 : Tr sc d 182 (104, [l0, l1, l2, l3, l4, some (.int x), l6, l7], [.int i1, .int i0], h) Q = Tr sc d 182 (106, [l0, l1, l2, l3, l4, some (.int x), l6, l7], [.int x, .int i1, .int i0], h) Q := t_iload k_182_104 rfl
theorem k_182_106 : lk 182 106 = some (.ifCond .ge 16, 109, 122, 0, .null) := by decide +kernel
theorem x_182_106 : Tr sc d 182 (106, [l0, l1, l2, l3, l4, l5, l6, l7], [.int i2, .int i1, .int i0], h) Q = if 0 ≤ i2 then Tr sc d 182 (122, [l0, l1, l2, l3, l4, l5, l6, l7], [.int i1, .int i0], h) Q else Tr sc d 182 (109, [l0, l1, l2, l3, l4, l5, l6, l7], [.int i1, .int i0], h) Q := t_if k_182_106 rfl
theorem k_182_109 : lk 182 109 = some (.iconst 1, 110, 0, 0, .int 1) := by decide +kernel
theorem x_182_109 : Tr sc d 182 (109, [l0, l1, l2, l3, l4, l5, l6, l7], [.int i1, .int i0], h) Q = Tr sc d 182 (110, [l0, l1, l2, l3, l4, l5, l6, l7], [.int 1, .int i1, .int i0], h) Q := t_go k_182_109 rfl
theorem k_182_110 : lk 182 110 = some (.aload_n 0, 111, 0, 0, .null) := by decide +kernel
theorem x_182_110 : Tr sc d 182 (110, [some (.ref xk), l1, l2, l3, l4, l5, l6, l7], [.int i2, .int i1, .int i0], h) Q = Tr sc d 182 (111, [some (.ref xk), l1, l2, l3, l4, l5, l6, l7], [.ref xk, .int i2, .int i1, .int i0], h) Q := t_aload_n k_182_110 rfl
theorem k_182_111 : lk 182 111 = some (.getfield 41, 114, 10, 18, .null) := by decide +kernel
theorem x_182_111 : Tr sc d 182 (111, [l0, l1, l2, l3, l4, l5, l6, l7], [.ref k3, .int i2, .int i1, .int i0], h) Q = (okp h k3 10 = true ∧ ∃ q, hR h k3 18 = some q ∧ Tr sc d 182 (114, [l0, l1, l2, l3, l4, l5, l6, l7], [.ref q, .int i2, .int i1, .int i0], h) Q) := t_getr k_182_111
theorem k_182_114 : lk 182 114 = some (.iload_n 2, 115, 2, 0, .null) := by decide +kernel
theorem x_182_114 : Tr sc d 182 (114, [l0, l1, some (.int x), l3, l4, l5, l6, l7], [.ref k3, .int i2, .int i1, .int i0], h) Q = Tr sc d 182 (115, [l0, l1, some (.int x), l3, l4, l5, l6, l7], [.int x, .ref k3, .int i2, .int i1, .int i0], h) Q := t_iload_n k_182_114 rfl
theorem k_182_115 : lk 182 115 = some (.iaload, 116, 0, 0, .null) := by decide +kernel
theorem x_182_115 : Tr sc d 182 (115, [l0, l1, l2, l3, l4, l5, l6, l7], [.int i4, .ref k3, .int i2, .int i1, .int i0], h) Q = (iOk sc h k3 i4 ∧ Tr sc d 182 (116, [l0, l1, l2, l3, l4, l5, l6, l7], [.int (iRd sc h k3 i4), .int i2, .int i1, .int i0], h) Q) := t_iald k_182_115
theorem k_182_116 : lk 182 116 = some (.ishl, 117, 0, 0, .null) := by decide +kernel
theorem x_182_116 : Tr sc d 182 (116, [l0, l1, l2, l3, l4, l5, l6, l7], [.int i3, .int i2, .int i1, .int i0], h) Q = Tr sc d 182 (117, [l0, l1, l2, l3, l4, l5, l6, l7], [.int (i2 <<< (i3 &&& 31)), .int i1, .int i0], h) Q := t_go k_182_116 rfl
theorem k_182_117 : lk 182 117 = some (.iconst 1, 118, 0, 0, .int 1) := by decide +kernel
theorem x_182_117 : Tr sc d 182 (117, [l0, l1, l2, l3, l4, l5, l6, l7], [.int i2, .int i1, .int i0], h) Q = Tr sc d 182 (118, [l0, l1, l2, l3, l4, l5, l6, l7], [.int 1, .int i2, .int i1, .int i0], h) Q := t_go k_182_117 rfl
theorem k_182_118 : lk 182 118 = some (.isub, 119, 0, 0, .null) := by decide +kernel
theorem x_182_118 : Tr sc d 182 (118, [l0, l1, l2, l3, l4, l5, l6, l7], [.int i3, .int i2, .int i1, .int i0], h) Q = Tr sc d 182 (119, [l0, l1, l2, l3, l4, l5, l6, l7], [.int (i2 - i3), .int i1, .int i0], h) Q := t_go k_182_118 rfl
theorem k_182_119 : lk 182 119 = some (.goto 5, 122, 124, 0, .null) := by decide +kernel
theorem x_182_119 : Tr sc d 182 (119, [l0, l1, l2, l3, l4, l5, l6, l7], [.int i2, .int i1, .int i0], h) Q = Tr sc d 182 (124, [l0, l1, l2, l3, l4, l5, l6, l7], [.int i2, .int i1, .int i0], h) Q := t_go k_182_119 rfl
theorem k_182_122 : lk 182 122 = some (.iload 5, 124, 5, 0, .null) := by decide +kernel
theorem x_182_122 : Tr sc d 182 (122, [l0, l1, l2, l3, l4, some (.int x), l6, l7], [.int i1, .int i0], h) Q = Tr sc d 182 (124, [l0, l1, l2, l3, l4, some (.int x), l6, l7], [.int x, .int i1, .int i0], h) Q := t_iload k_182_122 rfl
theorem k_182_124 : lk 182 124 = some (.invokestatic 144, 127, 156, 3, .null) := by decide +kernel
theorem x_182_124 : Tr sc (d + 1) 182 (124, [l0, l1, l2, l3, l4, l5, l6, l7], [.int i2, .int i1, .int i0], h) Q = Tr sc d 156 (ent0 156 [.int i0, .int i1, .int i2] h) (fun z => Tr sc (d + 1) 182 (127, [l0, l1, l2, l3, l4, l5, l6, l7], z.1.toList ++ [], z.2) Q) := t_cs (as := [.int i0, .int i1, .int i2]) (r := []) k_182_124 (by decide) rfl rfl (Nat.le_of_ble_eq_true rfl) (Nat.le_of_ble_eq_true rfl)
theorem k_182_127 : lk 182 127 = some (.ifCond .eq 7, 130, 134, 0, .null) := by decide +kernel
theorem x_182_127 : Tr sc d 182 (127, [l0, l1, l2, l3, l4, l5, l6, l7], [.int i0], h) Q = if i0 = 0 then Tr sc d 182 (134, [l0, l1, l2, l3, l4, l5, l6, l7], [], h) Q else Tr sc d 182 (130, [l0, l1, l2, l3, l4, l5, l6, l7], [], h) Q := t_if k_182_127 rfl
theorem k_182_130 : lk 182 130 = some (.iconst 1, 131, 0, 0, .int 1) := by decide +kernel
theorem x_182_130 : Tr sc d 182 (130, [l0, l1, l2, l3, l4, l5, l6, l7], [], h) Q = Tr sc d 182 (131, [l0, l1, l2, l3, l4, l5, l6, l7], [.int 1], h) Q := t_go k_182_130 rfl
theorem k_182_131 : lk 182 131 = some (.goto 4, 134, 135, 0, .null) := by decide +kernel
theorem x_182_131 : Tr sc d 182 (131, [l0, l1, l2, l3, l4, l5, l6, l7], [.int i0], h) Q = Tr sc d 182 (135, [l0, l1, l2, l3, l4, l5, l6, l7], [.int i0], h) Q := t_go k_182_131 rfl
theorem k_182_134 : lk 182 134 = some (.iconst 0, 135, 0, 0, .int 0) := by decide +kernel
theorem x_182_134 : Tr sc d 182 (134, [l0, l1, l2, l3, l4, l5, l6, l7], [], h) Q = Tr sc d 182 (135, [l0, l1, l2, l3, l4, l5, l6, l7], [.int 0], h) Q := t_go k_182_134 rfl
theorem k_182_135 : lk 182 135 = some (.istore 6, 137, 6, 0, .null) := by decide +kernel
theorem x_182_135 : Tr sc d 182 (135, [l0, l1, l2, l3, l4, l5, l6, l7], [.int i0], h) Q = Tr sc d 182 (137, [l0, l1, l2, l3, l4, cl2 l5, some (.int i0), l7], [], h) Q := t_istore k_182_135 (Nat.le_of_ble_eq_true rfl)
theorem k_182_137 : lk 182 137 = some (.iinc 7 1, 140, 7, 0, .int 1) := by decide +kernel
theorem x_182_137 : Tr sc d 182 (137, [l0, l1, l2, l3, l4, l5, l6, some (.int x)], [], h) Q = Tr sc d 182 (140, [l0, l1, l2, l3, l4, l5, cl2 l6, some (.int (x + 1))], [], h) Q := t_inc k_182_137 rfl (Nat.le_of_ble_eq_true rfl)
theorem k_182_140 : lk 182 140 = some (.goto (-66), 143, 74, 0, .null) := by decide +kernel
theorem x_182_140 : Tr sc d 182 (140, [l0, l1, l2, l3, l4, l5, l6, l7], [], h) Q = Tr sc d 182 (74, [l0, l1, l2, l3, l4, l5, l6, l7], [], h) Q := t_go k_182_140 rfl
theorem k_182_143 : lk 182 143 = some (.iload 6, 145, 6, 0, .null) := by decide +kernel
theorem x_182_143 : Tr sc d 182 (143, [l0, l1, l2, l3, l4, l5, some (.int x), l7], [], h) Q = Tr sc d 182 (145, [l0, l1, l2, l3, l4, l5, some (.int x), l7], [.int x], h) Q := t_iload k_182_143 rfl
theorem k_182_145 : lk 182 145 = some (.ifCond .eq 7, 148, 152, 0, .null) := by decide +kernel
theorem x_182_145 : Tr sc d 182 (145, [l0, l1, l2, l3, l4, l5, l6, l7], [.int i0], h) Q = if i0 = 0 then Tr sc d 182 (152, [l0, l1, l2, l3, l4, l5, l6, l7], [], h) Q else Tr sc d 182 (148, [l0, l1, l2, l3, l4, l5, l6, l7], [], h) Q := t_if k_182_145 rfl
theorem k_182_148 : lk 182 148 = some (.iconst 0, 149, 0, 0, .int 0) := by decide +kernel
theorem x_182_148 : Tr sc d 182 (148, [l0, l1, l2, l3, l4, l5, l6, l7], [], h) Q = Tr sc d 182 (149, [l0, l1, l2, l3, l4, l5, l6, l7], [.int 0], h) Q := t_go k_182_148 rfl
theorem k_182_149 : lk 182 149 = some (.goto 8, 152, 157, 0, .null) := by decide +kernel
theorem x_182_149 : Tr sc d 182 (149, [l0, l1, l2, l3, l4, l5, l6, l7], [.int i0], h) Q = Tr sc d 182 (157, [l0, l1, l2, l3, l4, l5, l6, l7], [.int i0], h) Q := t_go k_182_149 rfl
theorem k_182_152 : lk 182 152 = some (.aload_n 0, 153, 0, 0, .null) := by decide +kernel
theorem x_182_152 : Tr sc d 182 (152, [some (.ref xk), l1, l2, l3, l4, l5, l6, l7], [], h) Q = Tr sc d 182 (153, [some (.ref xk), l1, l2, l3, l4, l5, l6, l7], [.ref xk], h) Q := t_aload_n k_182_152 rfl
theorem k_182_153 : lk 182 153 = some (.iconst 3, 154, 0, 0, .int 3) := by decide +kernel
theorem x_182_153 : Tr sc d 182 (153, [l0, l1, l2, l3, l4, l5, l6, l7], [.ref k0], h) Q = Tr sc d 182 (154, [l0, l1, l2, l3, l4, l5, l6, l7], [.int 3, .ref k0], h) Q := t_go k_182_153 rfl
theorem k_182_154 : lk 182 154 = some (.invokevirtual 152, 157, 157, 1, .null) := by decide +kernel
theorem x_182_154 : Tr sc (d + 1) 182 (154, [l0, l1, l2, l3, l4, l5, l6, l7], [.int i1, .ref k0], h) Q = (okp h k0 10 = true ∧ Tr sc d 157 (ent0 157 [.ref k0, .int i1] h) (fun z => Tr sc (d + 1) 182 (157, [l0, l1, l2, l3, l4, l5, l6, l7], z.1.toList ++ [], z.2) Q)) := t_cv (as := [.int i1]) (r := []) k_182_154 rfl rfl (Nat.le_of_ble_eq_true rfl) (Nat.le_of_ble_eq_true rfl) (Nat.le_of_ble_eq_true rfl)
theorem k_182_157 : lk 182 157 = some (.ireturn, 158, 0, 0, .null) := by decide +kernel
theorem x_182_157 : Tr sc d 182 (157, [l0, l1, l2, l3, l4, l5, l6, l7], [.int i0], h) Q = Q (some (.int i0), h) := t_ret k_182_157 (by rw [r_182]; rfl)
theorem e_182 : Tr sc d 182 (ent0 182 [.ref k0, .int i1, .int i2, .int i3, .int i4, .int i5] h) Q = Tr sc d 182 (0, [some (.ref k0), some (.int i1), some (.int i2), some (.int i3), some (.int i4), some (.int i5), none, none], [], h) Q := by
  have e : mL 182 = 8 := by decide +kernel
  unfold ent0
  rw [e]
  rfl
theorem r_183 : mR 183 = none := by decide +kernel
theorem k_183_0 : lk 183 0 = some (.aload_n 0, 1, 0, 0, .null) := by decide +kernel
theorem x_183_0 : Tr sc d 183 (0, [some (.ref xk), l1, l2, l3, l4, l5], [], h) Q = Tr sc d 183 (1, [some (.ref xk), l1, l2, l3, l4, l5], [.ref xk], h) Q := t_aload_n k_183_0 rfl
theorem k_183_1 : lk 183 1 = some (.iload_n 1, 2, 1, 0, .null) := by decide +kernel
theorem x_183_1 : Tr sc d 183 (1, [l0, some (.int x), l2, l3, l4, l5], [.ref k0], h) Q = Tr sc d 183 (2, [l0, some (.int x), l2, l3, l4, l5], [.int x, .ref k0], h) Q := t_iload_n k_183_1 rfl
theorem k_183_2 : lk 183 2 = some (.iload_n 2, 3, 2, 0, .null) := by decide +kernel
theorem x_183_2 : Tr sc d 183 (2, [l0, l1, some (.int x), l3, l4, l5], [.int i1, .ref k0], h) Q = Tr sc d 183 (3, [l0, l1, some (.int x), l3, l4, l5], [.int x, .int i1, .ref k0], h) Q := t_iload_n k_183_2 rfl
theorem k_183_3 : lk 183 3 = some (.invokevirtual 199, 6, 181, 2, .null) := by decide +kernel
theorem x_183_3 : Tr sc (d + 1) 183 (3, [l0, l1, l2, l3, l4, l5], [.int i2, .int i1, .ref k0], h) Q = (okp h k0 10 = true ∧ Tr sc d 181 (ent0 181 [.ref k0, .int i1, .int i2] h) (fun z => Tr sc (d + 1) 183 (6, [l0, l1, l2, l3, l4, l5], z.1.toList ++ [], z.2) Q)) := t_cv (as := [.int i1, .int i2]) (r := []) k_183_3 rfl rfl (Nat.le_of_ble_eq_true rfl) (Nat.le_of_ble_eq_true rfl) (Nat.le_of_ble_eq_true rfl)
theorem k_183_6 : lk 183 6 = some (.iconst 0, 7, 0, 0, .int 0) := by decide +kernel
theorem x_183_6 : Tr sc d 183 (6, [l0, l1, l2, l3, l4, l5], [], h) Q = Tr sc d 183 (7, [l0, l1, l2, l3, l4, l5], [.int 0], h) Q := t_go k_183_6 rfl
theorem k_183_7 : lk 183 7 = some (.istore 5, 9, 5, 0, .null) := by decide +kernel
theorem x_183_7 : Tr sc d 183 (7, [l0, l1, l2, l3, l4, l5], [.int i0], h) Q = Tr sc d 183 (9, [l0, l1, l2, l3, cl2 l4, some (.int i0)], [], h) Q := t_istore k_183_7 (Nat.le_of_ble_eq_true rfl)
theorem k_183_9 : lk 183 9 = some (.iload 5, 11, 5, 0, .null) := by decide +kernel
theorem x_183_9 : Tr sc d 183 (9, [l0, l1, l2, l3, l4, some (.int x)], [], h) Q = Tr sc d 183 (11, [l0, l1, l2, l3, l4, some (.int x)], [.int x], h) Q := t_iload k_183_9 rfl
theorem k_183_11 : lk 183 11 = some (.aload_n 0, 12, 0, 0, .null) := by decide +kernel
theorem x_183_11 : Tr sc d 183 (11, [some (.ref xk), l1, l2, l3, l4, l5], [.int i0], h) Q = Tr sc d 183 (12, [some (.ref xk), l1, l2, l3, l4, l5], [.ref xk, .int i0], h) Q := t_aload_n k_183_11 rfl
theorem k_183_12 : lk 183 12 = some (.getfield 41, 15, 10, 18, .null) := by decide +kernel
theorem x_183_12 : Tr sc d 183 (12, [l0, l1, l2, l3, l4, l5], [.ref k1, .int i0], h) Q = (okp h k1 10 = true ∧ ∃ q, hR h k1 18 = some q ∧ Tr sc d 183 (15, [l0, l1, l2, l3, l4, l5], [.ref q, .int i0], h) Q) := t_getr k_183_12
theorem k_183_15 : lk 183 15 = some (.iload_n 1, 16, 1, 0, .null) := by decide +kernel
theorem x_183_15 : Tr sc d 183 (15, [l0, some (.int x), l2, l3, l4, l5], [.ref k1, .int i0], h) Q = Tr sc d 183 (16, [l0, some (.int x), l2, l3, l4, l5], [.int x, .ref k1, .int i0], h) Q := t_iload_n k_183_15 rfl
theorem k_183_16 : lk 183 16 = some (.iaload, 17, 0, 0, .null) := by decide +kernel
theorem x_183_16 : Tr sc d 183 (16, [l0, l1, l2, l3, l4, l5], [.int i2, .ref k1, .int i0], h) Q = (iOk sc h k1 i2 ∧ Tr sc d 183 (17, [l0, l1, l2, l3, l4, l5], [.int (iRd sc h k1 i2), .int i0], h) Q) := t_iald k_183_16
theorem k_183_17 : lk 183 17 = some (.if_icmp .ge 33, 20, 50, 0, .null) := by decide +kernel
theorem x_183_17 : Tr sc d 183 (17, [l0, l1, l2, l3, l4, l5], [.int i1, .int i0], h) Q = if i1 ≤ i0 then Tr sc d 183 (50, [l0, l1, l2, l3, l4, l5], [], h) Q else Tr sc d 183 (20, [l0, l1, l2, l3, l4, l5], [], h) Q := t_if k_183_17 rfl
theorem k_183_20 : lk 183 20 = some (.aload_n 0, 21, 0, 0, .null) := by decide +kernel
theorem x_183_20 : Tr sc d 183 (20, [some (.ref xk), l1, l2, l3, l4, l5], [], h) Q = Tr sc d 183 (21, [some (.ref xk), l1, l2, l3, l4, l5], [.ref xk], h) Q := t_aload_n k_183_20 rfl
theorem k_183_21 : lk 183 21 = some (.getfield 53, 24, 10, 22, .null) := by decide +kernel
theorem x_183_21 : Tr sc d 183 (21, [l0, l1, l2, l3, l4, l5], [.ref k0], h) Q = (okp h k0 10 = true ∧ ∃ q, hR h k0 22 = some q ∧ Tr sc d 183 (24, [l0, l1, l2, l3, l4, l5], [.ref q], h) Q) := t_getr k_183_21
theorem k_183_24 : lk 183 24 = some (.bipush 6, 26, 0, 0, .int 6) := by decide +kernel
theorem x_183_24 : Tr sc d 183 (24, [l0, l1, l2, l3, l4, l5], [.ref k0], h) Q = Tr sc d 183 (26, [l0, l1, l2, l3, l4, l5], [.int 6, .ref k0], h) Q := t_go k_183_24 rfl
theorem k_183_26 : lk 183 26 = some (.iload_n 1, 27, 1, 0, .null) := by decide +kernel
theorem x_183_26 : Tr sc d 183 (26, [l0, some (.int x), l2, l3, l4, l5], [.int i1, .ref k0], h) Q = Tr sc d 183 (27, [l0, some (.int x), l2, l3, l4, l5], [.int x, .int i1, .ref k0], h) Q := t_iload_n k_183_26 rfl
theorem k_183_27 : lk 183 27 = some (.imul, 28, 0, 0, .null) := by decide +kernel
theorem x_183_27 : Tr sc d 183 (27, [l0, l1, l2, l3, l4, l5], [.int i2, .int i1, .ref k0], h) Q = Tr sc d 183 (28, [l0, l1, l2, l3, l4, l5], [.int (i1 * i2), .ref k0], h) Q := t_go k_183_27 rfl
theorem k_183_28 : lk 183 28 = some (.iload 5, 30, 5, 0, .null) := by decide +kernel
theorem x_183_28 : Tr sc d 183 (28, [l0, l1, l2, l3, l4, some (.int x)], [.int i1, .ref k0], h) Q = Tr sc d 183 (30, [l0, l1, l2, l3, l4, some (.int x)], [.int x, .int i1, .ref k0], h) Q := t_iload k_183_28 rfl
theorem k_183_30 : lk 183 30 = some (.iadd, 31, 0, 0, .null) := by decide +kernel
theorem x_183_30 : Tr sc d 183 (30, [l0, l1, l2, l3, l4, l5], [.int i2, .int i1, .ref k0], h) Q = Tr sc d 183 (31, [l0, l1, l2, l3, l4, l5], [.int (i1 + i2), .ref k0], h) Q := t_go k_183_30 rfl
theorem k_183_31 : lk 183 31 = some (.aload_n 0, 32, 0, 0, .null) := by decide +kernel
theorem x_183_31 : Tr sc d 183 (31, [some (.ref xk), l1, l2, l3, l4, l5], [.int i1, .ref k0], h) Q = Tr sc d 183 (32, [some (.ref xk), l1, l2, l3, l4, l5], [.ref xk, .int i1, .ref k0], h) Q := t_aload_n k_183_31 rfl
theorem k_183_32 : lk 183 32 = some (.getfield 20, 35, 10, 7, .null) := by decide +kernel
theorem x_183_32 : Tr sc d 183 (32, [l0, l1, l2, l3, l4, l5], [.ref k2, .int i1, .ref k0], h) Q = (okp h k2 10 = true ∧ ∃ q, hR h k2 7 = some q ∧ Tr sc d 183 (35, [l0, l1, l2, l3, l4, l5], [.ref q, .int i1, .ref k0], h) Q) := t_getr k_183_32
theorem k_183_35 : lk 183 35 = some (.bipush 40, 37, 0, 0, .int 40) := by decide +kernel
theorem x_183_35 : Tr sc d 183 (35, [l0, l1, l2, l3, l4, l5], [.ref k2, .int i1, .ref k0], h) Q = Tr sc d 183 (37, [l0, l1, l2, l3, l4, l5], [.int 40, .ref k2, .int i1, .ref k0], h) Q := t_go k_183_35 rfl
theorem k_183_37 : lk 183 37 = some (.iload_n 3, 38, 3, 0, .null) := by decide +kernel
theorem x_183_37 : Tr sc d 183 (37, [l0, l1, l2, some (.int x), l4, l5], [.int i3, .ref k2, .int i1, .ref k0], h) Q = Tr sc d 183 (38, [l0, l1, l2, some (.int x), l4, l5], [.int x, .int i3, .ref k2, .int i1, .ref k0], h) Q := t_iload_n k_183_37 rfl
theorem k_183_38 : lk 183 38 = some (.imul, 39, 0, 0, .null) := by decide +kernel
theorem x_183_38 : Tr sc d 183 (38, [l0, l1, l2, l3, l4, l5], [.int i4, .int i3, .ref k2, .int i1, .ref k0], h) Q = Tr sc d 183 (39, [l0, l1, l2, l3, l4, l5], [.int (i3 * i4), .ref k2, .int i1, .ref k0], h) Q := t_go k_183_38 rfl
theorem k_183_39 : lk 183 39 = some (.iload 5, 41, 5, 0, .null) := by decide +kernel
theorem x_183_39 : Tr sc d 183 (39, [l0, l1, l2, l3, l4, some (.int x)], [.int i3, .ref k2, .int i1, .ref k0], h) Q = Tr sc d 183 (41, [l0, l1, l2, l3, l4, some (.int x)], [.int x, .int i3, .ref k2, .int i1, .ref k0], h) Q := t_iload k_183_39 rfl
theorem k_183_41 : lk 183 41 = some (.iadd, 42, 0, 0, .null) := by decide +kernel
theorem x_183_41 : Tr sc d 183 (41, [l0, l1, l2, l3, l4, l5], [.int i4, .int i3, .ref k2, .int i1, .ref k0], h) Q = Tr sc d 183 (42, [l0, l1, l2, l3, l4, l5], [.int (i3 + i4), .ref k2, .int i1, .ref k0], h) Q := t_go k_183_41 rfl
theorem k_183_42 : lk 183 42 = some (.iaload, 43, 0, 0, .null) := by decide +kernel
theorem x_183_42 : Tr sc d 183 (42, [l0, l1, l2, l3, l4, l5], [.int i3, .ref k2, .int i1, .ref k0], h) Q = (iOk sc h k2 i3 ∧ Tr sc d 183 (43, [l0, l1, l2, l3, l4, l5], [.int (iRd sc h k2 i3), .int i1, .ref k0], h) Q) := t_iald k_183_42
theorem k_183_43 : lk 183 43 = some (.iastore, 44, 0, 0, .null) := by decide +kernel
theorem x_183_43 : Tr sc d 183 (43, [l0, l1, l2, l3, l4, l5], [.int i2, .int i1, .ref k0], h) Q = ((okp h k0 11 && inb i1 (LN k0)) = true ∧ Tr sc d 183 (44, [l0, l1, l2, l3, l4, l5], [], (sI h k0 i1.toNatClampNeg i2)) Q) := t_gd k_183_43 rfl
theorem k_183_44 : lk 183 44 = some (.iinc 5 1, 47, 5, 0, .int 1) := by decide +kernel
theorem x_183_44 : Tr sc d 183 (44, [l0, l1, l2, l3, l4, some (.int x)], [], h) Q = Tr sc d 183 (47, [l0, l1, l2, l3, cl2 l4, some (.int (x + 1))], [], h) Q := t_inc k_183_44 rfl (Nat.le_of_ble_eq_true rfl)
theorem k_183_47 : lk 183 47 = some (.goto (-38), 50, 9, 0, .null) := by decide +kernel
theorem x_183_47 : Tr sc d 183 (47, [l0, l1, l2, l3, l4, l5], [], h) Q = Tr sc d 183 (9, [l0, l1, l2, l3, l4, l5], [], h) Q := t_go k_183_47 rfl
theorem k_183_50 : lk 183 50 = some (.aload_n 0, 51, 0, 0, .null) := by decide +kernel
theorem x_183_50 : Tr sc d 183 (50, [some (.ref xk), l1, l2, l3, l4, l5], [], h) Q = Tr sc d 183 (51, [some (.ref xk), l1, l2, l3, l4, l5], [.ref xk], h) Q := t_aload_n k_183_50 rfl
theorem k_183_51 : lk 183 51 = some (.getfield 35, 54, 10, 16, .null) := by decide +kernel
theorem x_183_51 : Tr sc d 183 (51, [l0, l1, l2, l3, l4, l5], [.ref k0], h) Q = (okp h k0 10 = true ∧ ∃ q, hR h k0 16 = some q ∧ Tr sc d 183 (54, [l0, l1, l2, l3, l4, l5], [.ref q], h) Q) := t_getr k_183_51
theorem k_183_54 : lk 183 54 = some (.iload_n 1, 55, 1, 0, .null) := by decide +kernel
theorem x_183_54 : Tr sc d 183 (54, [l0, some (.int x), l2, l3, l4, l5], [.ref k0], h) Q = Tr sc d 183 (55, [l0, some (.int x), l2, l3, l4, l5], [.int x, .ref k0], h) Q := t_iload_n k_183_54 rfl
theorem k_183_55 : lk 183 55 = some (.iload 4, 57, 4, 0, .null) := by decide +kernel
theorem x_183_55 : Tr sc d 183 (55, [l0, l1, l2, l3, some (.int x), l5], [.int i1, .ref k0], h) Q = Tr sc d 183 (57, [l0, l1, l2, l3, some (.int x), l5], [.int x, .int i1, .ref k0], h) Q := t_iload k_183_55 rfl
theorem k_183_57 : lk 183 57 = some (.iastore, 58, 0, 0, .null) := by decide +kernel
theorem x_183_57 : Tr sc d 183 (57, [l0, l1, l2, l3, l4, l5], [.int i2, .int i1, .ref k0], h) Q = ((okp h k0 11 && inb i1 (LN k0)) = true ∧ Tr sc d 183 (58, [l0, l1, l2, l3, l4, l5], [], (sI h k0 i1.toNatClampNeg i2)) Q) := t_gd k_183_57 rfl
theorem k_183_58 : lk 183 58 = some (.return_, 59, 0, 0, .null) := by decide +kernel
theorem x_183_58 : Tr sc d 183 (58, [l0, l1, l2, l3, l4, l5], [], h) Q = Q (none, h) := t_ret k_183_58 (by rw [r_183]; rfl)
theorem e_183 : Tr sc d 183 (ent0 183 [.ref k0, .int i1, .int i2, .int i3, .int i4] h) Q = Tr sc d 183 (0, [some (.ref k0), some (.int i1), some (.int i2), some (.int i3), some (.int i4), none], [], h) Q := by
  have e : mL 183 = 6 := by decide +kernel
  unfold ent0
  rw [e]
  rfl
theorem r_184 : mR 184 = some .int := by decide +kernel
theorem k_184_0 : lk 184 0 = some (.iconst 0, 1, 0, 0, .int 0) := by decide +kernel
theorem x_184_0 : Tr sc d 184 (0, [l0, l1, l2, l3], [], h) Q = Tr sc d 184 (1, [l0, l1, l2, l3], [.int 0], h) Q := t_go k_184_0 rfl
theorem k_184_1 : lk 184 1 = some (.istore_n 2, 2, 2, 0, .null) := by decide +kernel
theorem x_184_1 : Tr sc d 184 (1, [l0, l1, l2, l3], [.int i0], h) Q = Tr sc d 184 (2, [l0, cl2 l1, some (.int i0), l3], [], h) Q := t_istore_n k_184_1 (Nat.le_of_ble_eq_true rfl)
theorem k_184_2 : lk 184 2 = some (.iconst 0, 3, 0, 0, .int 0) := by decide +kernel
theorem x_184_2 : Tr sc d 184 (2, [l0, l1, l2, l3], [], h) Q = Tr sc d 184 (3, [l0, l1, l2, l3], [.int 0], h) Q := t_go k_184_2 rfl
theorem k_184_3 : lk 184 3 = some (.istore_n 3, 4, 3, 0, .null) := by decide +kernel
theorem x_184_3 : Tr sc d 184 (3, [l0, l1, l2, l3], [.int i0], h) Q = Tr sc d 184 (4, [l0, l1, cl2 l2, some (.int i0)], [], h) Q := t_istore_n k_184_3 (Nat.le_of_ble_eq_true rfl)
theorem k_184_4 : lk 184 4 = some (.iload_n 3, 5, 3, 0, .null) := by decide +kernel
theorem x_184_4 : Tr sc d 184 (4, [l0, l1, l2, some (.int x)], [], h) Q = Tr sc d 184 (5, [l0, l1, l2, some (.int x)], [.int x], h) Q := t_iload_n k_184_4 rfl
theorem k_184_5 : lk 184 5 = some (.aload_n 0, 6, 0, 0, .null) := by decide +kernel
theorem x_184_5 : Tr sc d 184 (5, [some (.ref xk), l1, l2, l3], [.int i0], h) Q = Tr sc d 184 (6, [some (.ref xk), l1, l2, l3], [.ref xk, .int i0], h) Q := t_aload_n k_184_5 rfl
theorem k_184_6 : lk 184 6 = some (.getfield 41, 9, 10, 18, .null) := by decide +kernel
theorem x_184_6 : Tr sc d 184 (6, [l0, l1, l2, l3], [.ref k1, .int i0], h) Q = (okp h k1 10 = true ∧ ∃ q, hR h k1 18 = some q ∧ Tr sc d 184 (9, [l0, l1, l2, l3], [.ref q, .int i0], h) Q) := t_getr k_184_6
theorem k_184_9 : lk 184 9 = some (.iload_n 1, 10, 1, 0, .null) := by decide +kernel
theorem x_184_9 : Tr sc d 184 (9, [l0, some (.int x), l2, l3], [.ref k1, .int i0], h) Q = Tr sc d 184 (10, [l0, some (.int x), l2, l3], [.int x, .ref k1, .int i0], h) Q := t_iload_n k_184_9 rfl
theorem k_184_10 : lk 184 10 = some (.iaload, 11, 0, 0, .null) := by decide +kernel
theorem x_184_10 : Tr sc d 184 (10, [l0, l1, l2, l3], [.int i2, .ref k1, .int i0], h) Q = (iOk sc h k1 i2 ∧ Tr sc d 184 (11, [l0, l1, l2, l3], [.int (iRd sc h k1 i2), .int i0], h) Q) := t_iald k_184_10
theorem k_184_11 : lk 184 11 = some (.if_icmp .ge 37, 14, 48, 0, .null) := by decide +kernel
theorem x_184_11 : Tr sc d 184 (11, [l0, l1, l2, l3], [.int i1, .int i0], h) Q = if i1 ≤ i0 then Tr sc d 184 (48, [l0, l1, l2, l3], [], h) Q else Tr sc d 184 (14, [l0, l1, l2, l3], [], h) Q := t_if k_184_11 rfl
theorem k_184_14 : lk 184 14 = some (.iload_n 2, 15, 2, 0, .null) := by decide +kernel
theorem x_184_14 : Tr sc d 184 (14, [l0, l1, some (.int x), l3], [], h) Q = Tr sc d 184 (15, [l0, l1, some (.int x), l3], [.int x], h) Q := t_iload_n k_184_14 rfl
theorem k_184_15 : lk 184 15 = some (.aload_n 0, 16, 0, 0, .null) := by decide +kernel
theorem x_184_15 : Tr sc d 184 (15, [some (.ref xk), l1, l2, l3], [.int i0], h) Q = Tr sc d 184 (16, [some (.ref xk), l1, l2, l3], [.ref xk, .int i0], h) Q := t_aload_n k_184_15 rfl
theorem k_184_16 : lk 184 16 = some (.getfield 35, 19, 10, 16, .null) := by decide +kernel
theorem x_184_16 : Tr sc d 184 (16, [l0, l1, l2, l3], [.ref k1, .int i0], h) Q = (okp h k1 10 = true ∧ ∃ q, hR h k1 16 = some q ∧ Tr sc d 184 (19, [l0, l1, l2, l3], [.ref q, .int i0], h) Q) := t_getr k_184_16
theorem k_184_19 : lk 184 19 = some (.iload_n 1, 20, 1, 0, .null) := by decide +kernel
theorem x_184_19 : Tr sc d 184 (19, [l0, some (.int x), l2, l3], [.ref k1, .int i0], h) Q = Tr sc d 184 (20, [l0, some (.int x), l2, l3], [.int x, .ref k1, .int i0], h) Q := t_iload_n k_184_19 rfl
theorem k_184_20 : lk 184 20 = some (.iaload, 21, 0, 0, .null) := by decide +kernel
theorem x_184_20 : Tr sc d 184 (20, [l0, l1, l2, l3], [.int i2, .ref k1, .int i0], h) Q = (iOk sc h k1 i2 ∧ Tr sc d 184 (21, [l0, l1, l2, l3], [.int (iRd sc h k1 i2), .int i0], h) Q) := t_iald k_184_20
theorem k_184_21 : lk 184 21 = some (.iconst 3, 22, 0, 0, .int 3) := by decide +kernel
theorem x_184_21 : Tr sc d 184 (21, [l0, l1, l2, l3], [.int i1, .int i0], h) Q = Tr sc d 184 (22, [l0, l1, l2, l3], [.int 3, .int i1, .int i0], h) Q := t_go k_184_21 rfl
theorem k_184_22 : lk 184 22 = some (.if_icmp .ne 17, 25, 39, 0, .null) := by decide +kernel
theorem x_184_22 : Tr sc d 184 (22, [l0, l1, l2, l3], [.int i2, .int i1, .int i0], h) Q = if i1 = i2 then Tr sc d 184 (25, [l0, l1, l2, l3], [.int i0], h) Q else Tr sc d 184 (39, [l0, l1, l2, l3], [.int i0], h) Q := t_if k_184_22 rfl
theorem k_184_25 : lk 184 25 = some (.aload_n 0, 26, 0, 0, .null) := by decide +kernel
theorem x_184_25 : Tr sc d 184 (25, [some (.ref xk), l1, l2, l3], [.int i0], h) Q = Tr sc d 184 (26, [some (.ref xk), l1, l2, l3], [.ref xk, .int i0], h) Q := t_aload_n k_184_25 rfl
theorem k_184_26 : lk 184 26 = some (.getfield 53, 29, 10, 22, .null) := by decide +kernel
theorem x_184_26 : Tr sc d 184 (26, [l0, l1, l2, l3], [.ref k1, .int i0], h) Q = (okp h k1 10 = true ∧ ∃ q, hR h k1 22 = some q ∧ Tr sc d 184 (29, [l0, l1, l2, l3], [.ref q, .int i0], h) Q) := t_getr k_184_26
theorem k_184_29 : lk 184 29 = some (.bipush 6, 31, 0, 0, .int 6) := by decide +kernel
theorem x_184_29 : Tr sc d 184 (29, [l0, l1, l2, l3], [.ref k1, .int i0], h) Q = Tr sc d 184 (31, [l0, l1, l2, l3], [.int 6, .ref k1, .int i0], h) Q := t_go k_184_29 rfl
theorem k_184_31 : lk 184 31 = some (.iload_n 1, 32, 1, 0, .null) := by decide +kernel
theorem x_184_31 : Tr sc d 184 (31, [l0, some (.int x), l2, l3], [.int i2, .ref k1, .int i0], h) Q = Tr sc d 184 (32, [l0, some (.int x), l2, l3], [.int x, .int i2, .ref k1, .int i0], h) Q := t_iload_n k_184_31 rfl
theorem k_184_32 : lk 184 32 = some (.imul, 33, 0, 0, .null) := by decide +kernel
theorem x_184_32 : Tr sc d 184 (32, [l0, l1, l2, l3], [.int i3, .int i2, .ref k1, .int i0], h) Q = Tr sc d 184 (33, [l0, l1, l2, l3], [.int (i2 * i3), .ref k1, .int i0], h) Q := t_go k_184_32 rfl
theorem k_184_33 : lk 184 33 = some (.iload_n 3, 34, 3, 0, .null) := by decide +kernel
theorem x_184_33 : Tr sc d 184 (33, [l0, l1, l2, some (.int x)], [.int i2, .ref k1, .int i0], h) Q = Tr sc d 184 (34, [l0, l1, l2, some (.int x)], [.int x, .int i2, .ref k1, .int i0], h) Q := t_iload_n k_184_33 rfl
theorem k_184_34 : lk 184 34 = some (.iadd, 35, 0, 0, .null) := by decide +kernel
theorem x_184_34 : Tr sc d 184 (34, [l0, l1, l2, l3], [.int i3, .int i2, .ref k1, .int i0], h) Q = Tr sc d 184 (35, [l0, l1, l2, l3], [.int (i2 + i3), .ref k1, .int i0], h) Q := t_go k_184_34 rfl
theorem k_184_35 : lk 184 35 = some (.iaload, 36, 0, 0, .null) := by decide +kernel
theorem x_184_35 : Tr sc d 184 (35, [l0, l1, l2, l3], [.int i2, .ref k1, .int i0], h) Q = (iOk sc h k1 i2 ∧ Tr sc d 184 (36, [l0, l1, l2, l3], [.int (iRd sc h k1 i2), .int i0], h) Q) := t_iald k_184_35
theorem k_184_36 : lk 184 36 = some (.goto 4, 39, 40, 0, .null) := by decide +kernel
theorem x_184_36 : Tr sc d 184 (36, [l0, l1, l2, l3], [.int i1, .int i0], h) Q = Tr sc d 184 (40, [l0, l1, l2, l3], [.int i1, .int i0], h) Q := t_go k_184_36 rfl
theorem k_184_39 : lk 184 39 = some (.iconst 1, 40, 0, 0, .int 1) := by decide +kernel
theorem x_184_39 : Tr sc d 184 (39, [l0, l1, l2, l3], [.int i0], h) Q = Tr sc d 184 (40, [l0, l1, l2, l3], [.int 1, .int i0], h) Q := t_go k_184_39 rfl
theorem k_184_40 : lk 184 40 = some (.iadd, 41, 0, 0, .null) := by decide +kernel
theorem x_184_40 : Tr sc d 184 (40, [l0, l1, l2, l3], [.int i1, .int i0], h) Q = Tr sc d 184 (41, [l0, l1, l2, l3], [.int (i0 + i1)], h) Q := t_go k_184_40 rfl
theorem k_184_41 : lk 184 41 = some (.istore_n 2, 42, 2, 0, .null) := by decide +kernel
theorem x_184_41 : Tr sc d 184 (41, [l0, l1, l2, l3], [.int i0], h) Q = Tr sc d 184 (42, [l0, cl2 l1, some (.int i0), l3], [], h) Q := t_istore_n k_184_41 (Nat.le_of_ble_eq_true rfl)
theorem k_184_42 : lk 184 42 = some (.iinc 3 1, 45, 3, 0, .int 1) := by decide +kernel
theorem x_184_42 : Tr sc d 184 (42, [l0, l1, l2, some (.int x)], [], h) Q = Tr sc d 184 (45, [l0, l1, cl2 l2, some (.int (x + 1))], [], h) Q := t_inc k_184_42 rfl (Nat.le_of_ble_eq_true rfl)
theorem k_184_45 : lk 184 45 = some (.goto (-41), 48, 4, 0, .null) := by decide +kernel
theorem x_184_45 : Tr sc d 184 (45, [l0, l1, l2, l3], [], h) Q = Tr sc d 184 (4, [l0, l1, l2, l3], [], h) Q := t_go k_184_45 rfl
theorem k_184_48 : lk 184 48 = some (.iload_n 2, 49, 2, 0, .null) := by decide +kernel
theorem x_184_48 : Tr sc d 184 (48, [l0, l1, some (.int x), l3], [], h) Q = Tr sc d 184 (49, [l0, l1, some (.int x), l3], [.int x], h) Q := t_iload_n k_184_48 rfl
theorem k_184_49 : lk 184 49 = some (.ireturn, 50, 0, 0, .null) := by decide +kernel
theorem x_184_49 : Tr sc d 184 (49, [l0, l1, l2, l3], [.int i0], h) Q = Q (some (.int i0), h) := t_ret k_184_49 (by rw [r_184]; rfl)
theorem e_184 : Tr sc d 184 (ent0 184 [.ref k0, .int i1] h) Q = Tr sc d 184 (0, [some (.ref k0), some (.int i1), none, none], [], h) Q := by
  have e : mL 184 = 4 := by decide +kernel
  unfold ent0
  rw [e]
  rfl
theorem r_185 : mR 185 = some .int := by decide +kernel
theorem k_185_0 : lk 185 0 = some (.iconst 0, 1, 0, 0, .int 0) := by decide +kernel
theorem x_185_0 : Tr sc d 185 (0, [l0, l1, l2, l3, l4], [], h) Q = Tr sc d 185 (1, [l0, l1, l2, l3, l4], [.int 0], h) Q := t_go k_185_0 rfl
theorem k_185_1 : lk 185 1 = some (.istore_n 2, 2, 2, 0, .null) := by decide +kernel
theorem x_185_1 : Tr sc d 185 (1, [l0, l1, l2, l3, l4], [.int i0], h) Q = Tr sc d 185 (2, [l0, cl2 l1, some (.int i0), l3, l4], [], h) Q := t_istore_n k_185_1 (Nat.le_of_ble_eq_true rfl)
theorem k_185_2 : lk 185 2 = some (.iconst 0, 3, 0, 0, .int 0) := by decide +kernel
theorem x_185_2 : Tr sc d 185 (2, [l0, l1, l2, l3, l4], [], h) Q = Tr sc d 185 (3, [l0, l1, l2, l3, l4], [.int 0], h) Q := t_go k_185_2 rfl
theorem k_185_3 : lk 185 3 = some (.istore_n 3, 4, 3, 0, .null) := by decide +kernel
theorem x_185_3 : Tr sc d 185 (3, [l0, l1, l2, l3, l4], [.int i0], h) Q = Tr sc d 185 (4, [l0, l1, cl2 l2, some (.int i0), l4], [], h) Q := t_istore_n k_185_3 (Nat.le_of_ble_eq_true rfl)
theorem k_185_4 : lk 185 4 = some (.iload_n 3, 5, 3, 0, .null) := by decide +kernel
theorem x_185_4 : Tr sc d 185 (4, [l0, l1, l2, some (.int x), l4], [], h) Q = Tr sc d 185 (5, [l0, l1, l2, some (.int x), l4], [.int x], h) Q := t_iload_n k_185_4 rfl
theorem k_185_5 : lk 185 5 = some (.aload_n 0, 6, 0, 0, .null) := by decide +kernel
theorem x_185_5 : Tr sc d 185 (5, [some (.ref xk), l1, l2, l3, l4], [.int i0], h) Q = Tr sc d 185 (6, [some (.ref xk), l1, l2, l3, l4], [.ref xk, .int i0], h) Q := t_aload_n k_185_5 rfl
theorem k_185_6 : lk 185 6 = some (.getfield 41, 9, 10, 18, .null) := by decide +kernel
theorem x_185_6 : Tr sc d 185 (6, [l0, l1, l2, l3, l4], [.ref k1, .int i0], h) Q = (okp h k1 10 = true ∧ ∃ q, hR h k1 18 = some q ∧ Tr sc d 185 (9, [l0, l1, l2, l3, l4], [.ref q, .int i0], h) Q) := t_getr k_185_6
theorem k_185_9 : lk 185 9 = some (.iload_n 1, 10, 1, 0, .null) := by decide +kernel
theorem x_185_9 : Tr sc d 185 (9, [l0, some (.int x), l2, l3, l4], [.ref k1, .int i0], h) Q = Tr sc d 185 (10, [l0, some (.int x), l2, l3, l4], [.int x, .ref k1, .int i0], h) Q := t_iload_n k_185_9 rfl
theorem k_185_10 : lk 185 10 = some (.iaload, 11, 0, 0, .null) := by decide +kernel
theorem x_185_10 : Tr sc d 185 (10, [l0, l1, l2, l3, l4], [.int i2, .ref k1, .int i0], h) Q = (iOk sc h k1 i2 ∧ Tr sc d 185 (11, [l0, l1, l2, l3, l4], [.int (iRd sc h k1 i2), .int i0], h) Q) := t_iald k_185_10
theorem k_185_11 : lk 185 11 = some (.if_icmp .ge 48, 14, 59, 0, .null) := by decide +kernel
theorem x_185_11 : Tr sc d 185 (11, [l0, l1, l2, l3, l4], [.int i1, .int i0], h) Q = if i1 ≤ i0 then Tr sc d 185 (59, [l0, l1, l2, l3, l4], [], h) Q else Tr sc d 185 (14, [l0, l1, l2, l3, l4], [], h) Q := t_if k_185_11 rfl
theorem k_185_14 : lk 185 14 = some (.iconst 0, 15, 0, 0, .int 0) := by decide +kernel
theorem x_185_14 : Tr sc d 185 (14, [l0, l1, l2, l3, l4], [], h) Q = Tr sc d 185 (15, [l0, l1, l2, l3, l4], [.int 0], h) Q := t_go k_185_14 rfl
theorem k_185_15 : lk 185 15 = some (.istore 4, 17, 4, 0, .null) := by decide +kernel
theorem x_185_15 : Tr sc d 185 (15, [l0, l1, l2, l3, l4], [.int i0], h) Q = Tr sc d 185 (17, [l0, l1, l2, cl2 l3, some (.int i0)], [], h) Q := t_istore k_185_15 (Nat.le_of_ble_eq_true rfl)
theorem k_185_17 : lk 185 17 = some (.iload 4, 19, 4, 0, .null) := by decide +kernel
theorem x_185_17 : Tr sc d 185 (17, [l0, l1, l2, l3, some (.int x)], [], h) Q = Tr sc d 185 (19, [l0, l1, l2, l3, some (.int x)], [.int x], h) Q := t_iload k_185_17 rfl
theorem k_185_19 : lk 185 19 = some (.aload_n 0, 20, 0, 0, .null) := by decide +kernel
theorem x_185_19 : Tr sc d 185 (19, [some (.ref xk), l1, l2, l3, l4], [.int i0], h) Q = Tr sc d 185 (20, [some (.ref xk), l1, l2, l3, l4], [.ref xk, .int i0], h) Q := t_aload_n k_185_19 rfl
theorem k_185_20 : lk 185 20 = some (.getfield 41, 23, 10, 18, .null) := by decide +kernel
theorem x_185_20 : Tr sc d 185 (20, [l0, l1, l2, l3, l4], [.ref k1, .int i0], h) Q = (okp h k1 10 = true ∧ ∃ q, hR h k1 18 = some q ∧ Tr sc d 185 (23, [l0, l1, l2, l3, l4], [.ref q, .int i0], h) Q) := t_getr k_185_20
theorem k_185_23 : lk 185 23 = some (.iload_n 1, 24, 1, 0, .null) := by decide +kernel
theorem x_185_23 : Tr sc d 185 (23, [l0, some (.int x), l2, l3, l4], [.ref k1, .int i0], h) Q = Tr sc d 185 (24, [l0, some (.int x), l2, l3, l4], [.int x, .ref k1, .int i0], h) Q := t_iload_n k_185_23 rfl
theorem k_185_24 : lk 185 24 = some (.iaload, 25, 0, 0, .null) := by decide +kernel
theorem x_185_24 : Tr sc d 185 (24, [l0, l1, l2, l3, l4], [.int i2, .ref k1, .int i0], h) Q = (iOk sc h k1 i2 ∧ Tr sc d 185 (25, [l0, l1, l2, l3, l4], [.int (iRd sc h k1 i2), .int i0], h) Q) := t_iald k_185_24
theorem k_185_25 : lk 185 25 = some (.if_icmp .ge 28, 28, 53, 0, .null) := by decide +kernel
theorem x_185_25 : Tr sc d 185 (25, [l0, l1, l2, l3, l4], [.int i1, .int i0], h) Q = if i1 ≤ i0 then Tr sc d 185 (53, [l0, l1, l2, l3, l4], [], h) Q else Tr sc d 185 (28, [l0, l1, l2, l3, l4], [], h) Q := t_if k_185_25 rfl
theorem k_185_28 : lk 185 28 = some (.iload_n 2, 29, 2, 0, .null) := by decide +kernel
theorem x_185_28 : Tr sc d 185 (28, [l0, l1, some (.int x), l3, l4], [], h) Q = Tr sc d 185 (29, [l0, l1, some (.int x), l3, l4], [.int x], h) Q := t_iload_n k_185_28 rfl
theorem k_185_29 : lk 185 29 = some (.aload_n 0, 30, 0, 0, .null) := by decide +kernel
theorem x_185_29 : Tr sc d 185 (29, [some (.ref xk), l1, l2, l3, l4], [.int i0], h) Q = Tr sc d 185 (30, [some (.ref xk), l1, l2, l3, l4], [.ref xk, .int i0], h) Q := t_aload_n k_185_29 rfl
theorem k_185_30 : lk 185 30 = some (.iload_n 1, 31, 1, 0, .null) := by decide +kernel
theorem x_185_30 : Tr sc d 185 (30, [l0, some (.int x), l2, l3, l4], [.ref k1, .int i0], h) Q = Tr sc d 185 (31, [l0, some (.int x), l2, l3, l4], [.int x, .ref k1, .int i0], h) Q := t_iload_n k_185_30 rfl
theorem k_185_31 : lk 185 31 = some (.iload_n 3, 32, 3, 0, .null) := by decide +kernel
theorem x_185_31 : Tr sc d 185 (31, [l0, l1, l2, some (.int x), l4], [.int i2, .ref k1, .int i0], h) Q = Tr sc d 185 (32, [l0, l1, l2, some (.int x), l4], [.int x, .int i2, .ref k1, .int i0], h) Q := t_iload_n k_185_31 rfl
theorem k_185_32 : lk 185 32 = some (.iload 4, 34, 4, 0, .null) := by decide +kernel
theorem x_185_32 : Tr sc d 185 (32, [l0, l1, l2, l3, some (.int x)], [.int i3, .int i2, .ref k1, .int i0], h) Q = Tr sc d 185 (34, [l0, l1, l2, l3, some (.int x)], [.int x, .int i3, .int i2, .ref k1, .int i0], h) Q := t_iload k_185_32 rfl
theorem k_185_34 : lk 185 34 = some (.invokevirtual 203, 37, 186, 3, .null) := by decide +kernel
theorem x_185_34 : Tr sc (d + 1) 185 (34, [l0, l1, l2, l3, l4], [.int i4, .int i3, .int i2, .ref k1, .int i0], h) Q = (okp h k1 10 = true ∧ Tr sc d 186 (ent0 186 [.ref k1, .int i2, .int i3, .int i4] h) (fun z => Tr sc (d + 1) 185 (37, [l0, l1, l2, l3, l4], z.1.toList ++ [.int i0], z.2) Q)) := t_cv (as := [.int i2, .int i3, .int i4]) (r := [.int i0]) k_185_34 rfl rfl (Nat.le_of_ble_eq_true rfl) (Nat.le_of_ble_eq_true rfl) (Nat.le_of_ble_eq_true rfl)
theorem k_185_37 : lk 185 37 = some (.ifCond .eq 7, 40, 44, 0, .null) := by decide +kernel
theorem x_185_37 : Tr sc d 185 (37, [l0, l1, l2, l3, l4], [.int i1, .int i0], h) Q = if i1 = 0 then Tr sc d 185 (44, [l0, l1, l2, l3, l4], [.int i0], h) Q else Tr sc d 185 (40, [l0, l1, l2, l3, l4], [.int i0], h) Q := t_if k_185_37 rfl
theorem k_185_40 : lk 185 40 = some (.iconst 1, 41, 0, 0, .int 1) := by decide +kernel
theorem x_185_40 : Tr sc d 185 (40, [l0, l1, l2, l3, l4], [.int i0], h) Q = Tr sc d 185 (41, [l0, l1, l2, l3, l4], [.int 1, .int i0], h) Q := t_go k_185_40 rfl
theorem k_185_41 : lk 185 41 = some (.goto 4, 44, 45, 0, .null) := by decide +kernel
theorem x_185_41 : Tr sc d 185 (41, [l0, l1, l2, l3, l4], [.int i1, .int i0], h) Q = Tr sc d 185 (45, [l0, l1, l2, l3, l4], [.int i1, .int i0], h) Q := t_go k_185_41 rfl
theorem k_185_44 : lk 185 44 = some (.iconst 0, 45, 0, 0, .int 0) := by decide +kernel
theorem x_185_44 : Tr sc d 185 (44, [l0, l1, l2, l3, l4], [.int i0], h) Q = Tr sc d 185 (45, [l0, l1, l2, l3, l4], [.int 0, .int i0], h) Q := t_go k_185_44 rfl
theorem k_185_45 : lk 185 45 = some (.iadd, 46, 0, 0, .null) := by decide +kernel
theorem x_185_45 : Tr sc d 185 (45, [l0, l1, l2, l3, l4], [.int i1, .int i0], h) Q = Tr sc d 185 (46, [l0, l1, l2, l3, l4], [.int (i0 + i1)], h) Q := t_go k_185_45 rfl
theorem k_185_46 : lk 185 46 = some (.istore_n 2, 47, 2, 0, .null) := by decide +kernel
theorem x_185_46 : Tr sc d 185 (46, [l0, l1, l2, l3, l4], [.int i0], h) Q = Tr sc d 185 (47, [l0, cl2 l1, some (.int i0), l3, l4], [], h) Q := t_istore_n k_185_46 (Nat.le_of_ble_eq_true rfl)
theorem k_185_47 : lk 185 47 = some (.iinc 4 1, 50, 4, 0, .int 1) := by decide +kernel
theorem x_185_47 : Tr sc d 185 (47, [l0, l1, l2, l3, some (.int x)], [], h) Q = Tr sc d 185 (50, [l0, l1, l2, cl2 l3, some (.int (x + 1))], [], h) Q := t_inc k_185_47 rfl (Nat.le_of_ble_eq_true rfl)
theorem k_185_50 : lk 185 50 = some (.goto (-33), 53, 17, 0, .null) := by decide +kernel
theorem x_185_50 : Tr sc d 185 (50, [l0, l1, l2, l3, l4], [], h) Q = Tr sc d 185 (17, [l0, l1, l2, l3, l4], [], h) Q := t_go k_185_50 rfl
theorem k_185_53 : lk 185 53 = some (.iinc 3 1, 56, 3, 0, .int 1) := by decide +kernel
theorem x_185_53 : Tr sc d 185 (53, [l0, l1, l2, some (.int x), l4], [], h) Q = Tr sc d 185 (56, [l0, l1, cl2 l2, some (.int (x + 1)), l4], [], h) Q := t_inc k_185_53 rfl (Nat.le_of_ble_eq_true rfl)
theorem k_185_56 : lk 185 56 = some (.goto (-52), 59, 4, 0, .null) := by decide +kernel
theorem x_185_56 : Tr sc d 185 (56, [l0, l1, l2, l3, l4], [], h) Q = Tr sc d 185 (4, [l0, l1, l2, l3, l4], [], h) Q := t_go k_185_56 rfl
theorem k_185_59 : lk 185 59 = some (.iload_n 2, 60, 2, 0, .null) := by decide +kernel
theorem x_185_59 : Tr sc d 185 (59, [l0, l1, some (.int x), l3, l4], [], h) Q = Tr sc d 185 (60, [l0, l1, some (.int x), l3, l4], [.int x], h) Q := t_iload_n k_185_59 rfl
theorem k_185_60 : lk 185 60 = some (.ireturn, 61, 0, 0, .null) := by decide +kernel
theorem x_185_60 : Tr sc d 185 (60, [l0, l1, l2, l3, l4], [.int i0], h) Q = Q (some (.int i0), h) := t_ret k_185_60 (by rw [r_185]; rfl)
theorem e_185 : Tr sc d 185 (ent0 185 [.ref k0, .int i1] h) Q = Tr sc d 185 (0, [some (.ref k0), some (.int i1), none, none, none], [], h) Q := by
  have e : mL 185 = 5 := by decide +kernel
  unfold ent0
  rw [e]
  rfl
theorem r_186 : mR 186 = some .boolean := by decide +kernel
theorem k_186_0 : lk 186 0 = some (.aload_n 0, 1, 0, 0, .null) := by decide +kernel
theorem x_186_0 : Tr sc d 186 (0, [some (.ref xk), l1, l2, l3], [], h) Q = Tr sc d 186 (1, [some (.ref xk), l1, l2, l3], [.ref xk], h) Q := t_aload_n k_186_0 rfl
theorem k_186_1 : lk 186 1 = some (.getfield 35, 4, 10, 16, .null) := by decide +kernel
theorem x_186_1 : Tr sc d 186 (1, [l0, l1, l2, l3], [.ref k0], h) Q = (okp h k0 10 = true ∧ ∃ q, hR h k0 16 = some q ∧ Tr sc d 186 (4, [l0, l1, l2, l3], [.ref q], h) Q) := t_getr k_186_1
theorem k_186_4 : lk 186 4 = some (.iload_n 1, 5, 1, 0, .null) := by decide +kernel
theorem x_186_4 : Tr sc d 186 (4, [l0, some (.int x), l2, l3], [.ref k0], h) Q = Tr sc d 186 (5, [l0, some (.int x), l2, l3], [.int x, .ref k0], h) Q := t_iload_n k_186_4 rfl
theorem k_186_5 : lk 186 5 = some (.iaload, 6, 0, 0, .null) := by decide +kernel
theorem x_186_5 : Tr sc d 186 (5, [l0, l1, l2, l3], [.int i1, .ref k0], h) Q = (iOk sc h k0 i1 ∧ Tr sc d 186 (6, [l0, l1, l2, l3], [.int (iRd sc h k0 i1)], h) Q) := t_iald k_186_5
theorem k_186_6 : lk 186 6 = some (.iconst 4, 7, 0, 0, .int 4) := by decide +kernel
theorem x_186_6 : Tr sc d 186 (6, [l0, l1, l2, l3], [.int i0], h) Q = Tr sc d 186 (7, [l0, l1, l2, l3], [.int 4, .int i0], h) Q := t_go k_186_6 rfl
theorem k_186_7 : lk 186 7 = some (.if_icmp .ne 26, 10, 33, 0, .null) := by decide +kernel
theorem x_186_7 : Tr sc d 186 (7, [l0, l1, l2, l3], [.int i1, .int i0], h) Q = if i0 = i1 then Tr sc d 186 (10, [l0, l1, l2, l3], [], h) Q else Tr sc d 186 (33, [l0, l1, l2, l3], [], h) Q := t_if k_186_7 rfl
theorem k_186_10 : lk 186 10 = some (.aload_n 0, 11, 0, 0, .null) := by decide +kernel
theorem x_186_10 : Tr sc d 186 (10, [some (.ref xk), l1, l2, l3], [], h) Q = Tr sc d 186 (11, [some (.ref xk), l1, l2, l3], [.ref xk], h) Q := t_aload_n k_186_10 rfl
theorem k_186_11 : lk 186 11 = some (.getfield 53, 14, 10, 22, .null) := by decide +kernel
theorem x_186_11 : Tr sc d 186 (11, [l0, l1, l2, l3], [.ref k0], h) Q = (okp h k0 10 = true ∧ ∃ q, hR h k0 22 = some q ∧ Tr sc d 186 (14, [l0, l1, l2, l3], [.ref q], h) Q) := t_getr k_186_11
theorem k_186_14 : lk 186 14 = some (.bipush 6, 16, 0, 0, .int 6) := by decide +kernel
theorem x_186_14 : Tr sc d 186 (14, [l0, l1, l2, l3], [.ref k0], h) Q = Tr sc d 186 (16, [l0, l1, l2, l3], [.int 6, .ref k0], h) Q := t_go k_186_14 rfl
theorem k_186_16 : lk 186 16 = some (.iload_n 1, 17, 1, 0, .null) := by decide +kernel
theorem x_186_16 : Tr sc d 186 (16, [l0, some (.int x), l2, l3], [.int i1, .ref k0], h) Q = Tr sc d 186 (17, [l0, some (.int x), l2, l3], [.int x, .int i1, .ref k0], h) Q := t_iload_n k_186_16 rfl
theorem k_186_17 : lk 186 17 = some (.imul, 18, 0, 0, .null) := by decide +kernel
theorem x_186_17 : Tr sc d 186 (17, [l0, l1, l2, l3], [.int i2, .int i1, .ref k0], h) Q = Tr sc d 186 (18, [l0, l1, l2, l3], [.int (i1 * i2), .ref k0], h) Q := t_go k_186_17 rfl
theorem k_186_18 : lk 186 18 = some (.iload_n 2, 19, 2, 0, .null) := by decide +kernel
theorem x_186_18 : Tr sc d 186 (18, [l0, l1, some (.int x), l3], [.int i1, .ref k0], h) Q = Tr sc d 186 (19, [l0, l1, some (.int x), l3], [.int x, .int i1, .ref k0], h) Q := t_iload_n k_186_18 rfl
theorem k_186_19 : lk 186 19 = some (.iadd, 20, 0, 0, .null) := by decide +kernel
theorem x_186_19 : Tr sc d 186 (19, [l0, l1, l2, l3], [.int i2, .int i1, .ref k0], h) Q = Tr sc d 186 (20, [l0, l1, l2, l3], [.int (i1 + i2), .ref k0], h) Q := t_go k_186_19 rfl
theorem k_186_20 : lk 186 20 = some (.iaload, 21, 0, 0, .null) := by decide +kernel
theorem x_186_20 : Tr sc d 186 (20, [l0, l1, l2, l3], [.int i1, .ref k0], h) Q = (iOk sc h k0 i1 ∧ Tr sc d 186 (21, [l0, l1, l2, l3], [.int (iRd sc h k0 i1)], h) Q) := t_iald k_186_20
theorem k_186_21 : lk 186 21 = some (.iload_n 3, 22, 3, 0, .null) := by decide +kernel
theorem x_186_21 : Tr sc d 186 (21, [l0, l1, l2, some (.int x)], [.int i0], h) Q = Tr sc d 186 (22, [l0, l1, l2, some (.int x)], [.int x, .int i0], h) Q := t_iload_n k_186_21 rfl
theorem k_186_22 : lk 186 22 = some (.ishr, 23, 0, 0, .null) := by decide +kernel
theorem x_186_22 : Tr sc d 186 (22, [l0, l1, l2, l3], [.int i1, .int i0], h) Q = Tr sc d 186 (23, [l0, l1, l2, l3], [.int (i0 >>> (i1 &&& 31))], h) Q := t_go k_186_22 rfl
theorem k_186_23 : lk 186 23 = some (.iconst 1, 24, 0, 0, .int 1) := by decide +kernel
theorem x_186_23 : Tr sc d 186 (23, [l0, l1, l2, l3], [.int i0], h) Q = Tr sc d 186 (24, [l0, l1, l2, l3], [.int 1, .int i0], h) Q := t_go k_186_23 rfl
theorem k_186_24 : lk 186 24 = some (.iand, 25, 0, 0, .null) := by decide +kernel
theorem x_186_24 : Tr sc d 186 (24, [l0, l1, l2, l3], [.int i1, .int i0], h) Q = Tr sc d 186 (25, [l0, l1, l2, l3], [.int (i0 &&& i1)], h) Q := t_go k_186_24 rfl
theorem k_186_25 : lk 186 25 = some (.iconst 1, 26, 0, 0, .int 1) := by decide +kernel
theorem x_186_25 : Tr sc d 186 (25, [l0, l1, l2, l3], [.int i0], h) Q = Tr sc d 186 (26, [l0, l1, l2, l3], [.int 1, .int i0], h) Q := t_go k_186_25 rfl
theorem k_186_26 : lk 186 26 = some (.if_icmp .ne 7, 29, 33, 0, .null) := by decide +kernel
theorem x_186_26 : Tr sc d 186 (26, [l0, l1, l2, l3], [.int i1, .int i0], h) Q = if i0 = i1 then Tr sc d 186 (29, [l0, l1, l2, l3], [], h) Q else Tr sc d 186 (33, [l0, l1, l2, l3], [], h) Q := t_if k_186_26 rfl
theorem k_186_29 : lk 186 29 = some (.iconst 1, 30, 0, 0, .int 1) := by decide +kernel
theorem x_186_29 : Tr sc d 186 (29, [l0, l1, l2, l3], [], h) Q = Tr sc d 186 (30, [l0, l1, l2, l3], [.int 1], h) Q := t_go k_186_29 rfl
theorem k_186_30 : lk 186 30 = some (.goto 4, 33, 34, 0, .null) := by decide +kernel
theorem x_186_30 : Tr sc d 186 (30, [l0, l1, l2, l3], [.int i0], h) Q = Tr sc d 186 (34, [l0, l1, l2, l3], [.int i0], h) Q := t_go k_186_30 rfl
theorem k_186_33 : lk 186 33 = some (.iconst 0, 34, 0, 0, .int 0) := by decide +kernel
theorem x_186_33 : Tr sc d 186 (33, [l0, l1, l2, l3], [], h) Q = Tr sc d 186 (34, [l0, l1, l2, l3], [.int 0], h) Q := t_go k_186_33 rfl
theorem k_186_34 : lk 186 34 = some (.ireturn, 35, 0, 0, .null) := by decide +kernel
theorem x_186_34 : Tr sc d 186 (34, [l0, l1, l2, l3], [.int i0], h) Q = (vp_nar .boolean i0 = i0 ∧ Q (some (.int i0), h)) := t_zret k_186_34 r_186
theorem e_186 : Tr sc d 186 (ent0 186 [.ref k0, .int i1, .int i2, .int i3] h) Q = Tr sc d 186 (0, [some (.ref k0), some (.int i1), some (.int i2), some (.int i3)], [], h) Q := by
  have e : mL 186 = 4 := by decide +kernel
  unfold ent0
  rw [e]
  rfl
theorem r_187 : mR 187 = some .int := by decide +kernel
theorem k_187_0 : lk 187 0 = some (.aload_n 0, 1, 0, 0, .null) := by decide +kernel
theorem x_187_0 : Tr sc d 187 (0, [some (.ref xk), l1, l2, l3, l4], [], h) Q = Tr sc d 187 (1, [some (.ref xk), l1, l2, l3, l4], [.ref xk], h) Q := t_aload_n k_187_0 rfl
theorem k_187_1 : lk 187 1 = some (.iload_n 1, 2, 1, 0, .null) := by decide +kernel
theorem x_187_1 : Tr sc d 187 (1, [l0, some (.int x), l2, l3, l4], [.ref k0], h) Q = Tr sc d 187 (2, [l0, some (.int x), l2, l3, l4], [.int x, .ref k0], h) Q := t_iload_n k_187_1 rfl
theorem k_187_2 : lk 187 2 = some (.iload_n 2, 3, 2, 0, .null) := by decide +kernel
theorem x_187_2 : Tr sc d 187 (2, [l0, l1, some (.int x), l3, l4], [.int i1, .ref k0], h) Q = Tr sc d 187 (3, [l0, l1, some (.int x), l3, l4], [.int x, .int i1, .ref k0], h) Q := t_iload_n k_187_2 rfl
theorem k_187_3 : lk 187 3 = some (.iload_n 3, 4, 3, 0, .null) := by decide +kernel
theorem x_187_3 : Tr sc d 187 (3, [l0, l1, l2, some (.int x), l4], [.int i2, .int i1, .ref k0], h) Q = Tr sc d 187 (4, [l0, l1, l2, some (.int x), l4], [.int x, .int i2, .int i1, .ref k0], h) Q := t_iload_n k_187_3 rfl
theorem k_187_4 : lk 187 4 = some (.iconst 1, 5, 0, 0, .int 1) := by decide +kernel
theorem x_187_4 : Tr sc d 187 (4, [l0, l1, l2, l3, l4], [.int i3, .int i2, .int i1, .ref k0], h) Q = Tr sc d 187 (5, [l0, l1, l2, l3, l4], [.int 1, .int i3, .int i2, .int i1, .ref k0], h) Q := t_go k_187_4 rfl
theorem k_187_5 : lk 187 5 = some (.bipush 99, 7, 0, 0, .int 99) := by decide +kernel
theorem x_187_5 : Tr sc d 187 (5, [l0, l1, l2, l3, l4], [.int i4, .int i3, .int i2, .int i1, .ref k0], h) Q = Tr sc d 187 (7, [l0, l1, l2, l3, l4], [.int 99, .int i4, .int i3, .int i2, .int i1, .ref k0], h) Q := t_go k_187_5 rfl
theorem k_187_7 : lk 187 7 = some (.invokevirtual 206, 10, 182, 5, .null) := by decide +kernel
theorem x_187_7 : Tr sc (d + 1) 187 (7, [l0, l1, l2, l3, l4], [.int i5, .int i4, .int i3, .int i2, .int i1, .ref k0], h) Q = (okp h k0 10 = true ∧ Tr sc d 182 (ent0 182 [.ref k0, .int i1, .int i2, .int i3, .int i4, .int i5] h) (fun z => Tr sc (d + 1) 187 (10, [l0, l1, l2, l3, l4], z.1.toList ++ [], z.2) Q)) := t_cv (as := [.int i1, .int i2, .int i3, .int i4, .int i5]) (r := []) k_187_7 rfl rfl (Nat.le_of_ble_eq_true rfl) (Nat.le_of_ble_eq_true rfl) (Nat.le_of_ble_eq_true rfl)
theorem k_187_10 : lk 187 10 = some (.istore 4, 12, 4, 0, .null) := by decide +kernel
theorem x_187_10 : Tr sc d 187 (10, [l0, l1, l2, l3, l4], [.int i0], h) Q = Tr sc d 187 (12, [l0, l1, l2, cl2 l3, some (.int i0)], [], h) Q := t_istore k_187_10 (Nat.le_of_ble_eq_true rfl)
theorem k_187_12 : lk 187 12 = some (.iload 4, 14, 4, 0, .null) := by decide +kernel
theorem x_187_12 : Tr sc d 187 (12, [l0, l1, l2, l3, some (.int x)], [], h) Q = Tr sc d 187 (14, [l0, l1, l2, l3, some (.int x)], [.int x], h) Q := t_iload k_187_12 rfl
theorem k_187_14 : lk 187 14 = some (.ifCond .ge 6, 17, 20, 0, .null) := by decide +kernel
theorem x_187_14 : Tr sc d 187 (14, [l0, l1, l2, l3, l4], [.int i0], h) Q = if 0 ≤ i0 then Tr sc d 187 (20, [l0, l1, l2, l3, l4], [], h) Q else Tr sc d 187 (17, [l0, l1, l2, l3, l4], [], h) Q := t_if k_187_14 rfl
theorem k_187_17 : lk 187 17 = some (.iload 4, 19, 4, 0, .null) := by decide +kernel
theorem x_187_17 : Tr sc d 187 (17, [l0, l1, l2, l3, some (.int x)], [], h) Q = Tr sc d 187 (19, [l0, l1, l2, l3, some (.int x)], [.int x], h) Q := t_iload k_187_17 rfl
theorem k_187_19 : lk 187 19 = some (.ireturn, 20, 0, 0, .null) := by decide +kernel
theorem x_187_19 : Tr sc d 187 (19, [l0, l1, l2, l3, l4], [.int i0], h) Q = Q (some (.int i0), h) := t_ret k_187_19 (by rw [r_187]; rfl)
theorem k_187_20 : lk 187 20 = some (.aload_n 0, 21, 0, 0, .null) := by decide +kernel
theorem x_187_20 : Tr sc d 187 (20, [some (.ref xk), l1, l2, l3, l4], [], h) Q = Tr sc d 187 (21, [some (.ref xk), l1, l2, l3, l4], [.ref xk], h) Q := t_aload_n k_187_20 rfl
theorem k_187_21 : lk 187 21 = some (.iload_n 1, 22, 1, 0, .null) := by decide +kernel
theorem x_187_21 : Tr sc d 187 (21, [l0, some (.int x), l2, l3, l4], [.ref k0], h) Q = Tr sc d 187 (22, [l0, some (.int x), l2, l3, l4], [.int x, .ref k0], h) Q := t_iload_n k_187_21 rfl
theorem k_187_22 : lk 187 22 = some (.iload_n 2, 23, 2, 0, .null) := by decide +kernel
theorem x_187_22 : Tr sc d 187 (22, [l0, l1, some (.int x), l3, l4], [.int i1, .ref k0], h) Q = Tr sc d 187 (23, [l0, l1, some (.int x), l3, l4], [.int x, .int i1, .ref k0], h) Q := t_iload_n k_187_22 rfl
theorem k_187_23 : lk 187 23 = some (.iload_n 3, 24, 3, 0, .null) := by decide +kernel
theorem x_187_23 : Tr sc d 187 (23, [l0, l1, l2, some (.int x), l4], [.int i2, .int i1, .ref k0], h) Q = Tr sc d 187 (24, [l0, l1, l2, some (.int x), l4], [.int x, .int i2, .int i1, .ref k0], h) Q := t_iload_n k_187_23 rfl
theorem k_187_24 : lk 187 24 = some (.iconst 3, 25, 0, 0, .int 3) := by decide +kernel
theorem x_187_24 : Tr sc d 187 (24, [l0, l1, l2, l3, l4], [.int i3, .int i2, .int i1, .ref k0], h) Q = Tr sc d 187 (25, [l0, l1, l2, l3, l4], [.int 3, .int i3, .int i2, .int i1, .ref k0], h) Q := t_go k_187_24 rfl
theorem k_187_25 : lk 187 25 = some (.invokevirtual 210, 28, 183, 4, .null) := by decide +kernel
theorem x_187_25 : Tr sc (d + 1) 187 (25, [l0, l1, l2, l3, l4], [.int i4, .int i3, .int i2, .int i1, .ref k0], h) Q = (okp h k0 10 = true ∧ Tr sc d 183 (ent0 183 [.ref k0, .int i1, .int i2, .int i3, .int i4] h) (fun z => Tr sc (d + 1) 187 (28, [l0, l1, l2, l3, l4], z.1.toList ++ [], z.2) Q)) := t_cv (as := [.int i1, .int i2, .int i3, .int i4]) (r := []) k_187_25 rfl rfl (Nat.le_of_ble_eq_true rfl) (Nat.le_of_ble_eq_true rfl) (Nat.le_of_ble_eq_true rfl)
theorem k_187_28 : lk 187 28 = some (.aload_n 0, 29, 0, 0, .null) := by decide +kernel
theorem x_187_28 : Tr sc d 187 (28, [some (.ref xk), l1, l2, l3, l4], [], h) Q = Tr sc d 187 (29, [some (.ref xk), l1, l2, l3, l4], [.ref xk], h) Q := t_aload_n k_187_28 rfl
theorem k_187_29 : lk 187 29 = some (.iload_n 1, 30, 1, 0, .null) := by decide +kernel
theorem x_187_29 : Tr sc d 187 (29, [l0, some (.int x), l2, l3, l4], [.ref k0], h) Q = Tr sc d 187 (30, [l0, some (.int x), l2, l3, l4], [.int x, .ref k0], h) Q := t_iload_n k_187_29 rfl
theorem k_187_30 : lk 187 30 = some (.invokevirtual 214, 33, 184, 1, .null) := by decide +kernel
theorem x_187_30 : Tr sc (d + 1) 187 (30, [l0, l1, l2, l3, l4], [.int i1, .ref k0], h) Q = (okp h k0 10 = true ∧ Tr sc d 184 (ent0 184 [.ref k0, .int i1] h) (fun z => Tr sc (d + 1) 187 (33, [l0, l1, l2, l3, l4], z.1.toList ++ [], z.2) Q)) := t_cv (as := [.int i1]) (r := []) k_187_30 rfl rfl (Nat.le_of_ble_eq_true rfl) (Nat.le_of_ble_eq_true rfl) (Nat.le_of_ble_eq_true rfl)
theorem k_187_33 : lk 187 33 = some (.ireturn, 34, 0, 0, .null) := by decide +kernel
theorem x_187_33 : Tr sc d 187 (33, [l0, l1, l2, l3, l4], [.int i0], h) Q = Q (some (.int i0), h) := t_ret k_187_33 (by rw [r_187]; rfl)
theorem e_187 : Tr sc d 187 (ent0 187 [.ref k0, .int i1, .int i2, .int i3] h) Q = Tr sc d 187 (0, [some (.ref k0), some (.int i1), some (.int i2), some (.int i3), none], [], h) Q := by
  have e : mL 187 = 5 := by decide +kernel
  unfold ent0
  rw [e]
  rfl
theorem r_188 : mR 188 = some .int := by decide +kernel
theorem k_188_0 : lk 188 0 = some (.aload_n 0, 1, 0, 0, .null) := by decide +kernel
theorem x_188_0 : Tr sc d 188 (0, [some (.ref xk), l1, l2, l3, l4], [], h) Q = Tr sc d 188 (1, [some (.ref xk), l1, l2, l3, l4], [.ref xk], h) Q := t_aload_n k_188_0 rfl
theorem k_188_1 : lk 188 1 = some (.iload_n 1, 2, 1, 0, .null) := by decide +kernel
theorem x_188_1 : Tr sc d 188 (1, [l0, some (.int x), l2, l3, l4], [.ref k0], h) Q = Tr sc d 188 (2, [l0, some (.int x), l2, l3, l4], [.int x, .ref k0], h) Q := t_iload_n k_188_1 rfl
theorem k_188_2 : lk 188 2 = some (.iload_n 2, 3, 2, 0, .null) := by decide +kernel
theorem x_188_2 : Tr sc d 188 (2, [l0, l1, some (.int x), l3, l4], [.int i1, .ref k0], h) Q = Tr sc d 188 (3, [l0, l1, some (.int x), l3, l4], [.int x, .int i1, .ref k0], h) Q := t_iload_n k_188_2 rfl
theorem k_188_3 : lk 188 3 = some (.iload_n 3, 4, 3, 0, .null) := by decide +kernel
theorem x_188_3 : Tr sc d 188 (3, [l0, l1, l2, some (.int x), l4], [.int i2, .int i1, .ref k0], h) Q = Tr sc d 188 (4, [l0, l1, l2, some (.int x), l4], [.int x, .int i2, .int i1, .ref k0], h) Q := t_iload_n k_188_3 rfl
theorem k_188_4 : lk 188 4 = some (.iconst 0, 5, 0, 0, .int 0) := by decide +kernel
theorem x_188_4 : Tr sc d 188 (4, [l0, l1, l2, l3, l4], [.int i3, .int i2, .int i1, .ref k0], h) Q = Tr sc d 188 (5, [l0, l1, l2, l3, l4], [.int 0, .int i3, .int i2, .int i1, .ref k0], h) Q := t_go k_188_4 rfl
theorem k_188_5 : lk 188 5 = some (.iconst (-1), 6, 0, 0, .int (-1)) := by decide +kernel
theorem x_188_5 : Tr sc d 188 (5, [l0, l1, l2, l3, l4], [.int i4, .int i3, .int i2, .int i1, .ref k0], h) Q = Tr sc d 188 (6, [l0, l1, l2, l3, l4], [.int (-1), .int i4, .int i3, .int i2, .int i1, .ref k0], h) Q := t_go k_188_5 rfl
theorem k_188_6 : lk 188 6 = some (.invokevirtual 206, 9, 182, 5, .null) := by decide +kernel
theorem x_188_6 : Tr sc (d + 1) 188 (6, [l0, l1, l2, l3, l4], [.int i5, .int i4, .int i3, .int i2, .int i1, .ref k0], h) Q = (okp h k0 10 = true ∧ Tr sc d 182 (ent0 182 [.ref k0, .int i1, .int i2, .int i3, .int i4, .int i5] h) (fun z => Tr sc (d + 1) 188 (9, [l0, l1, l2, l3, l4], z.1.toList ++ [], z.2) Q)) := t_cv (as := [.int i1, .int i2, .int i3, .int i4, .int i5]) (r := []) k_188_6 rfl rfl (Nat.le_of_ble_eq_true rfl) (Nat.le_of_ble_eq_true rfl) (Nat.le_of_ble_eq_true rfl)
theorem k_188_9 : lk 188 9 = some (.istore 4, 11, 4, 0, .null) := by decide +kernel
theorem x_188_9 : Tr sc d 188 (9, [l0, l1, l2, l3, l4], [.int i0], h) Q = Tr sc d 188 (11, [l0, l1, l2, cl2 l3, some (.int i0)], [], h) Q := t_istore k_188_9 (Nat.le_of_ble_eq_true rfl)
theorem k_188_11 : lk 188 11 = some (.iload 4, 13, 4, 0, .null) := by decide +kernel
theorem x_188_11 : Tr sc d 188 (11, [l0, l1, l2, l3, some (.int x)], [], h) Q = Tr sc d 188 (13, [l0, l1, l2, l3, some (.int x)], [.int x], h) Q := t_iload k_188_11 rfl
theorem k_188_13 : lk 188 13 = some (.ifCond .ge 6, 16, 19, 0, .null) := by decide +kernel
theorem x_188_13 : Tr sc d 188 (13, [l0, l1, l2, l3, l4], [.int i0], h) Q = if 0 ≤ i0 then Tr sc d 188 (19, [l0, l1, l2, l3, l4], [], h) Q else Tr sc d 188 (16, [l0, l1, l2, l3, l4], [], h) Q := t_if k_188_13 rfl
theorem k_188_16 : lk 188 16 = some (.iload 4, 18, 4, 0, .null) := by decide +kernel
theorem x_188_16 : Tr sc d 188 (16, [l0, l1, l2, l3, some (.int x)], [], h) Q = Tr sc d 188 (18, [l0, l1, l2, l3, some (.int x)], [.int x], h) Q := t_iload k_188_16 rfl
theorem k_188_18 : lk 188 18 = some (.ireturn, 19, 0, 0, .null) := by decide +kernel
theorem x_188_18 : Tr sc d 188 (18, [l0, l1, l2, l3, l4], [.int i0], h) Q = Q (some (.int i0), h) := t_ret k_188_18 (by rw [r_188]; rfl)
theorem k_188_19 : lk 188 19 = some (.aload_n 0, 20, 0, 0, .null) := by decide +kernel
theorem x_188_19 : Tr sc d 188 (19, [some (.ref xk), l1, l2, l3, l4], [], h) Q = Tr sc d 188 (20, [some (.ref xk), l1, l2, l3, l4], [.ref xk], h) Q := t_aload_n k_188_19 rfl
theorem k_188_20 : lk 188 20 = some (.iload_n 1, 21, 1, 0, .null) := by decide +kernel
theorem x_188_20 : Tr sc d 188 (20, [l0, some (.int x), l2, l3, l4], [.ref k0], h) Q = Tr sc d 188 (21, [l0, some (.int x), l2, l3, l4], [.int x, .ref k0], h) Q := t_iload_n k_188_20 rfl
theorem k_188_21 : lk 188 21 = some (.iload_n 2, 22, 2, 0, .null) := by decide +kernel
theorem x_188_21 : Tr sc d 188 (21, [l0, l1, some (.int x), l3, l4], [.int i1, .ref k0], h) Q = Tr sc d 188 (22, [l0, l1, some (.int x), l3, l4], [.int x, .int i1, .ref k0], h) Q := t_iload_n k_188_21 rfl
theorem k_188_22 : lk 188 22 = some (.iload_n 3, 23, 3, 0, .null) := by decide +kernel
theorem x_188_22 : Tr sc d 188 (22, [l0, l1, l2, some (.int x), l4], [.int i2, .int i1, .ref k0], h) Q = Tr sc d 188 (23, [l0, l1, l2, some (.int x), l4], [.int x, .int i2, .int i1, .ref k0], h) Q := t_iload_n k_188_22 rfl
theorem k_188_23 : lk 188 23 = some (.iconst 4, 24, 0, 0, .int 4) := by decide +kernel
theorem x_188_23 : Tr sc d 188 (23, [l0, l1, l2, l3, l4], [.int i3, .int i2, .int i1, .ref k0], h) Q = Tr sc d 188 (24, [l0, l1, l2, l3, l4], [.int 4, .int i3, .int i2, .int i1, .ref k0], h) Q := t_go k_188_23 rfl
theorem k_188_24 : lk 188 24 = some (.invokevirtual 210, 27, 183, 4, .null) := by decide +kernel
theorem x_188_24 : Tr sc (d + 1) 188 (24, [l0, l1, l2, l3, l4], [.int i4, .int i3, .int i2, .int i1, .ref k0], h) Q = (okp h k0 10 = true ∧ Tr sc d 183 (ent0 183 [.ref k0, .int i1, .int i2, .int i3, .int i4] h) (fun z => Tr sc (d + 1) 188 (27, [l0, l1, l2, l3, l4], z.1.toList ++ [], z.2) Q)) := t_cv (as := [.int i1, .int i2, .int i3, .int i4]) (r := []) k_188_24 rfl rfl (Nat.le_of_ble_eq_true rfl) (Nat.le_of_ble_eq_true rfl) (Nat.le_of_ble_eq_true rfl)
theorem k_188_27 : lk 188 27 = some (.aload_n 0, 28, 0, 0, .null) := by decide +kernel
theorem x_188_27 : Tr sc d 188 (27, [some (.ref xk), l1, l2, l3, l4], [], h) Q = Tr sc d 188 (28, [some (.ref xk), l1, l2, l3, l4], [.ref xk], h) Q := t_aload_n k_188_27 rfl
theorem k_188_28 : lk 188 28 = some (.iload_n 1, 29, 1, 0, .null) := by decide +kernel
theorem x_188_28 : Tr sc d 188 (28, [l0, some (.int x), l2, l3, l4], [.ref k0], h) Q = Tr sc d 188 (29, [l0, some (.int x), l2, l3, l4], [.int x, .ref k0], h) Q := t_iload_n k_188_28 rfl
theorem k_188_29 : lk 188 29 = some (.invokevirtual 217, 32, 185, 1, .null) := by decide +kernel
theorem x_188_29 : Tr sc (d + 1) 188 (29, [l0, l1, l2, l3, l4], [.int i1, .ref k0], h) Q = (okp h k0 10 = true ∧ Tr sc d 185 (ent0 185 [.ref k0, .int i1] h) (fun z => Tr sc (d + 1) 188 (32, [l0, l1, l2, l3, l4], z.1.toList ++ [], z.2) Q)) := t_cv (as := [.int i1]) (r := []) k_188_29 rfl rfl (Nat.le_of_ble_eq_true rfl) (Nat.le_of_ble_eq_true rfl) (Nat.le_of_ble_eq_true rfl)
theorem k_188_32 : lk 188 32 = some (.ireturn, 33, 0, 0, .null) := by decide +kernel
theorem x_188_32 : Tr sc d 188 (32, [l0, l1, l2, l3, l4], [.int i0], h) Q = Q (some (.int i0), h) := t_ret k_188_32 (by rw [r_188]; rfl)
theorem e_188 : Tr sc d 188 (ent0 188 [.ref k0, .int i1, .int i2, .int i3] h) Q = Tr sc d 188 (0, [some (.ref k0), some (.int i1), some (.int i2), some (.int i3), none], [], h) Q := by
  have e : mL 188 = 5 := by decide +kernel
  unfold ent0
  rw [e]
  rfl
theorem r_189 : mR 189 = some .int := by decide +kernel
theorem k_189_0 : lk 189 0 = some (.iload_n 1, 1, 1, 0, .null) := by decide +kernel
theorem x_189_0 : Tr sc d 189 (0, [l0, some (.int x), l2, l3, l4, l5, l6, l7, l8], [], h) Q = Tr sc d 189 (1, [l0, some (.int x), l2, l3, l4, l5, l6, l7, l8], [.int x], h) Q := t_iload_n k_189_0 rfl
theorem k_189_1 : lk 189 1 = some (.invokestatic 190, 4, 175, 1, .null) := by decide +kernel
theorem x_189_1 : Tr sc (d + 1) 189 (1, [l0, l1, l2, l3, l4, l5, l6, l7, l8], [.int i0], h) Q = Tr sc d 175 (ent0 175 [.int i0] h) (fun z => Tr sc (d + 1) 189 (4, [l0, l1, l2, l3, l4, l5, l6, l7, l8], z.1.toList ++ [], z.2) Q) := t_cs (as := [.int i0]) (r := []) k_189_1 (by decide) rfl rfl (Nat.le_of_ble_eq_true rfl) (Nat.le_of_ble_eq_true rfl)
theorem k_189_4 : lk 189 4 = some (.ifCond .eq 10, 7, 14, 0, .null) := by decide +kernel
theorem x_189_4 : Tr sc d 189 (4, [l0, l1, l2, l3, l4, l5, l6, l7, l8], [.int i0], h) Q = if i0 = 0 then Tr sc d 189 (14, [l0, l1, l2, l3, l4, l5, l6, l7, l8], [], h) Q else Tr sc d 189 (7, [l0, l1, l2, l3, l4, l5, l6, l7, l8], [], h) Q := t_if k_189_4 rfl
theorem k_189_7 : lk 189 7 = some (.iload_n 2, 8, 2, 0, .null) := by decide +kernel
theorem x_189_7 : Tr sc d 189 (7, [l0, l1, some (.int x), l3, l4, l5, l6, l7, l8], [], h) Q = Tr sc d 189 (8, [l0, l1, some (.int x), l3, l4, l5, l6, l7, l8], [.int x], h) Q := t_iload_n k_189_7 rfl
theorem k_189_8 : lk 189 8 = some (.invokestatic 148, 11, 160, 1, .null) := by decide +kernel
theorem x_189_8 : Tr sc (d + 1) 189 (8, [l0, l1, l2, l3, l4, l5, l6, l7, l8], [.int i0], h) Q = Tr sc d 160 (ent0 160 [.int i0] h) (fun z => Tr sc (d + 1) 189 (11, [l0, l1, l2, l3, l4, l5, l6, l7, l8], z.1.toList ++ [], z.2) Q) := t_cs (as := [.int i0]) (r := []) k_189_8 (by decide) rfl rfl (Nat.le_of_ble_eq_true rfl) (Nat.le_of_ble_eq_true rfl)
theorem k_189_11 : lk 189 11 = some (.ifCond .ne 5, 14, 16, 0, .null) := by decide +kernel
theorem x_189_11 : Tr sc d 189 (11, [l0, l1, l2, l3, l4, l5, l6, l7, l8], [.int i0], h) Q = if i0 = 0 then Tr sc d 189 (14, [l0, l1, l2, l3, l4, l5, l6, l7, l8], [], h) Q else Tr sc d 189 (16, [l0, l1, l2, l3, l4, l5, l6, l7, l8], [], h) Q := t_if k_189_11 rfl
theorem k_189_14 : lk 189 14 = some (.iconst (-1), 15, 0, 0, .int (-1)) := by decide +kernel
theorem x_189_14 : Tr sc d 189 (14, [l0, l1, l2, l3, l4, l5, l6, l7, l8], [], h) Q = Tr sc d 189 (15, [l0, l1, l2, l3, l4, l5, l6, l7, l8], [.int (-1)], h) Q := t_go k_189_14 rfl
theorem k_189_15 : lk 189 15 = some (.ireturn, 16, 0, 0, .null) := by decide +kernel
theorem x_189_15 : Tr sc d 189 (15, [l0, l1, l2, l3, l4, l5, l6, l7, l8], [.int i0], h) Q = Q (some (.int i0), h) := t_ret k_189_15 (by rw [r_189]; rfl)
theorem k_189_16 : lk 189 16 = some (.aload_n 0, 17, 0, 0, .null) := by decide +kernel
theorem x_189_16 : Tr sc d 189 (16, [some (.ref xk), l1, l2, l3, l4, l5, l6, l7, l8], [], h) Q = Tr sc d 189 (17, [some (.ref xk), l1, l2, l3, l4, l5, l6, l7, l8], [.ref xk], h) Q := t_aload_n k_189_16 rfl
theorem k_189_17 : lk 189 17 = some (.getfield 17, 20, 10, 6, .null) := by decide +kernel
theorem x_189_17 : Tr sc d 189 (17, [l0, l1, l2, l3, l4, l5, l6, l7, l8], [.ref k0], h) Q = (okp h k0 10 = true ∧ ∃ q, hR h k0 6 = some q ∧ Tr sc d 189 (20, [l0, l1, l2, l3, l4, l5, l6, l7, l8], [.ref q], h) Q) := t_getr k_189_17
theorem k_189_20 : lk 189 20 = some (.iload_n 2, 21, 2, 0, .null) := by decide +kernel
theorem x_189_20 : Tr sc d 189 (20, [l0, l1, some (.int x), l3, l4, l5, l6, l7, l8], [.ref k0], h) Q = Tr sc d 189 (21, [l0, l1, some (.int x), l3, l4, l5, l6, l7, l8], [.int x, .ref k0], h) Q := t_iload_n k_189_20 rfl
theorem k_189_21 : lk 189 21 = some (.iaload, 22, 0, 0, .null) := by decide +kernel
theorem x_189_21 : Tr sc d 189 (21, [l0, l1, l2, l3, l4, l5, l6, l7, l8], [.int i1, .ref k0], h) Q = (iOk sc h k0 i1 ∧ Tr sc d 189 (22, [l0, l1, l2, l3, l4, l5, l6, l7, l8], [.int (iRd sc h k0 i1)], h) Q) := t_iald k_189_21
theorem k_189_22 : lk 189 22 = some (.ifCond .ge 9, 25, 31, 0, .null) := by decide +kernel
theorem x_189_22 : Tr sc d 189 (22, [l0, l1, l2, l3, l4, l5, l6, l7, l8], [.int i0], h) Q = if 0 ≤ i0 then Tr sc d 189 (31, [l0, l1, l2, l3, l4, l5, l6, l7, l8], [], h) Q else Tr sc d 189 (25, [l0, l1, l2, l3, l4, l5, l6, l7, l8], [], h) Q := t_if k_189_22 rfl
theorem k_189_25 : lk 189 25 = some (.aload_n 0, 26, 0, 0, .null) := by decide +kernel
theorem x_189_25 : Tr sc d 189 (25, [some (.ref xk), l1, l2, l3, l4, l5, l6, l7, l8], [], h) Q = Tr sc d 189 (26, [some (.ref xk), l1, l2, l3, l4, l5, l6, l7, l8], [.ref xk], h) Q := t_aload_n k_189_25 rfl
theorem k_189_26 : lk 189 26 = some (.iconst 1, 27, 0, 0, .int 1) := by decide +kernel
theorem x_189_26 : Tr sc d 189 (26, [l0, l1, l2, l3, l4, l5, l6, l7, l8], [.ref k0], h) Q = Tr sc d 189 (27, [l0, l1, l2, l3, l4, l5, l6, l7, l8], [.int 1, .ref k0], h) Q := t_go k_189_26 rfl
theorem k_189_27 : lk 189 27 = some (.invokevirtual 152, 30, 157, 1, .null) := by decide +kernel
theorem x_189_27 : Tr sc (d + 1) 189 (27, [l0, l1, l2, l3, l4, l5, l6, l7, l8], [.int i1, .ref k0], h) Q = (okp h k0 10 = true ∧ Tr sc d 157 (ent0 157 [.ref k0, .int i1] h) (fun z => Tr sc (d + 1) 189 (30, [l0, l1, l2, l3, l4, l5, l6, l7, l8], z.1.toList ++ [], z.2) Q)) := t_cv (as := [.int i1]) (r := []) k_189_27 rfl rfl (Nat.le_of_ble_eq_true rfl) (Nat.le_of_ble_eq_true rfl) (Nat.le_of_ble_eq_true rfl)
theorem k_189_30 : lk 189 30 = some (.ireturn, 31, 0, 0, .null) := by decide +kernel
theorem x_189_30 : Tr sc d 189 (30, [l0, l1, l2, l3, l4, l5, l6, l7, l8], [.int i0], h) Q = Q (some (.int i0), h) := t_ret k_189_30 (by rw [r_189]; rfl)
theorem k_189_31 : lk 189 31 = some (.aload_n 0, 32, 0, 0, .null) := by decide +kernel
theorem x_189_31 : Tr sc d 189 (31, [some (.ref xk), l1, l2, l3, l4, l5, l6, l7, l8], [], h) Q = Tr sc d 189 (32, [some (.ref xk), l1, l2, l3, l4, l5, l6, l7, l8], [.ref xk], h) Q := t_aload_n k_189_31 rfl
theorem k_189_32 : lk 189 32 = some (.getfield 17, 35, 10, 6, .null) := by decide +kernel
theorem x_189_32 : Tr sc d 189 (32, [l0, l1, l2, l3, l4, l5, l6, l7, l8], [.ref k0], h) Q = (okp h k0 10 = true ∧ ∃ q, hR h k0 6 = some q ∧ Tr sc d 189 (35, [l0, l1, l2, l3, l4, l5, l6, l7, l8], [.ref q], h) Q) := t_getr k_189_32
theorem k_189_35 : lk 189 35 = some (.iload_n 2, 36, 2, 0, .null) := by decide +kernel
theorem x_189_35 : Tr sc d 189 (35, [l0, l1, some (.int x), l3, l4, l5, l6, l7, l8], [.ref k0], h) Q = Tr sc d 189 (36, [l0, l1, some (.int x), l3, l4, l5, l6, l7, l8], [.int x, .ref k0], h) Q := t_iload_n k_189_35 rfl
theorem k_189_36 : lk 189 36 = some (.iaload, 37, 0, 0, .null) := by decide +kernel
theorem x_189_36 : Tr sc d 189 (36, [l0, l1, l2, l3, l4, l5, l6, l7, l8], [.int i1, .ref k0], h) Q = (iOk sc h k0 i1 ∧ Tr sc d 189 (37, [l0, l1, l2, l3, l4, l5, l6, l7, l8], [.int (iRd sc h k0 i1)], h) Q) := t_iald k_189_36
theorem k_189_37 : lk 189 37 = some (.istore_n 3, 38, 3, 0, .null) := by decide +kernel
theorem x_189_37 : Tr sc d 189 (37, [l0, l1, l2, l3, l4, l5, l6, l7, l8], [.int i0], h) Q = Tr sc d 189 (38, [l0, l1, cl2 l2, some (.int i0), l4, l5, l6, l7, l8], [], h) Q := t_istore_n k_189_37 (Nat.le_of_ble_eq_true rfl)
theorem k_189_38 : lk 189 38 = some (.iload_n 3, 39, 3, 0, .null) := by decide +kernel
theorem x_189_38 : Tr sc d 189 (38, [l0, l1, l2, some (.int x), l4, l5, l6, l7, l8], [], h) Q = Tr sc d 189 (39, [l0, l1, l2, some (.int x), l4, l5, l6, l7, l8], [.int x], h) Q := t_iload_n k_189_38 rfl
theorem k_189_39 : lk 189 39 = some (.iconst 2, 40, 0, 0, .int 2) := by decide +kernel
theorem x_189_39 : Tr sc d 189 (39, [l0, l1, l2, l3, l4, l5, l6, l7, l8], [.int i0], h) Q = Tr sc d 189 (40, [l0, l1, l2, l3, l4, l5, l6, l7, l8], [.int 2, .int i0], h) Q := t_go k_189_39 rfl
theorem k_189_40 : lk 189 40 = some (.iconst 4, 41, 0, 0, .int 4) := by decide +kernel
theorem x_189_40 : Tr sc d 189 (40, [l0, l1, l2, l3, l4, l5, l6, l7, l8], [.int i1, .int i0], h) Q = Tr sc d 189 (41, [l0, l1, l2, l3, l4, l5, l6, l7, l8], [.int 4, .int i1, .int i0], h) Q := t_go k_189_40 rfl
theorem k_189_41 : lk 189 41 = some (.invokestatic 144, 44, 156, 3, .null) := by decide +kernel
theorem x_189_41 : Tr sc (d + 1) 189 (41, [l0, l1, l2, l3, l4, l5, l6, l7, l8], [.int i2, .int i1, .int i0], h) Q = Tr sc d 156 (ent0 156 [.int i0, .int i1, .int i2] h) (fun z => Tr sc (d + 1) 189 (44, [l0, l1, l2, l3, l4, l5, l6, l7, l8], z.1.toList ++ [], z.2) Q) := t_cs (as := [.int i0, .int i1, .int i2]) (r := []) k_189_41 (by decide) rfl rfl (Nat.le_of_ble_eq_true rfl) (Nat.le_of_ble_eq_true rfl)
theorem k_189_44 : lk 189 44 = some (.ifCond .ne 9, 47, 53, 0, .null) := by decide +kernel
theorem x_189_44 : Tr sc d 189 (44, [l0, l1, l2, l3, l4, l5, l6, l7, l8], [.int i0], h) Q = if i0 = 0 then Tr sc d 189 (47, [l0, l1, l2, l3, l4, l5, l6, l7, l8], [], h) Q else Tr sc d 189 (53, [l0, l1, l2, l3, l4, l5, l6, l7, l8], [], h) Q := t_if k_189_44 rfl
theorem k_189_47 : lk 189 47 = some (.aload_n 0, 48, 0, 0, .null) := by decide +kernel
theorem x_189_47 : Tr sc d 189 (47, [some (.ref xk), l1, l2, l3, l4, l5, l6, l7, l8], [], h) Q = Tr sc d 189 (48, [some (.ref xk), l1, l2, l3, l4, l5, l6, l7, l8], [.ref xk], h) Q := t_aload_n k_189_47 rfl
theorem k_189_48 : lk 189 48 = some (.iconst 5, 49, 0, 0, .int 5) := by decide +kernel
theorem x_189_48 : Tr sc d 189 (48, [l0, l1, l2, l3, l4, l5, l6, l7, l8], [.ref k0], h) Q = Tr sc d 189 (49, [l0, l1, l2, l3, l4, l5, l6, l7, l8], [.int 5, .ref k0], h) Q := t_go k_189_48 rfl
theorem k_189_49 : lk 189 49 = some (.invokevirtual 152, 52, 157, 1, .null) := by decide +kernel
theorem x_189_49 : Tr sc (d + 1) 189 (49, [l0, l1, l2, l3, l4, l5, l6, l7, l8], [.int i1, .ref k0], h) Q = (okp h k0 10 = true ∧ Tr sc d 157 (ent0 157 [.ref k0, .int i1] h) (fun z => Tr sc (d + 1) 189 (52, [l0, l1, l2, l3, l4, l5, l6, l7, l8], z.1.toList ++ [], z.2) Q)) := t_cv (as := [.int i1]) (r := []) k_189_49 rfl rfl (Nat.le_of_ble_eq_true rfl) (Nat.le_of_ble_eq_true rfl) (Nat.le_of_ble_eq_true rfl)
theorem k_189_52 : lk 189 52 = some (.ireturn, 53, 0, 0, .null) := by decide +kernel
theorem x_189_52 : Tr sc d 189 (52, [l0, l1, l2, l3, l4, l5, l6, l7, l8], [.int i0], h) Q = Q (some (.int i0), h) := t_ret k_189_52 (by rw [r_189]; rfl)
theorem k_189_53 : lk 189 53 = some (.iconst 1, 54, 0, 0, .int 1) := by decide +kernel
theorem x_189_53 : Tr sc d 189 (53, [l0, l1, l2, l3, l4, l5, l6, l7, l8], [], h) Q = Tr sc d 189 (54, [l0, l1, l2, l3, l4, l5, l6, l7, l8], [.int 1], h) Q := t_go k_189_53 rfl
theorem k_189_54 : lk 189 54 = some (.istore 4, 56, 4, 0, .null) := by decide +kernel
theorem x_189_54 : Tr sc d 189 (54, [l0, l1, l2, l3, l4, l5, l6, l7, l8], [.int i0], h) Q = Tr sc d 189 (56, [l0, l1, l2, cl2 l3, some (.int i0), l5, l6, l7, l8], [], h) Q := t_istore k_189_54 (Nat.le_of_ble_eq_true rfl)
theorem k_189_56 : lk 189 56 = some (.iconst 0, 57, 0, 0, .int 0) := by decide +kernel
theorem x_189_56 : Tr sc d 189 (56, [l0, l1, l2, l3, l4, l5, l6, l7, l8], [], h) Q = Tr sc d 189 (57, [l0, l1, l2, l3, l4, l5, l6, l7, l8], [.int 0], h) Q := t_go k_189_56 rfl
theorem k_189_57 : lk 189 57 = some (.istore 5, 59, 5, 0, .null) := by decide +kernel
theorem x_189_57 : Tr sc d 189 (57, [l0, l1, l2, l3, l4, l5, l6, l7, l8], [.int i0], h) Q = Tr sc d 189 (59, [l0, l1, l2, l3, cl2 l4, some (.int i0), l6, l7, l8], [], h) Q := t_istore k_189_57 (Nat.le_of_ble_eq_true rfl)
theorem k_189_59 : lk 189 59 = some (.iconst 0, 60, 0, 0, .int 0) := by decide +kernel
theorem x_189_59 : Tr sc d 189 (59, [l0, l1, l2, l3, l4, l5, l6, l7, l8], [], h) Q = Tr sc d 189 (60, [l0, l1, l2, l3, l4, l5, l6, l7, l8], [.int 0], h) Q := t_go k_189_59 rfl
theorem k_189_60 : lk 189 60 = some (.istore 6, 62, 6, 0, .null) := by decide +kernel
theorem x_189_60 : Tr sc d 189 (60, [l0, l1, l2, l3, l4, l5, l6, l7, l8], [.int i0], h) Q = Tr sc d 189 (62, [l0, l1, l2, l3, l4, cl2 l5, some (.int i0), l7, l8], [], h) Q := t_istore k_189_60 (Nat.le_of_ble_eq_true rfl)
theorem k_189_62 : lk 189 62 = some (.iload 6, 64, 6, 0, .null) := by decide +kernel
theorem x_189_62 : Tr sc d 189 (62, [l0, l1, l2, l3, l4, l5, some (.int x), l7, l8], [], h) Q = Tr sc d 189 (64, [l0, l1, l2, l3, l4, l5, some (.int x), l7, l8], [.int x], h) Q := t_iload k_189_62 rfl
theorem k_189_64 : lk 189 64 = some (.iload_n 3, 65, 3, 0, .null) := by decide +kernel
theorem x_189_64 : Tr sc d 189 (64, [l0, l1, l2, some (.int x), l4, l5, l6, l7, l8], [.int i0], h) Q = Tr sc d 189 (65, [l0, l1, l2, some (.int x), l4, l5, l6, l7, l8], [.int x, .int i0], h) Q := t_iload_n k_189_64 rfl
theorem k_189_65 : lk 189 65 = some (.if_icmp .ge 81, 68, 146, 0, .null) := by decide +kernel
theorem x_189_65 : Tr sc d 189 (65, [l0, l1, l2, l3, l4, l5, l6, l7, l8], [.int i1, .int i0], h) Q = if i1 ≤ i0 then Tr sc d 189 (146, [l0, l1, l2, l3, l4, l5, l6, l7, l8], [], h) Q else Tr sc d 189 (68, [l0, l1, l2, l3, l4, l5, l6, l7, l8], [], h) Q := t_if k_189_65 rfl
theorem k_189_68 : lk 189 68 = some (.aload_n 0, 69, 0, 0, .null) := by decide +kernel
theorem x_189_68 : Tr sc d 189 (68, [some (.ref xk), l1, l2, l3, l4, l5, l6, l7, l8], [], h) Q = Tr sc d 189 (69, [some (.ref xk), l1, l2, l3, l4, l5, l6, l7, l8], [.ref xk], h) Q := t_aload_n k_189_68 rfl
theorem k_189_69 : lk 189 69 = some (.getfield 20, 72, 10, 7, .null) := by decide +kernel
theorem x_189_69 : Tr sc d 189 (69, [l0, l1, l2, l3, l4, l5, l6, l7, l8], [.ref k0], h) Q = (okp h k0 10 = true ∧ ∃ q, hR h k0 7 = some q ∧ Tr sc d 189 (72, [l0, l1, l2, l3, l4, l5, l6, l7, l8], [.ref q], h) Q) := t_getr k_189_69
theorem k_189_72 : lk 189 72 = some (.bipush 40, 74, 0, 0, .int 40) := by decide +kernel
theorem x_189_72 : Tr sc d 189 (72, [l0, l1, l2, l3, l4, l5, l6, l7, l8], [.ref k0], h) Q = Tr sc d 189 (74, [l0, l1, l2, l3, l4, l5, l6, l7, l8], [.int 40, .ref k0], h) Q := t_go k_189_72 rfl
theorem k_189_74 : lk 189 74 = some (.iload_n 2, 75, 2, 0, .null) := by decide +kernel
theorem x_189_74 : Tr sc d 189 (74, [l0, l1, some (.int x), l3, l4, l5, l6, l7, l8], [.int i1, .ref k0], h) Q = Tr sc d 189 (75, [l0, l1, some (.int x), l3, l4, l5, l6, l7, l8], [.int x, .int i1, .ref k0], h) Q := t_iload_n k_189_74 rfl
theorem k_189_75 : lk 189 75 = some (.imul, 76, 0, 0, .null) := by decide +kernel
theorem x_189_75 : Tr sc d 189 (75, [l0, l1, l2, l3, l4, l5, l6, l7, l8], [.int i2, .int i1, .ref k0], h) Q = Tr sc d 189 (76, [l0, l1, l2, l3, l4, l5, l6, l7, l8], [.int (i1 * i2), .ref k0], h) Q := t_go k_189_75 rfl
theorem k_189_76 : lk 189 76 = some (.iload 6, 78, 6, 0, .null) := by decide +kernel
theorem x_189_76 : Tr sc d 189 (76, [l0, l1, l2, l3, l4, l5, some (.int x), l7, l8], [.int i1, .ref k0], h) Q = Tr sc d 189 (78, [l0, l1, l2, l3, l4, l5, some (.int x), l7, l8], [.int x, .int i1, .ref k0], h) Q := t_iload k_189_76 rfl
theorem k_189_78 : lk 189 78 = some (.iadd, 79, 0, 0, .null) := by decide +kernel
theorem x_189_78 : Tr sc d 189 (78, [l0, l1, l2, l3, l4, l5, l6, l7, l8], [.int i2, .int i1, .ref k0], h) Q = Tr sc d 189 (79, [l0, l1, l2, l3, l4, l5, l6, l7, l8], [.int (i1 + i2), .ref k0], h) Q := t_go k_189_78 rfl
theorem k_189_79 : lk 189 79 = some (.iaload, 80, 0, 0, .null) := by decide +kernel
theorem x_189_79 : Tr sc d 189 (79, [l0, l1, l2, l3, l4, l5, l6, l7, l8], [.int i1, .ref k0], h) Q = (iOk sc h k0 i1 ∧ Tr sc d 189 (80, [l0, l1, l2, l3, l4, l5, l6, l7, l8], [.int (iRd sc h k0 i1)], h) Q) := t_iald k_189_79
theorem k_189_80 : lk 189 80 = some (.istore 7, 82, 7, 0, .null) := by decide +kernel
theorem x_189_80 : Tr sc d 189 (80, [l0, l1, l2, l3, l4, l5, l6, l7, l8], [.int i0], h) Q = Tr sc d 189 (82, [l0, l1, l2, l3, l4, l5, cl2 l6, some (.int i0), l8], [], h) Q := t_istore k_189_80 (Nat.le_of_ble_eq_true rfl)
theorem k_189_82 : lk 189 82 = some (.iload 4, 84, 4, 0, .null) := by decide +kernel
theorem x_189_82 : Tr sc d 189 (82, [l0, l1, l2, l3, some (.int x), l5, l6, l7, l8], [], h) Q = Tr sc d 189 (84, [l0, l1, l2, l3, some (.int x), l5, l6, l7, l8], [.int x], h) Q := t_iload k_189_82 rfl
theorem k_189_84 : lk 189 84 = some (.ifCond .eq 21, 87, 105, 0, .null) := by decide +kernel
theorem x_189_84 : Tr sc d 189 (84, [l0, l1, l2, l3, l4, l5, l6, l7, l8], [.int i0], h) Q = if i0 = 0 then Tr sc d 189 (105, [l0, l1, l2, l3, l4, l5, l6, l7, l8], [], h) Q else Tr sc d 189 (87, [l0, l1, l2, l3, l4, l5, l6, l7, l8], [], h) Q := t_if k_189_84 rfl
theorem k_189_87 : lk 189 87 = some (.iload 7, 89, 7, 0, .null) := by decide +kernel
theorem x_189_87 : Tr sc d 189 (87, [l0, l1, l2, l3, l4, l5, l6, some (.int x), l8], [], h) Q = Tr sc d 189 (89, [l0, l1, l2, l3, l4, l5, l6, some (.int x), l8], [.int x], h) Q := t_iload k_189_87 rfl
theorem k_189_89 : lk 189 89 = some (.iconst 0, 90, 0, 0, .int 0) := by decide +kernel
theorem x_189_89 : Tr sc d 189 (89, [l0, l1, l2, l3, l4, l5, l6, l7, l8], [.int i0], h) Q = Tr sc d 189 (90, [l0, l1, l2, l3, l4, l5, l6, l7, l8], [.int 0, .int i0], h) Q := t_go k_189_89 rfl
theorem k_189_90 : lk 189 90 = some (.iconst 1, 91, 0, 0, .int 1) := by decide +kernel
theorem x_189_90 : Tr sc d 189 (90, [l0, l1, l2, l3, l4, l5, l6, l7, l8], [.int i1, .int i0], h) Q = Tr sc d 189 (91, [l0, l1, l2, l3, l4, l5, l6, l7, l8], [.int 1, .int i1, .int i0], h) Q := t_go k_189_90 rfl
theorem k_189_91 : lk 189 91 = some (.iload_n 3, 92, 3, 0, .null) := by decide +kernel
theorem x_189_91 : Tr sc d 189 (91, [l0, l1, l2, some (.int x), l4, l5, l6, l7, l8], [.int i2, .int i1, .int i0], h) Q = Tr sc d 189 (92, [l0, l1, l2, some (.int x), l4, l5, l6, l7, l8], [.int x, .int i2, .int i1, .int i0], h) Q := t_iload_n k_189_91 rfl
theorem k_189_92 : lk 189 92 = some (.ishl, 93, 0, 0, .null) := by decide +kernel
theorem x_189_92 : Tr sc d 189 (92, [l0, l1, l2, l3, l4, l5, l6, l7, l8], [.int i3, .int i2, .int i1, .int i0], h) Q = Tr sc d 189 (93, [l0, l1, l2, l3, l4, l5, l6, l7, l8], [.int (i2 <<< (i3 &&& 31)), .int i1, .int i0], h) Q := t_go k_189_92 rfl
theorem k_189_93 : lk 189 93 = some (.iconst 1, 94, 0, 0, .int 1) := by decide +kernel
theorem x_189_93 : Tr sc d 189 (93, [l0, l1, l2, l3, l4, l5, l6, l7, l8], [.int i2, .int i1, .int i0], h) Q = Tr sc d 189 (94, [l0, l1, l2, l3, l4, l5, l6, l7, l8], [.int 1, .int i2, .int i1, .int i0], h) Q := t_go k_189_93 rfl
theorem k_189_94 : lk 189 94 = some (.isub, 95, 0, 0, .null) := by decide +kernel
theorem x_189_94 : Tr sc d 189 (94, [l0, l1, l2, l3, l4, l5, l6, l7, l8], [.int i3, .int i2, .int i1, .int i0], h) Q = Tr sc d 189 (95, [l0, l1, l2, l3, l4, l5, l6, l7, l8], [.int (i2 - i3), .int i1, .int i0], h) Q := t_go k_189_94 rfl
theorem k_189_95 : lk 189 95 = some (.invokestatic 144, 98, 156, 3, .null) := by decide +kernel
theorem x_189_95 : Tr sc (d + 1) 189 (95, [l0, l1, l2, l3, l4, l5, l6, l7, l8], [.int i2, .int i1, .int i0], h) Q = Tr sc d 156 (ent0 156 [.int i0, .int i1, .int i2] h) (fun z => Tr sc (d + 1) 189 (98, [l0, l1, l2, l3, l4, l5, l6, l7, l8], z.1.toList ++ [], z.2) Q) := t_cs (as := [.int i0, .int i1, .int i2]) (r := []) k_189_95 (by decide) rfl rfl (Nat.le_of_ble_eq_true rfl) (Nat.le_of_ble_eq_true rfl)
theorem k_189_98 : lk 189 98 = some (.ifCond .eq 7, 101, 105, 0, .null) := by decide +kernel
theorem x_189_98 : Tr sc d 189 (98, [l0, l1, l2, l3, l4, l5, l6, l7, l8], [.int i0], h) Q = if i0 = 0 then Tr sc d 189 (105, [l0, l1, l2, l3, l4, l5, l6, l7, l8], [], h) Q else Tr sc d 189 (101, [l0, l1, l2, l3, l4, l5, l6, l7, l8], [], h) Q := t_if k_189_98 rfl
theorem k_189_101 : lk 189 101 = some (.iconst 1, 102, 0, 0, .int 1) := by decide +kernel
theorem x_189_101 : Tr sc d 189 (101, [l0, l1, l2, l3, l4, l5, l6, l7, l8], [], h) Q = Tr sc d 189 (102, [l0, l1, l2, l3, l4, l5, l6, l7, l8], [.int 1], h) Q := t_go k_189_101 rfl
theorem k_189_102 : lk 189 102 = some (.goto 4, 105, 106, 0, .null) := by decide +kernel
theorem x_189_102 : Tr sc d 189 (102, [l0, l1, l2, l3, l4, l5, l6, l7, l8], [.int i0], h) Q = Tr sc d 189 (106, [l0, l1, l2, l3, l4, l5, l6, l7, l8], [.int i0], h) Q := t_go k_189_102 rfl
theorem k_189_105 : lk 189 105 = some (.iconst 0, 106, 0, 0, .int 0) := by decide +kernel
theorem x_189_105 : Tr sc d 189 (105, [l0, l1, l2, l3, l4, l5, l6, l7, l8], [], h) Q = Tr sc d 189 (106, [l0, l1, l2, l3, l4, l5, l6, l7, l8], [.int 0], h) Q := t_go k_189_105 rfl
theorem k_189_106 : lk 189 106 = some (.istore 4, 108, 4, 0, .null) := by decide +kernel
theorem x_189_106 : Tr sc d 189 (106, [l0, l1, l2, l3, l4, l5, l6, l7, l8], [.int i0], h) Q = Tr sc d 189 (108, [l0, l1, l2, cl2 l3, some (.int i0), l5, l6, l7, l8], [], h) Q := t_istore k_189_106 (Nat.le_of_ble_eq_true rfl)
theorem k_189_108 : lk 189 108 = some (.iconst 0, 109, 0, 0, .int 0) := by decide +kernel
theorem x_189_108 : Tr sc d 189 (108, [l0, l1, l2, l3, l4, l5, l6, l7, l8], [], h) Q = Tr sc d 189 (109, [l0, l1, l2, l3, l4, l5, l6, l7, l8], [.int 0], h) Q := t_go k_189_108 rfl
theorem k_189_109 : lk 189 109 = some (.istore 8, 111, 8, 0, .null) := by decide +kernel
theorem x_189_109 : Tr sc d 189 (109, [l0, l1, l2, l3, l4, l5, l6, l7, l8], [.int i0], h) Q = Tr sc d 189 (111, [l0, l1, l2, l3, l4, l5, l6, cl2 l7, some (.int i0)], [], h) Q := t_istore k_189_109 (Nat.le_of_ble_eq_true rfl)
theorem k_189_111 : lk 189 111 = some (.iload 8, 113, 8, 0, .null) := by decide +kernel
theorem x_189_111 : Tr sc d 189 (111, [l0, l1, l2, l3, l4, l5, l6, l7, some (.int x)], [], h) Q = Tr sc d 189 (113, [l0, l1, l2, l3, l4, l5, l6, l7, some (.int x)], [.int x], h) Q := t_iload k_189_111 rfl
theorem k_189_113 : lk 189 113 = some (.iload_n 3, 114, 3, 0, .null) := by decide +kernel
theorem x_189_113 : Tr sc d 189 (113, [l0, l1, l2, some (.int x), l4, l5, l6, l7, l8], [.int i0], h) Q = Tr sc d 189 (114, [l0, l1, l2, some (.int x), l4, l5, l6, l7, l8], [.int x, .int i0], h) Q := t_iload_n k_189_113 rfl
theorem k_189_114 : lk 189 114 = some (.if_icmp .ge 26, 117, 140, 0, .null) := by decide +kernel
theorem x_189_114 : Tr sc d 189 (114, [l0, l1, l2, l3, l4, l5, l6, l7, l8], [.int i1, .int i0], h) Q = if i1 ≤ i0 then Tr sc d 189 (140, [l0, l1, l2, l3, l4, l5, l6, l7, l8], [], h) Q else Tr sc d 189 (117, [l0, l1, l2, l3, l4, l5, l6, l7, l8], [], h) Q := t_if k_189_114 rfl
theorem k_189_117 : lk 189 117 = some (.iload 4, 119, 4, 0, .null) := by decide +kernel
theorem x_189_117 : Tr sc d 189 (117, [l0, l1, l2, l3, some (.int x), l5, l6, l7, l8], [], h) Q = Tr sc d 189 (119, [l0, l1, l2, l3, some (.int x), l5, l6, l7, l8], [.int x], h) Q := t_iload k_189_117 rfl
theorem k_189_119 : lk 189 119 = some (.ifCond .eq 21, 122, 140, 0, .null) := by decide +kernel
theorem x_189_119 : Tr sc d 189 (119, [l0, l1, l2, l3, l4, l5, l6, l7, l8], [.int i0], h) Q = if i0 = 0 then Tr sc d 189 (140, [l0, l1, l2, l3, l4, l5, l6, l7, l8], [], h) Q else Tr sc d 189 (122, [l0, l1, l2, l3, l4, l5, l6, l7, l8], [], h) Q := t_if k_189_119 rfl
theorem k_189_122 : lk 189 122 = some (.iload 5, 124, 5, 0, .null) := by decide +kernel
theorem x_189_122 : Tr sc d 189 (122, [l0, l1, l2, l3, l4, some (.int x), l6, l7, l8], [], h) Q = Tr sc d 189 (124, [l0, l1, l2, l3, l4, some (.int x), l6, l7, l8], [.int x], h) Q := t_iload k_189_122 rfl
theorem k_189_124 : lk 189 124 = some (.iload 7, 126, 7, 0, .null) := by decide +kernel
theorem x_189_124 : Tr sc d 189 (124, [l0, l1, l2, l3, l4, l5, l6, some (.int x), l8], [.int i0], h) Q = Tr sc d 189 (126, [l0, l1, l2, l3, l4, l5, l6, some (.int x), l8], [.int x, .int i0], h) Q := t_iload k_189_124 rfl
theorem k_189_126 : lk 189 126 = some (.iload 8, 128, 8, 0, .null) := by decide +kernel
theorem x_189_126 : Tr sc d 189 (126, [l0, l1, l2, l3, l4, l5, l6, l7, some (.int x)], [.int i1, .int i0], h) Q = Tr sc d 189 (128, [l0, l1, l2, l3, l4, l5, l6, l7, some (.int x)], [.int x, .int i1, .int i0], h) Q := t_iload k_189_126 rfl
theorem k_189_128 : lk 189 128 = some (.ishr, 129, 0, 0, .null) := by decide +kernel
theorem x_189_128 : Tr sc d 189 (128, [l0, l1, l2, l3, l4, l5, l6, l7, l8], [.int i2, .int i1, .int i0], h) Q = Tr sc d 189 (129, [l0, l1, l2, l3, l4, l5, l6, l7, l8], [.int (i1 >>> (i2 &&& 31)), .int i0], h) Q := t_go k_189_128 rfl
theorem k_189_129 : lk 189 129 = some (.iconst 1, 130, 0, 0, .int 1) := by decide +kernel
theorem x_189_129 : Tr sc d 189 (129, [l0, l1, l2, l3, l4, l5, l6, l7, l8], [.int i1, .int i0], h) Q = Tr sc d 189 (130, [l0, l1, l2, l3, l4, l5, l6, l7, l8], [.int 1, .int i1, .int i0], h) Q := t_go k_189_129 rfl
theorem k_189_130 : lk 189 130 = some (.iand, 131, 0, 0, .null) := by decide +kernel
theorem x_189_130 : Tr sc d 189 (130, [l0, l1, l2, l3, l4, l5, l6, l7, l8], [.int i2, .int i1, .int i0], h) Q = Tr sc d 189 (131, [l0, l1, l2, l3, l4, l5, l6, l7, l8], [.int (i1 &&& i2), .int i0], h) Q := t_go k_189_130 rfl
theorem k_189_131 : lk 189 131 = some (.iadd, 132, 0, 0, .null) := by decide +kernel
theorem x_189_131 : Tr sc d 189 (131, [l0, l1, l2, l3, l4, l5, l6, l7, l8], [.int i1, .int i0], h) Q = Tr sc d 189 (132, [l0, l1, l2, l3, l4, l5, l6, l7, l8], [.int (i0 + i1)], h) Q := t_go k_189_131 rfl
theorem k_189_132 : lk 189 132 = some (.istore 5, 134, 5, 0, .null) := by decide +kernel
theorem x_189_132 : Tr sc d 189 (132, [l0, l1, l2, l3, l4, l5, l6, l7, l8], [.int i0], h) Q = Tr sc d 189 (134, [l0, l1, l2, l3, cl2 l4, some (.int i0), l6, l7, l8], [], h) Q := t_istore k_189_132 (Nat.le_of_ble_eq_true rfl)
theorem k_189_134 : lk 189 134 = some (.iinc 8 1, 137, 8, 0, .int 1) := by decide +kernel
theorem x_189_134 : Tr sc d 189 (134, [l0, l1, l2, l3, l4, l5, l6, l7, some (.int x)], [], h) Q = Tr sc d 189 (137, [l0, l1, l2, l3, l4, l5, l6, cl2 l7, some (.int (x + 1))], [], h) Q := t_inc k_189_134 rfl (Nat.le_of_ble_eq_true rfl)
theorem k_189_137 : lk 189 137 = some (.goto (-26), 140, 111, 0, .null) := by decide +kernel
theorem x_189_137 : Tr sc d 189 (137, [l0, l1, l2, l3, l4, l5, l6, l7, l8], [], h) Q = Tr sc d 189 (111, [l0, l1, l2, l3, l4, l5, l6, l7, l8], [], h) Q := t_go k_189_137 rfl
theorem k_189_140 : lk 189 140 = some (.iinc 6 1, 143, 6, 0, .int 1) := by decide +kernel
theorem x_189_140 : Tr sc d 189 (140, [l0, l1, l2, l3, l4, l5, some (.int x), l7, l8], [], h) Q = Tr sc d 189 (143, [l0, l1, l2, l3, l4, cl2 l5, some (.int (x + 1)), l7, l8], [], h) Q := t_inc k_189_140 rfl (Nat.le_of_ble_eq_true rfl)
theorem k_189_143 : lk 189 143 = some (.goto (-81), 146, 62, 0, .null) := by decide +kernel
theorem x_189_143 : Tr sc d 189 (143, [l0, l1, l2, l3, l4, l5, l6, l7, l8], [], h) Q = Tr sc d 189 (62, [l0, l1, l2, l3, l4, l5, l6, l7, l8], [], h) Q := t_go k_189_143 rfl
theorem k_189_146 : lk 189 146 = some (.iload 4, 148, 4, 0, .null) := by decide +kernel
theorem x_189_146 : Tr sc d 189 (146, [l0, l1, l2, l3, some (.int x), l5, l6, l7, l8], [], h) Q = Tr sc d 189 (148, [l0, l1, l2, l3, some (.int x), l5, l6, l7, l8], [.int x], h) Q := t_iload k_189_146 rfl
theorem k_189_148 : lk 189 148 = some (.ifCond .eq 14, 151, 162, 0, .null) := by decide +kernel
theorem x_189_148 : Tr sc d 189 (148, [l0, l1, l2, l3, l4, l5, l6, l7, l8], [.int i0], h) Q = if i0 = 0 then Tr sc d 189 (162, [l0, l1, l2, l3, l4, l5, l6, l7, l8], [], h) Q else Tr sc d 189 (151, [l0, l1, l2, l3, l4, l5, l6, l7, l8], [], h) Q := t_if k_189_148 rfl
theorem k_189_151 : lk 189 151 = some (.iload 5, 153, 5, 0, .null) := by decide +kernel
theorem x_189_151 : Tr sc d 189 (151, [l0, l1, l2, l3, l4, some (.int x), l6, l7, l8], [], h) Q = Tr sc d 189 (153, [l0, l1, l2, l3, l4, some (.int x), l6, l7, l8], [.int x], h) Q := t_iload k_189_151 rfl
theorem k_189_153 : lk 189 153 = some (.iconst 1, 154, 0, 0, .int 1) := by decide +kernel
theorem x_189_153 : Tr sc d 189 (153, [l0, l1, l2, l3, l4, l5, l6, l7, l8], [.int i0], h) Q = Tr sc d 189 (154, [l0, l1, l2, l3, l4, l5, l6, l7, l8], [.int 1, .int i0], h) Q := t_go k_189_153 rfl
theorem k_189_154 : lk 189 154 = some (.bipush 6, 156, 0, 0, .int 6) := by decide +kernel
theorem x_189_154 : Tr sc d 189 (154, [l0, l1, l2, l3, l4, l5, l6, l7, l8], [.int i1, .int i0], h) Q = Tr sc d 189 (156, [l0, l1, l2, l3, l4, l5, l6, l7, l8], [.int 6, .int i1, .int i0], h) Q := t_go k_189_154 rfl
theorem k_189_156 : lk 189 156 = some (.invokestatic 144, 159, 156, 3, .null) := by decide +kernel
theorem x_189_156 : Tr sc (d + 1) 189 (156, [l0, l1, l2, l3, l4, l5, l6, l7, l8], [.int i2, .int i1, .int i0], h) Q = Tr sc d 156 (ent0 156 [.int i0, .int i1, .int i2] h) (fun z => Tr sc (d + 1) 189 (159, [l0, l1, l2, l3, l4, l5, l6, l7, l8], z.1.toList ++ [], z.2) Q) := t_cs (as := [.int i0, .int i1, .int i2]) (r := []) k_189_156 (by decide) rfl rfl (Nat.le_of_ble_eq_true rfl) (Nat.le_of_ble_eq_true rfl)
theorem k_189_159 : lk 189 159 = some (.ifCond .ne 9, 162, 168, 0, .null) := by decide +kernel
theorem x_189_159 : Tr sc d 189 (159, [l0, l1, l2, l3, l4, l5, l6, l7, l8], [.int i0], h) Q = if i0 = 0 then Tr sc d 189 (162, [l0, l1, l2, l3, l4, l5, l6, l7, l8], [], h) Q else Tr sc d 189 (168, [l0, l1, l2, l3, l4, l5, l6, l7, l8], [], h) Q := t_if k_189_159 rfl
theorem k_189_162 : lk 189 162 = some (.aload_n 0, 163, 0, 0, .null) := by decide +kernel
theorem x_189_162 : Tr sc d 189 (162, [some (.ref xk), l1, l2, l3, l4, l5, l6, l7, l8], [], h) Q = Tr sc d 189 (163, [some (.ref xk), l1, l2, l3, l4, l5, l6, l7, l8], [.ref xk], h) Q := t_aload_n k_189_162 rfl
theorem k_189_163 : lk 189 163 = some (.iconst 3, 164, 0, 0, .int 3) := by decide +kernel
theorem x_189_163 : Tr sc d 189 (163, [l0, l1, l2, l3, l4, l5, l6, l7, l8], [.ref k0], h) Q = Tr sc d 189 (164, [l0, l1, l2, l3, l4, l5, l6, l7, l8], [.int 3, .ref k0], h) Q := t_go k_189_163 rfl
theorem k_189_164 : lk 189 164 = some (.invokevirtual 152, 167, 157, 1, .null) := by decide +kernel
theorem x_189_164 : Tr sc (d + 1) 189 (164, [l0, l1, l2, l3, l4, l5, l6, l7, l8], [.int i1, .ref k0], h) Q = (okp h k0 10 = true ∧ Tr sc d 157 (ent0 157 [.ref k0, .int i1] h) (fun z => Tr sc (d + 1) 189 (167, [l0, l1, l2, l3, l4, l5, l6, l7, l8], z.1.toList ++ [], z.2) Q)) := t_cv (as := [.int i1]) (r := []) k_189_164 rfl rfl (Nat.le_of_ble_eq_true rfl) (Nat.le_of_ble_eq_true rfl) (Nat.le_of_ble_eq_true rfl)
theorem k_189_167 : lk 189 167 = some (.ireturn, 168, 0, 0, .null) := by decide +kernel
theorem x_189_167 : Tr sc d 189 (167, [l0, l1, l2, l3, l4, l5, l6, l7, l8], [.int i0], h) Q = Q (some (.int i0), h) := t_ret k_189_167 (by rw [r_189]; rfl)
theorem k_189_168 : lk 189 168 = some (.aload_n 0, 169, 0, 0, .null) := by decide +kernel
theorem x_189_168 : Tr sc d 189 (168, [some (.ref xk), l1, l2, l3, l4, l5, l6, l7, l8], [], h) Q = Tr sc d 189 (169, [some (.ref xk), l1, l2, l3, l4, l5, l6, l7, l8], [.ref xk], h) Q := t_aload_n k_189_168 rfl
theorem k_189_169 : lk 189 169 = some (.iload_n 3, 170, 3, 0, .null) := by decide +kernel
theorem x_189_169 : Tr sc d 189 (169, [l0, l1, l2, some (.int x), l4, l5, l6, l7, l8], [.ref k0], h) Q = Tr sc d 189 (170, [l0, l1, l2, some (.int x), l4, l5, l6, l7, l8], [.int x, .ref k0], h) Q := t_iload_n k_189_169 rfl
theorem k_189_170 : lk 189 170 = some (.putfield 181, 173, 10, 11, .int 0) := by decide +kernel
theorem x_189_170 : Tr sc d 189 (170, [l0, l1, l2, l3, l4, l5, l6, l7, l8], [.int i1, .ref k0], h) Q = (okp h k0 10 = true ∧ Tr sc d 189 (173, [l0, l1, l2, l3, l4, l5, l6, l7, l8], [], (sI h k0 11 i1)) Q) := t_gd k_189_170 rfl
theorem k_189_173 : lk 189 173 = some (.aload_n 0, 174, 0, 0, .null) := by decide +kernel
theorem x_189_173 : Tr sc d 189 (173, [some (.ref xk), l1, l2, l3, l4, l5, l6, l7, l8], [], h) Q = Tr sc d 189 (174, [some (.ref xk), l1, l2, l3, l4, l5, l6, l7, l8], [.ref xk], h) Q := t_aload_n k_189_173 rfl
theorem k_189_174 : lk 189 174 = some (.iconst 0, 175, 0, 0, .int 0) := by decide +kernel
theorem x_189_174 : Tr sc d 189 (174, [l0, l1, l2, l3, l4, l5, l6, l7, l8], [.ref k0], h) Q = Tr sc d 189 (175, [l0, l1, l2, l3, l4, l5, l6, l7, l8], [.int 0, .ref k0], h) Q := t_go k_189_174 rfl
theorem k_189_175 : lk 189 175 = some (.putfield 178, 178, 10, 12, .int 0) := by decide +kernel
theorem x_189_175 : Tr sc d 189 (175, [l0, l1, l2, l3, l4, l5, l6, l7, l8], [.int i1, .ref k0], h) Q = (okp h k0 10 = true ∧ Tr sc d 189 (178, [l0, l1, l2, l3, l4, l5, l6, l7, l8], [], (sI h k0 12 i1)) Q) := t_gd k_189_175 rfl
theorem k_189_178 : lk 189 178 = some (.iconst 0, 179, 0, 0, .int 0) := by decide +kernel
theorem x_189_178 : Tr sc d 189 (178, [l0, l1, l2, l3, l4, l5, l6, l7, l8], [], h) Q = Tr sc d 189 (179, [l0, l1, l2, l3, l4, l5, l6, l7, l8], [.int 0], h) Q := t_go k_189_178 rfl
theorem k_189_179 : lk 189 179 = some (.istore 6, 181, 6, 0, .null) := by decide +kernel
theorem x_189_179 : Tr sc d 189 (179, [l0, l1, l2, l3, l4, l5, l6, l7, l8], [.int i0], h) Q = Tr sc d 189 (181, [l0, l1, l2, l3, l4, cl2 l5, some (.int i0), l7, l8], [], h) Q := t_istore k_189_179 (Nat.le_of_ble_eq_true rfl)
theorem k_189_181 : lk 189 181 = some (.iload 6, 183, 6, 0, .null) := by decide +kernel
theorem x_189_181 : Tr sc d 189 (181, [l0, l1, l2, l3, l4, l5, some (.int x), l7, l8], [], h) Q = Tr sc d 189 (183, [l0, l1, l2, l3, l4, l5, some (.int x), l7, l8], [.int x], h) Q := t_iload k_189_181 rfl
theorem k_189_183 : lk 189 183 = some (.iload_n 3, 184, 3, 0, .null) := by decide +kernel
theorem x_189_183 : Tr sc d 189 (183, [l0, l1, l2, some (.int x), l4, l5, l6, l7, l8], [.int i0], h) Q = Tr sc d 189 (184, [l0, l1, l2, some (.int x), l4, l5, l6, l7, l8], [.int x, .int i0], h) Q := t_iload_n k_189_183 rfl
theorem k_189_184 : lk 189 184 = some (.if_icmp .ge 97, 187, 281, 0, .null) := by decide +kernel
theorem x_189_184 : Tr sc d 189 (184, [l0, l1, l2, l3, l4, l5, l6, l7, l8], [.int i1, .int i0], h) Q = if i1 ≤ i0 then Tr sc d 189 (281, [l0, l1, l2, l3, l4, l5, l6, l7, l8], [], h) Q else Tr sc d 189 (187, [l0, l1, l2, l3, l4, l5, l6, l7, l8], [], h) Q := t_if k_189_184 rfl
theorem k_189_187 : lk 189 187 = some (.iconst 0, 188, 0, 0, .int 0) := by decide +kernel
theorem x_189_187 : Tr sc d 189 (187, [l0, l1, l2, l3, l4, l5, l6, l7, l8], [], h) Q = Tr sc d 189 (188, [l0, l1, l2, l3, l4, l5, l6, l7, l8], [.int 0], h) Q := t_go k_189_187 rfl
theorem k_189_188 : lk 189 188 = some (.istore 7, 190, 7, 0, .null) := by decide +kernel
theorem x_189_188 : Tr sc d 189 (188, [l0, l1, l2, l3, l4, l5, l6, l7, l8], [.int i0], h) Q = Tr sc d 189 (190, [l0, l1, l2, l3, l4, l5, cl2 l6, some (.int i0), l8], [], h) Q := t_istore k_189_188 (Nat.le_of_ble_eq_true rfl)
theorem k_189_190 : lk 189 190 = some (.iload 7, 192, 7, 0, .null) := by decide +kernel
theorem x_189_190 : Tr sc d 189 (190, [l0, l1, l2, l3, l4, l5, l6, some (.int x), l8], [], h) Q = Tr sc d 189 (192, [l0, l1, l2, l3, l4, l5, l6, some (.int x), l8], [.int x], h) Q := t_iload k_189_190 rfl
theorem k_189_192 : lk 189 192 = some (.iload_n 3, 193, 3, 0, .null) := by decide +kernel
theorem x_189_192 : Tr sc d 189 (192, [l0, l1, l2, some (.int x), l4, l5, l6, l7, l8], [.int i0], h) Q = Tr sc d 189 (193, [l0, l1, l2, some (.int x), l4, l5, l6, l7, l8], [.int x, .int i0], h) Q := t_iload_n k_189_192 rfl
theorem k_189_193 : lk 189 193 = some (.if_icmp .ge 82, 196, 275, 0, .null) := by decide +kernel
theorem x_189_193 : Tr sc d 189 (193, [l0, l1, l2, l3, l4, l5, l6, l7, l8], [.int i1, .int i0], h) Q = if i1 ≤ i0 then Tr sc d 189 (275, [l0, l1, l2, l3, l4, l5, l6, l7, l8], [], h) Q else Tr sc d 189 (196, [l0, l1, l2, l3, l4, l5, l6, l7, l8], [], h) Q := t_if k_189_193 rfl
theorem k_189_196 : lk 189 196 = some (.aload_n 0, 197, 0, 0, .null) := by decide +kernel
theorem x_189_196 : Tr sc d 189 (196, [some (.ref xk), l1, l2, l3, l4, l5, l6, l7, l8], [], h) Q = Tr sc d 189 (197, [some (.ref xk), l1, l2, l3, l4, l5, l6, l7, l8], [.ref xk], h) Q := t_aload_n k_189_196 rfl
theorem k_189_197 : lk 189 197 = some (.getfield 20, 200, 10, 7, .null) := by decide +kernel
theorem x_189_197 : Tr sc d 189 (197, [l0, l1, l2, l3, l4, l5, l6, l7, l8], [.ref k0], h) Q = (okp h k0 10 = true ∧ ∃ q, hR h k0 7 = some q ∧ Tr sc d 189 (200, [l0, l1, l2, l3, l4, l5, l6, l7, l8], [.ref q], h) Q) := t_getr k_189_197
theorem k_189_200 : lk 189 200 = some (.bipush 40, 202, 0, 0, .int 40) := by decide +kernel
theorem x_189_200 : Tr sc d 189 (200, [l0, l1, l2, l3, l4, l5, l6, l7, l8], [.ref k0], h) Q = Tr sc d 189 (202, [l0, l1, l2, l3, l4, l5, l6, l7, l8], [.int 40, .ref k0], h) Q := t_go k_189_200 rfl
theorem k_189_202 : lk 189 202 = some (.iload_n 2, 203, 2, 0, .null) := by decide +kernel
theorem x_189_202 : Tr sc d 189 (202, [l0, l1, some (.int x), l3, l4, l5, l6, l7, l8], [.int i1, .ref k0], h) Q = Tr sc d 189 (203, [l0, l1, some (.int x), l3, l4, l5, l6, l7, l8], [.int x, .int i1, .ref k0], h) Q := t_iload_n k_189_202 rfl
theorem k_189_203 : lk 189 203 = some (.imul, 204, 0, 0, .null) := by decide +kernel
theorem x_189_203 : Tr sc d 189 (203, [l0, l1, l2, l3, l4, l5, l6, l7, l8], [.int i2, .int i1, .ref k0], h) Q = Tr sc d 189 (204, [l0, l1, l2, l3, l4, l5, l6, l7, l8], [.int (i1 * i2), .ref k0], h) Q := t_go k_189_203 rfl
theorem k_189_204 : lk 189 204 = some (.iload 6, 206, 6, 0, .null) := by decide +kernel
theorem x_189_204 : Tr sc d 189 (204, [l0, l1, l2, l3, l4, l5, some (.int x), l7, l8], [.int i1, .ref k0], h) Q = Tr sc d 189 (206, [l0, l1, l2, l3, l4, l5, some (.int x), l7, l8], [.int x, .int i1, .ref k0], h) Q := t_iload k_189_204 rfl
theorem k_189_206 : lk 189 206 = some (.iadd, 207, 0, 0, .null) := by decide +kernel
theorem x_189_206 : Tr sc d 189 (206, [l0, l1, l2, l3, l4, l5, l6, l7, l8], [.int i2, .int i1, .ref k0], h) Q = Tr sc d 189 (207, [l0, l1, l2, l3, l4, l5, l6, l7, l8], [.int (i1 + i2), .ref k0], h) Q := t_go k_189_206 rfl
theorem k_189_207 : lk 189 207 = some (.iaload, 208, 0, 0, .null) := by decide +kernel
theorem x_189_207 : Tr sc d 189 (207, [l0, l1, l2, l3, l4, l5, l6, l7, l8], [.int i1, .ref k0], h) Q = (iOk sc h k0 i1 ∧ Tr sc d 189 (208, [l0, l1, l2, l3, l4, l5, l6, l7, l8], [.int (iRd sc h k0 i1)], h) Q) := t_iald k_189_207
theorem k_189_208 : lk 189 208 = some (.iload 7, 210, 7, 0, .null) := by decide +kernel
theorem x_189_208 : Tr sc d 189 (208, [l0, l1, l2, l3, l4, l5, l6, some (.int x), l8], [.int i0], h) Q = Tr sc d 189 (210, [l0, l1, l2, l3, l4, l5, l6, some (.int x), l8], [.int x, .int i0], h) Q := t_iload k_189_208 rfl
theorem k_189_210 : lk 189 210 = some (.ishr, 211, 0, 0, .null) := by decide +kernel
theorem x_189_210 : Tr sc d 189 (210, [l0, l1, l2, l3, l4, l5, l6, l7, l8], [.int i1, .int i0], h) Q = Tr sc d 189 (211, [l0, l1, l2, l3, l4, l5, l6, l7, l8], [.int (i0 >>> (i1 &&& 31))], h) Q := t_go k_189_210 rfl
theorem k_189_211 : lk 189 211 = some (.iconst 1, 212, 0, 0, .int 1) := by decide +kernel
theorem x_189_211 : Tr sc d 189 (211, [l0, l1, l2, l3, l4, l5, l6, l7, l8], [.int i0], h) Q = Tr sc d 189 (212, [l0, l1, l2, l3, l4, l5, l6, l7, l8], [.int 1, .int i0], h) Q := t_go k_189_211 rfl
theorem k_189_212 : lk 189 212 = some (.iand, 213, 0, 0, .null) := by decide +kernel
theorem x_189_212 : Tr sc d 189 (212, [l0, l1, l2, l3, l4, l5, l6, l7, l8], [.int i1, .int i0], h) Q = Tr sc d 189 (213, [l0, l1, l2, l3, l4, l5, l6, l7, l8], [.int (i0 &&& i1)], h) Q := t_go k_189_212 rfl
theorem k_189_213 : lk 189 213 = some (.iconst 1, 214, 0, 0, .int 1) := by decide +kernel
theorem x_189_213 : Tr sc d 189 (213, [l0, l1, l2, l3, l4, l5, l6, l7, l8], [.int i0], h) Q = Tr sc d 189 (214, [l0, l1, l2, l3, l4, l5, l6, l7, l8], [.int 1, .int i0], h) Q := t_go k_189_213 rfl
theorem k_189_214 : lk 189 214 = some (.if_icmp .ne 55, 217, 269, 0, .null) := by decide +kernel
theorem x_189_214 : Tr sc d 189 (214, [l0, l1, l2, l3, l4, l5, l6, l7, l8], [.int i1, .int i0], h) Q = if i0 = i1 then Tr sc d 189 (217, [l0, l1, l2, l3, l4, l5, l6, l7, l8], [], h) Q else Tr sc d 189 (269, [l0, l1, l2, l3, l4, l5, l6, l7, l8], [], h) Q := t_if k_189_214 rfl
theorem k_189_217 : lk 189 217 = some (.aload_n 0, 218, 0, 0, .null) := by decide +kernel
theorem x_189_217 : Tr sc d 189 (217, [some (.ref xk), l1, l2, l3, l4, l5, l6, l7, l8], [], h) Q = Tr sc d 189 (218, [some (.ref xk), l1, l2, l3, l4, l5, l6, l7, l8], [.ref xk], h) Q := t_aload_n k_189_217 rfl
theorem k_189_218 : lk 189 218 = some (.getfield 32, 221, 10, 13, .null) := by decide +kernel
theorem x_189_218 : Tr sc d 189 (218, [l0, l1, l2, l3, l4, l5, l6, l7, l8], [.ref k0], h) Q = (okp h k0 10 = true ∧ ∃ q, hR h k0 13 = some q ∧ Tr sc d 189 (221, [l0, l1, l2, l3, l4, l5, l6, l7, l8], [.ref q], h) Q) := t_getr k_189_218
theorem k_189_221 : lk 189 221 = some (.iconst 3, 222, 0, 0, .int 3) := by decide +kernel
theorem x_189_221 : Tr sc d 189 (221, [l0, l1, l2, l3, l4, l5, l6, l7, l8], [.ref k0], h) Q = Tr sc d 189 (222, [l0, l1, l2, l3, l4, l5, l6, l7, l8], [.int 3, .ref k0], h) Q := t_go k_189_221 rfl
theorem k_189_222 : lk 189 222 = some (.aload_n 0, 223, 0, 0, .null) := by decide +kernel
theorem x_189_222 : Tr sc d 189 (222, [some (.ref xk), l1, l2, l3, l4, l5, l6, l7, l8], [.int i1, .ref k0], h) Q = Tr sc d 189 (223, [some (.ref xk), l1, l2, l3, l4, l5, l6, l7, l8], [.ref xk, .int i1, .ref k0], h) Q := t_aload_n k_189_222 rfl
theorem k_189_223 : lk 189 223 = some (.getfield 178, 226, 10, 12, .int 0) := by decide +kernel
theorem x_189_223 : Tr sc d 189 (223, [l0, l1, l2, l3, l4, l5, l6, l7, l8], [.ref k2, .int i1, .ref k0], h) Q = (okp h k2 10 = true ∧ Tr sc d 189 (226, [l0, l1, l2, l3, l4, l5, l6, l7, l8], [.int (hI h k2 12), .int i1, .ref k0], h) Q) := t_gd k_189_223 rfl
theorem k_189_226 : lk 189 226 = some (.imul, 227, 0, 0, .null) := by decide +kernel
theorem x_189_226 : Tr sc d 189 (226, [l0, l1, l2, l3, l4, l5, l6, l7, l8], [.int i2, .int i1, .ref k0], h) Q = Tr sc d 189 (227, [l0, l1, l2, l3, l4, l5, l6, l7, l8], [.int (i1 * i2), .ref k0], h) Q := t_go k_189_226 rfl
theorem k_189_227 : lk 189 227 = some (.iconst 0, 228, 0, 0, .int 0) := by decide +kernel
theorem x_189_227 : Tr sc d 189 (227, [l0, l1, l2, l3, l4, l5, l6, l7, l8], [.int i1, .ref k0], h) Q = Tr sc d 189 (228, [l0, l1, l2, l3, l4, l5, l6, l7, l8], [.int 0, .int i1, .ref k0], h) Q := t_go k_189_227 rfl
theorem k_189_228 : lk 189 228 = some (.iastore, 229, 0, 0, .null) := by decide +kernel
theorem x_189_228 : Tr sc d 189 (228, [l0, l1, l2, l3, l4, l5, l6, l7, l8], [.int i2, .int i1, .ref k0], h) Q = ((okp h k0 11 && inb i1 (LN k0)) = true ∧ Tr sc d 189 (229, [l0, l1, l2, l3, l4, l5, l6, l7, l8], [], (sI h k0 i1.toNatClampNeg i2)) Q) := t_gd k_189_228 rfl
theorem k_189_229 : lk 189 229 = some (.aload_n 0, 230, 0, 0, .null) := by decide +kernel
theorem x_189_229 : Tr sc d 189 (229, [some (.ref xk), l1, l2, l3, l4, l5, l6, l7, l8], [], h) Q = Tr sc d 189 (230, [some (.ref xk), l1, l2, l3, l4, l5, l6, l7, l8], [.ref xk], h) Q := t_aload_n k_189_229 rfl
theorem k_189_230 : lk 189 230 = some (.getfield 32, 233, 10, 13, .null) := by decide +kernel
theorem x_189_230 : Tr sc d 189 (230, [l0, l1, l2, l3, l4, l5, l6, l7, l8], [.ref k0], h) Q = (okp h k0 10 = true ∧ ∃ q, hR h k0 13 = some q ∧ Tr sc d 189 (233, [l0, l1, l2, l3, l4, l5, l6, l7, l8], [.ref q], h) Q) := t_getr k_189_230
theorem k_189_233 : lk 189 233 = some (.iconst 3, 234, 0, 0, .int 3) := by decide +kernel
theorem x_189_233 : Tr sc d 189 (233, [l0, l1, l2, l3, l4, l5, l6, l7, l8], [.ref k0], h) Q = Tr sc d 189 (234, [l0, l1, l2, l3, l4, l5, l6, l7, l8], [.int 3, .ref k0], h) Q := t_go k_189_233 rfl
theorem k_189_234 : lk 189 234 = some (.aload_n 0, 235, 0, 0, .null) := by decide +kernel
theorem x_189_234 : Tr sc d 189 (234, [some (.ref xk), l1, l2, l3, l4, l5, l6, l7, l8], [.int i1, .ref k0], h) Q = Tr sc d 189 (235, [some (.ref xk), l1, l2, l3, l4, l5, l6, l7, l8], [.ref xk, .int i1, .ref k0], h) Q := t_aload_n k_189_234 rfl
theorem k_189_235 : lk 189 235 = some (.getfield 178, 238, 10, 12, .int 0) := by decide +kernel
theorem x_189_235 : Tr sc d 189 (235, [l0, l1, l2, l3, l4, l5, l6, l7, l8], [.ref k2, .int i1, .ref k0], h) Q = (okp h k2 10 = true ∧ Tr sc d 189 (238, [l0, l1, l2, l3, l4, l5, l6, l7, l8], [.int (hI h k2 12), .int i1, .ref k0], h) Q) := t_gd k_189_235 rfl
theorem k_189_238 : lk 189 238 = some (.imul, 239, 0, 0, .null) := by decide +kernel
theorem x_189_238 : Tr sc d 189 (238, [l0, l1, l2, l3, l4, l5, l6, l7, l8], [.int i2, .int i1, .ref k0], h) Q = Tr sc d 189 (239, [l0, l1, l2, l3, l4, l5, l6, l7, l8], [.int (i1 * i2), .ref k0], h) Q := t_go k_189_238 rfl
theorem k_189_239 : lk 189 239 = some (.iconst 1, 240, 0, 0, .int 1) := by decide +kernel
theorem x_189_239 : Tr sc d 189 (239, [l0, l1, l2, l3, l4, l5, l6, l7, l8], [.int i1, .ref k0], h) Q = Tr sc d 189 (240, [l0, l1, l2, l3, l4, l5, l6, l7, l8], [.int 1, .int i1, .ref k0], h) Q := t_go k_189_239 rfl
theorem k_189_240 : lk 189 240 = some (.iadd, 241, 0, 0, .null) := by decide +kernel
theorem x_189_240 : Tr sc d 189 (240, [l0, l1, l2, l3, l4, l5, l6, l7, l8], [.int i2, .int i1, .ref k0], h) Q = Tr sc d 189 (241, [l0, l1, l2, l3, l4, l5, l6, l7, l8], [.int (i1 + i2), .ref k0], h) Q := t_go k_189_240 rfl
theorem k_189_241 : lk 189 241 = some (.iload 7, 243, 7, 0, .null) := by decide +kernel
theorem x_189_241 : Tr sc d 189 (241, [l0, l1, l2, l3, l4, l5, l6, some (.int x), l8], [.int i1, .ref k0], h) Q = Tr sc d 189 (243, [l0, l1, l2, l3, l4, l5, l6, some (.int x), l8], [.int x, .int i1, .ref k0], h) Q := t_iload k_189_241 rfl
theorem k_189_243 : lk 189 243 = some (.iastore, 244, 0, 0, .null) := by decide +kernel
theorem x_189_243 : Tr sc d 189 (243, [l0, l1, l2, l3, l4, l5, l6, l7, l8], [.int i2, .int i1, .ref k0], h) Q = ((okp h k0 11 && inb i1 (LN k0)) = true ∧ Tr sc d 189 (244, [l0, l1, l2, l3, l4, l5, l6, l7, l8], [], (sI h k0 i1.toNatClampNeg i2)) Q) := t_gd k_189_243 rfl
theorem k_189_244 : lk 189 244 = some (.aload_n 0, 245, 0, 0, .null) := by decide +kernel
theorem x_189_244 : Tr sc d 189 (244, [some (.ref xk), l1, l2, l3, l4, l5, l6, l7, l8], [], h) Q = Tr sc d 189 (245, [some (.ref xk), l1, l2, l3, l4, l5, l6, l7, l8], [.ref xk], h) Q := t_aload_n k_189_244 rfl
theorem k_189_245 : lk 189 245 = some (.getfield 32, 248, 10, 13, .null) := by decide +kernel
theorem x_189_245 : Tr sc d 189 (245, [l0, l1, l2, l3, l4, l5, l6, l7, l8], [.ref k0], h) Q = (okp h k0 10 = true ∧ ∃ q, hR h k0 13 = some q ∧ Tr sc d 189 (248, [l0, l1, l2, l3, l4, l5, l6, l7, l8], [.ref q], h) Q) := t_getr k_189_245
theorem k_189_248 : lk 189 248 = some (.iconst 3, 249, 0, 0, .int 3) := by decide +kernel
theorem x_189_248 : Tr sc d 189 (248, [l0, l1, l2, l3, l4, l5, l6, l7, l8], [.ref k0], h) Q = Tr sc d 189 (249, [l0, l1, l2, l3, l4, l5, l6, l7, l8], [.int 3, .ref k0], h) Q := t_go k_189_248 rfl
theorem k_189_249 : lk 189 249 = some (.aload_n 0, 250, 0, 0, .null) := by decide +kernel
theorem x_189_249 : Tr sc d 189 (249, [some (.ref xk), l1, l2, l3, l4, l5, l6, l7, l8], [.int i1, .ref k0], h) Q = Tr sc d 189 (250, [some (.ref xk), l1, l2, l3, l4, l5, l6, l7, l8], [.ref xk, .int i1, .ref k0], h) Q := t_aload_n k_189_249 rfl
theorem k_189_250 : lk 189 250 = some (.getfield 178, 253, 10, 12, .int 0) := by decide +kernel
theorem x_189_250 : Tr sc d 189 (250, [l0, l1, l2, l3, l4, l5, l6, l7, l8], [.ref k2, .int i1, .ref k0], h) Q = (okp h k2 10 = true ∧ Tr sc d 189 (253, [l0, l1, l2, l3, l4, l5, l6, l7, l8], [.int (hI h k2 12), .int i1, .ref k0], h) Q) := t_gd k_189_250 rfl
theorem k_189_253 : lk 189 253 = some (.imul, 254, 0, 0, .null) := by decide +kernel
theorem x_189_253 : Tr sc d 189 (253, [l0, l1, l2, l3, l4, l5, l6, l7, l8], [.int i2, .int i1, .ref k0], h) Q = Tr sc d 189 (254, [l0, l1, l2, l3, l4, l5, l6, l7, l8], [.int (i1 * i2), .ref k0], h) Q := t_go k_189_253 rfl
theorem k_189_254 : lk 189 254 = some (.iconst 2, 255, 0, 0, .int 2) := by decide +kernel
theorem x_189_254 : Tr sc d 189 (254, [l0, l1, l2, l3, l4, l5, l6, l7, l8], [.int i1, .ref k0], h) Q = Tr sc d 189 (255, [l0, l1, l2, l3, l4, l5, l6, l7, l8], [.int 2, .int i1, .ref k0], h) Q := t_go k_189_254 rfl
theorem k_189_255 : lk 189 255 = some (.iadd, 256, 0, 0, .null) := by decide +kernel
theorem x_189_255 : Tr sc d 189 (255, [l0, l1, l2, l3, l4, l5, l6, l7, l8], [.int i2, .int i1, .ref k0], h) Q = Tr sc d 189 (256, [l0, l1, l2, l3, l4, l5, l6, l7, l8], [.int (i1 + i2), .ref k0], h) Q := t_go k_189_255 rfl
theorem k_189_256 : lk 189 256 = some (.iload 6, 258, 6, 0, .null) := by decide +kernel
theorem x_189_256 : Tr sc d 189 (256, [l0, l1, l2, l3, l4, l5, some (.int x), l7, l8], [.int i1, .ref k0], h) Q = Tr sc d 189 (258, [l0, l1, l2, l3, l4, l5, some (.int x), l7, l8], [.int x, .int i1, .ref k0], h) Q := t_iload k_189_256 rfl
theorem k_189_258 : lk 189 258 = some (.iastore, 259, 0, 0, .null) := by decide +kernel
theorem x_189_258 : Tr sc d 189 (258, [l0, l1, l2, l3, l4, l5, l6, l7, l8], [.int i2, .int i1, .ref k0], h) Q = ((okp h k0 11 && inb i1 (LN k0)) = true ∧ Tr sc d 189 (259, [l0, l1, l2, l3, l4, l5, l6, l7, l8], [], (sI h k0 i1.toNatClampNeg i2)) Q) := t_gd k_189_258 rfl
theorem k_189_259 : lk 189 259 = some (.aload_n 0, 260, 0, 0, .null) := by decide +kernel
theorem x_189_259 : Tr sc d 189 (259, [some (.ref xk), l1, l2, l3, l4, l5, l6, l7, l8], [], h) Q = Tr sc d 189 (260, [some (.ref xk), l1, l2, l3, l4, l5, l6, l7, l8], [.ref xk], h) Q := t_aload_n k_189_259 rfl
theorem k_189_260 : lk 189 260 = some (.dup, 261, 0, 0, .null) := by decide +kernel
theorem x_189_260 : Tr sc d 189 (260, [l0, l1, l2, l3, l4, l5, l6, l7, l8], [.ref k0], h) Q = Tr sc d 189 (261, [l0, l1, l2, l3, l4, l5, l6, l7, l8], [.ref k0, .ref k0], h) Q := t_go k_189_260 rfl
theorem k_189_261 : lk 189 261 = some (.getfield 178, 264, 10, 12, .int 0) := by decide +kernel
theorem x_189_261 : Tr sc d 189 (261, [l0, l1, l2, l3, l4, l5, l6, l7, l8], [.ref k1, .ref k0], h) Q = (okp h k1 10 = true ∧ Tr sc d 189 (264, [l0, l1, l2, l3, l4, l5, l6, l7, l8], [.int (hI h k1 12), .ref k0], h) Q) := t_gd k_189_261 rfl
theorem k_189_264 : lk 189 264 = some (.iconst 1, 265, 0, 0, .int 1) := by decide +kernel
theorem x_189_264 : Tr sc d 189 (264, [l0, l1, l2, l3, l4, l5, l6, l7, l8], [.int i1, .ref k0], h) Q = Tr sc d 189 (265, [l0, l1, l2, l3, l4, l5, l6, l7, l8], [.int 1, .int i1, .ref k0], h) Q := t_go k_189_264 rfl
theorem k_189_265 : lk 189 265 = some (.iadd, 266, 0, 0, .null) := by decide +kernel
theorem x_189_265 : Tr sc d 189 (265, [l0, l1, l2, l3, l4, l5, l6, l7, l8], [.int i2, .int i1, .ref k0], h) Q = Tr sc d 189 (266, [l0, l1, l2, l3, l4, l5, l6, l7, l8], [.int (i1 + i2), .ref k0], h) Q := t_go k_189_265 rfl
theorem k_189_266 : lk 189 266 = some (.putfield 178, 269, 10, 12, .int 0) := by decide +kernel
theorem x_189_266 : Tr sc d 189 (266, [l0, l1, l2, l3, l4, l5, l6, l7, l8], [.int i1, .ref k0], h) Q = (okp h k0 10 = true ∧ Tr sc d 189 (269, [l0, l1, l2, l3, l4, l5, l6, l7, l8], [], (sI h k0 12 i1)) Q) := t_gd k_189_266 rfl
theorem k_189_269 : lk 189 269 = some (.iinc 7 1, 272, 7, 0, .int 1) := by decide +kernel
theorem x_189_269 : Tr sc d 189 (269, [l0, l1, l2, l3, l4, l5, l6, some (.int x), l8], [], h) Q = Tr sc d 189 (272, [l0, l1, l2, l3, l4, l5, cl2 l6, some (.int (x + 1)), l8], [], h) Q := t_inc k_189_269 rfl (Nat.le_of_ble_eq_true rfl)
theorem k_189_272 : lk 189 272 = some (.goto (-82), 275, 190, 0, .null) := by decide +kernel
theorem x_189_272 : Tr sc d 189 (272, [l0, l1, l2, l3, l4, l5, l6, l7, l8], [], h) Q = Tr sc d 189 (190, [l0, l1, l2, l3, l4, l5, l6, l7, l8], [], h) Q := t_go k_189_272 rfl
theorem k_189_275 : lk 189 275 = some (.iinc 6 1, 278, 6, 0, .int 1) := by decide +kernel
theorem x_189_275 : Tr sc d 189 (275, [l0, l1, l2, l3, l4, l5, some (.int x), l7, l8], [], h) Q = Tr sc d 189 (278, [l0, l1, l2, l3, l4, cl2 l5, some (.int (x + 1)), l7, l8], [], h) Q := t_inc k_189_275 rfl (Nat.le_of_ble_eq_true rfl)
theorem k_189_278 : lk 189 278 = some (.goto (-97), 281, 181, 0, .null) := by decide +kernel
theorem x_189_278 : Tr sc d 189 (278, [l0, l1, l2, l3, l4, l5, l6, l7, l8], [], h) Q = Tr sc d 189 (181, [l0, l1, l2, l3, l4, l5, l6, l7, l8], [], h) Q := t_go k_189_278 rfl
theorem k_189_281 : lk 189 281 = some (.aload_n 0, 282, 0, 0, .null) := by decide +kernel
theorem x_189_281 : Tr sc d 189 (281, [some (.ref xk), l1, l2, l3, l4, l5, l6, l7, l8], [], h) Q = Tr sc d 189 (282, [some (.ref xk), l1, l2, l3, l4, l5, l6, l7, l8], [.ref xk], h) Q := t_aload_n k_189_281 rfl
theorem k_189_282 : lk 189 282 = some (.iload_n 1, 283, 1, 0, .null) := by decide +kernel
theorem x_189_282 : Tr sc d 189 (282, [l0, some (.int x), l2, l3, l4, l5, l6, l7, l8], [.ref k0], h) Q = Tr sc d 189 (283, [l0, some (.int x), l2, l3, l4, l5, l6, l7, l8], [.int x, .ref k0], h) Q := t_iload_n k_189_282 rfl
theorem k_189_283 : lk 189 283 = some (.invokevirtual 196, 286, 179, 1, .null) := by decide +kernel
theorem x_189_283 : Tr sc (d + 1) 189 (283, [l0, l1, l2, l3, l4, l5, l6, l7, l8], [.int i1, .ref k0], h) Q = (okp h k0 10 = true ∧ Tr sc d 179 (ent0 179 [.ref k0, .int i1] h) (fun z => Tr sc (d + 1) 189 (286, [l0, l1, l2, l3, l4, l5, l6, l7, l8], z.1.toList ++ [], z.2) Q)) := t_cv (as := [.int i1]) (r := []) k_189_283 rfl rfl (Nat.le_of_ble_eq_true rfl) (Nat.le_of_ble_eq_true rfl) (Nat.le_of_ble_eq_true rfl)
theorem k_189_286 : lk 189 286 = some (.ireturn, 287, 0, 0, .null) := by decide +kernel
theorem x_189_286 : Tr sc d 189 (286, [l0, l1, l2, l3, l4, l5, l6, l7, l8], [.int i0], h) Q = Q (some (.int i0), h) := t_ret k_189_286 (by rw [r_189]; rfl)
theorem e_189 : Tr sc d 189 (ent0 189 [.ref k0, .int i1, .int i2] h) Q = Tr sc d 189 (0, [some (.ref k0), some (.int i1), some (.int i2), none, none, none, none, none, none], [], h) Q := by
  have e : mL 189 = 9 := by decide +kernel
  unfold ent0
  rw [e]
  rfl
theorem r_190 : mR 190 = some .int := by decide +kernel
theorem k_190_0 : lk 190 0 = some (.aload_n 0, 1, 0, 0, .null) := by decide +kernel
theorem x_190_0 : Tr sc d 190 (0, [some (.ref xk), l1, l2], [], h) Q = Tr sc d 190 (1, [some (.ref xk), l1, l2], [.ref xk], h) Q := t_aload_n k_190_0 rfl
theorem k_190_1 : lk 190 1 = some (.iload_n 1, 2, 1, 0, .null) := by decide +kernel
theorem x_190_1 : Tr sc d 190 (1, [l0, some (.int x), l2], [.ref k0], h) Q = Tr sc d 190 (2, [l0, some (.int x), l2], [.int x, .ref k0], h) Q := t_iload_n k_190_1 rfl
theorem k_190_2 : lk 190 2 = some (.invokevirtual 220, 5, 176, 1, .null) := by decide +kernel
theorem x_190_2 : Tr sc (d + 1) 190 (2, [l0, l1, l2], [.int i1, .ref k0], h) Q = (okp h k0 10 = true ∧ Tr sc d 176 (ent0 176 [.ref k0, .int i1] h) (fun z => Tr sc (d + 1) 190 (5, [l0, l1, l2], z.1.toList ++ [], z.2) Q)) := t_cv (as := [.int i1]) (r := []) k_190_2 rfl rfl (Nat.le_of_ble_eq_true rfl) (Nat.le_of_ble_eq_true rfl) (Nat.le_of_ble_eq_true rfl)
theorem k_190_5 : lk 190 5 = some (.istore_n 2, 6, 2, 0, .null) := by decide +kernel
theorem x_190_5 : Tr sc d 190 (5, [l0, l1, l2], [.int i0], h) Q = Tr sc d 190 (6, [l0, cl2 l1, some (.int i0)], [], h) Q := t_istore_n k_190_5 (Nat.le_of_ble_eq_true rfl)
theorem k_190_6 : lk 190 6 = some (.iload_n 2, 7, 2, 0, .null) := by decide +kernel
theorem x_190_6 : Tr sc d 190 (6, [l0, l1, some (.int x)], [], h) Q = Tr sc d 190 (7, [l0, l1, some (.int x)], [.int x], h) Q := t_iload_n k_190_6 rfl
theorem k_190_7 : lk 190 7 = some (.ifCond .ge 5, 10, 12, 0, .null) := by decide +kernel
theorem x_190_7 : Tr sc d 190 (7, [l0, l1, l2], [.int i0], h) Q = if 0 ≤ i0 then Tr sc d 190 (12, [l0, l1, l2], [], h) Q else Tr sc d 190 (10, [l0, l1, l2], [], h) Q := t_if k_190_7 rfl
theorem k_190_10 : lk 190 10 = some (.iload_n 2, 11, 2, 0, .null) := by decide +kernel
theorem x_190_10 : Tr sc d 190 (10, [l0, l1, some (.int x)], [], h) Q = Tr sc d 190 (11, [l0, l1, some (.int x)], [.int x], h) Q := t_iload_n k_190_10 rfl
theorem k_190_11 : lk 190 11 = some (.ireturn, 12, 0, 0, .null) := by decide +kernel
theorem x_190_11 : Tr sc d 190 (11, [l0, l1, l2], [.int i0], h) Q = Q (some (.int i0), h) := t_ret k_190_11 (by rw [r_190]; rfl)
theorem k_190_12 : lk 190 12 = some (.aload_n 0, 13, 0, 0, .null) := by decide +kernel
theorem x_190_12 : Tr sc d 190 (12, [some (.ref xk), l1, l2], [], h) Q = Tr sc d 190 (13, [some (.ref xk), l1, l2], [.ref xk], h) Q := t_aload_n k_190_12 rfl
theorem k_190_13 : lk 190 13 = some (.getfield 41, 16, 10, 18, .null) := by decide +kernel
theorem x_190_13 : Tr sc d 190 (13, [l0, l1, l2], [.ref k0], h) Q = (okp h k0 10 = true ∧ ∃ q, hR h k0 18 = some q ∧ Tr sc d 190 (16, [l0, l1, l2], [.ref q], h) Q) := t_getr k_190_13
theorem k_190_16 : lk 190 16 = some (.iload_n 1, 17, 1, 0, .null) := by decide +kernel
theorem x_190_16 : Tr sc d 190 (16, [l0, some (.int x), l2], [.ref k0], h) Q = Tr sc d 190 (17, [l0, some (.int x), l2], [.int x, .ref k0], h) Q := t_iload_n k_190_16 rfl
theorem k_190_17 : lk 190 17 = some (.iconst 0, 18, 0, 0, .int 0) := by decide +kernel
theorem x_190_17 : Tr sc d 190 (17, [l0, l1, l2], [.int i1, .ref k0], h) Q = Tr sc d 190 (18, [l0, l1, l2], [.int 0, .int i1, .ref k0], h) Q := t_go k_190_17 rfl
theorem k_190_18 : lk 190 18 = some (.iastore, 19, 0, 0, .null) := by decide +kernel
theorem x_190_18 : Tr sc d 190 (18, [l0, l1, l2], [.int i2, .int i1, .ref k0], h) Q = ((okp h k0 11 && inb i1 (LN k0)) = true ∧ Tr sc d 190 (19, [l0, l1, l2], [], (sI h k0 i1.toNatClampNeg i2)) Q) := t_gd k_190_18 rfl
theorem k_190_19 : lk 190 19 = some (.iconst 1, 20, 0, 0, .int 1) := by decide +kernel
theorem x_190_19 : Tr sc d 190 (19, [l0, l1, l2], [], h) Q = Tr sc d 190 (20, [l0, l1, l2], [.int 1], h) Q := t_go k_190_19 rfl
theorem k_190_20 : lk 190 20 = some (.ireturn, 21, 0, 0, .null) := by decide +kernel
theorem x_190_20 : Tr sc d 190 (20, [l0, l1, l2], [.int i0], h) Q = Q (some (.int i0), h) := t_ret k_190_20 (by rw [r_190]; rfl)
theorem e_190 : Tr sc d 190 (ent0 190 [.ref k0, .int i1] h) Q = Tr sc d 190 (0, [some (.ref k0), some (.int i1), none], [], h) Q := by
  have e : mL 190 = 3 := by decide +kernel
  unfold ent0
  rw [e]
  rfl
theorem r_191 : mR 191 = some .int := by decide +kernel
theorem k_191_0 : lk 191 0 = some (.iload_n 2, 1, 2, 0, .null) := by decide +kernel
theorem x_191_0 : Tr sc d 191 (0, [l0, l1, some (.int x), l3], [], h) Q = Tr sc d 191 (1, [l0, l1, some (.int x), l3], [.int x], h) Q := t_iload_n k_191_0 rfl
theorem k_191_1 : lk 191 1 = some (.iconst 0, 2, 0, 0, .int 0) := by decide +kernel
theorem x_191_1 : Tr sc d 191 (1, [l0, l1, l2, l3], [.int i0], h) Q = Tr sc d 191 (2, [l0, l1, l2, l3], [.int 0, .int i0], h) Q := t_go k_191_1 rfl
theorem k_191_2 : lk 191 2 = some (.iconst 2, 3, 0, 0, .int 2) := by decide +kernel
theorem x_191_2 : Tr sc d 191 (2, [l0, l1, l2, l3], [.int i1, .int i0], h) Q = Tr sc d 191 (3, [l0, l1, l2, l3], [.int 2, .int i1, .int i0], h) Q := t_go k_191_2 rfl
theorem k_191_3 : lk 191 3 = some (.invokestatic 144, 6, 156, 3, .null) := by decide +kernel
theorem x_191_3 : Tr sc (d + 1) 191 (3, [l0, l1, l2, l3], [.int i2, .int i1, .int i0], h) Q = Tr sc d 156 (ent0 156 [.int i0, .int i1, .int i2] h) (fun z => Tr sc (d + 1) 191 (6, [l0, l1, l2, l3], z.1.toList ++ [], z.2) Q) := t_cs (as := [.int i0, .int i1, .int i2]) (r := []) k_191_3 (by decide) rfl rfl (Nat.le_of_ble_eq_true rfl) (Nat.le_of_ble_eq_true rfl)
theorem k_191_6 : lk 191 6 = some (.ifCond .ne 5, 9, 11, 0, .null) := by decide +kernel
theorem x_191_6 : Tr sc d 191 (6, [l0, l1, l2, l3], [.int i0], h) Q = if i0 = 0 then Tr sc d 191 (9, [l0, l1, l2, l3], [], h) Q else Tr sc d 191 (11, [l0, l1, l2, l3], [], h) Q := t_if k_191_6 rfl
theorem k_191_9 : lk 191 9 = some (.iconst (-1), 10, 0, 0, .int (-1)) := by decide +kernel
theorem x_191_9 : Tr sc d 191 (9, [l0, l1, l2, l3], [], h) Q = Tr sc d 191 (10, [l0, l1, l2, l3], [.int (-1)], h) Q := t_go k_191_9 rfl
theorem k_191_10 : lk 191 10 = some (.ireturn, 11, 0, 0, .null) := by decide +kernel
theorem x_191_10 : Tr sc d 191 (10, [l0, l1, l2, l3], [.int i0], h) Q = Q (some (.int i0), h) := t_ret k_191_10 (by rw [r_191]; rfl)
theorem k_191_11 : lk 191 11 = some (.aload_n 0, 12, 0, 0, .null) := by decide +kernel
theorem x_191_11 : Tr sc d 191 (11, [some (.ref xk), l1, l2, l3], [], h) Q = Tr sc d 191 (12, [some (.ref xk), l1, l2, l3], [.ref xk], h) Q := t_aload_n k_191_11 rfl
theorem k_191_12 : lk 191 12 = some (.iload_n 1, 13, 1, 0, .null) := by decide +kernel
theorem x_191_12 : Tr sc d 191 (12, [l0, some (.int x), l2, l3], [.ref k0], h) Q = Tr sc d 191 (13, [l0, some (.int x), l2, l3], [.int x, .ref k0], h) Q := t_iload_n k_191_12 rfl
theorem k_191_13 : lk 191 13 = some (.invokevirtual 220, 16, 176, 1, .null) := by decide +kernel
theorem x_191_13 : Tr sc (d + 1) 191 (13, [l0, l1, l2, l3], [.int i1, .ref k0], h) Q = (okp h k0 10 = true ∧ Tr sc d 176 (ent0 176 [.ref k0, .int i1] h) (fun z => Tr sc (d + 1) 191 (16, [l0, l1, l2, l3], z.1.toList ++ [], z.2) Q)) := t_cv (as := [.int i1]) (r := []) k_191_13 rfl rfl (Nat.le_of_ble_eq_true rfl) (Nat.le_of_ble_eq_true rfl) (Nat.le_of_ble_eq_true rfl)
theorem k_191_16 : lk 191 16 = some (.istore_n 3, 17, 3, 0, .null) := by decide +kernel
theorem x_191_16 : Tr sc d 191 (16, [l0, l1, l2, l3], [.int i0], h) Q = Tr sc d 191 (17, [l0, l1, cl2 l2, some (.int i0)], [], h) Q := t_istore_n k_191_16 (Nat.le_of_ble_eq_true rfl)
theorem k_191_17 : lk 191 17 = some (.iload_n 3, 18, 3, 0, .null) := by decide +kernel
theorem x_191_17 : Tr sc d 191 (17, [l0, l1, l2, some (.int x)], [], h) Q = Tr sc d 191 (18, [l0, l1, l2, some (.int x)], [.int x], h) Q := t_iload_n k_191_17 rfl
theorem k_191_18 : lk 191 18 = some (.ifCond .ge 7, 21, 25, 0, .null) := by decide +kernel
theorem x_191_18 : Tr sc d 191 (18, [l0, l1, l2, l3], [.int i0], h) Q = if 0 ≤ i0 then Tr sc d 191 (25, [l0, l1, l2, l3], [], h) Q else Tr sc d 191 (21, [l0, l1, l2, l3], [], h) Q := t_if k_191_18 rfl
theorem k_191_21 : lk 191 21 = some (.iload_n 3, 22, 3, 0, .null) := by decide +kernel
theorem x_191_21 : Tr sc d 191 (21, [l0, l1, l2, some (.int x)], [], h) Q = Tr sc d 191 (22, [l0, l1, l2, some (.int x)], [.int x], h) Q := t_iload_n k_191_21 rfl
theorem k_191_22 : lk 191 22 = some (.goto 41, 25, 63, 0, .null) := by decide +kernel
theorem x_191_22 : Tr sc d 191 (22, [l0, l1, l2, l3], [.int i0], h) Q = Tr sc d 191 (63, [l0, l1, l2, l3], [.int i0], h) Q := t_go k_191_22 rfl
theorem k_191_25 : lk 191 25 = some (.aload_n 0, 26, 0, 0, .null) := by decide +kernel
theorem x_191_25 : Tr sc d 191 (25, [some (.ref xk), l1, l2, l3], [], h) Q = Tr sc d 191 (26, [some (.ref xk), l1, l2, l3], [.ref xk], h) Q := t_aload_n k_191_25 rfl
theorem k_191_26 : lk 191 26 = some (.iload_n 2, 27, 2, 0, .null) := by decide +kernel
theorem x_191_26 : Tr sc d 191 (26, [l0, l1, some (.int x), l3], [.ref k0], h) Q = Tr sc d 191 (27, [l0, l1, some (.int x), l3], [.int x, .ref k0], h) Q := t_iload_n k_191_26 rfl
theorem k_191_27 : lk 191 27 = some (.ifCond .ne 12, 30, 39, 0, .null) := by decide +kernel
theorem x_191_27 : Tr sc d 191 (27, [l0, l1, l2, l3], [.int i1, .ref k0], h) Q = if i1 = 0 then Tr sc d 191 (30, [l0, l1, l2, l3], [.ref k0], h) Q else Tr sc d 191 (39, [l0, l1, l2, l3], [.ref k0], h) Q := t_if k_191_27 rfl
theorem k_191_30 : lk 191 30 = some (.aload_n 0, 31, 0, 0, .null) := by decide +kernel
theorem x_191_30 : Tr sc d 191 (30, [some (.ref xk), l1, l2, l3], [.ref k0], h) Q = Tr sc d 191 (31, [some (.ref xk), l1, l2, l3], [.ref xk, .ref k0], h) Q := t_aload_n k_191_30 rfl
theorem k_191_31 : lk 191 31 = some (.getfield 35, 34, 10, 16, .null) := by decide +kernel
theorem x_191_31 : Tr sc d 191 (31, [l0, l1, l2, l3], [.ref k1, .ref k0], h) Q = (okp h k1 10 = true ∧ ∃ q, hR h k1 16 = some q ∧ Tr sc d 191 (34, [l0, l1, l2, l3], [.ref q, .ref k0], h) Q) := t_getr k_191_31
theorem k_191_34 : lk 191 34 = some (.iload_n 1, 35, 1, 0, .null) := by decide +kernel
theorem x_191_34 : Tr sc d 191 (34, [l0, some (.int x), l2, l3], [.ref k1, .ref k0], h) Q = Tr sc d 191 (35, [l0, some (.int x), l2, l3], [.int x, .ref k1, .ref k0], h) Q := t_iload_n k_191_34 rfl
theorem k_191_35 : lk 191 35 = some (.iaload, 36, 0, 0, .null) := by decide +kernel
theorem x_191_35 : Tr sc d 191 (35, [l0, l1, l2, l3], [.int i2, .ref k1, .ref k0], h) Q = (iOk sc h k1 i2 ∧ Tr sc d 191 (36, [l0, l1, l2, l3], [.int (iRd sc h k1 i2), .ref k0], h) Q) := t_iald k_191_35
theorem k_191_36 : lk 191 36 = some (.goto 23, 39, 59, 0, .null) := by decide +kernel
theorem x_191_36 : Tr sc d 191 (36, [l0, l1, l2, l3], [.int i1, .ref k0], h) Q = Tr sc d 191 (59, [l0, l1, l2, l3], [.int i1, .ref k0], h) Q := t_go k_191_36 rfl
theorem k_191_39 : lk 191 39 = some (.iload_n 2, 40, 2, 0, .null) := by decide +kernel
theorem x_191_39 : Tr sc d 191 (39, [l0, l1, some (.int x), l3], [.ref k0], h) Q = Tr sc d 191 (40, [l0, l1, some (.int x), l3], [.int x, .ref k0], h) Q := t_iload_n k_191_39 rfl
theorem k_191_40 : lk 191 40 = some (.iconst 1, 41, 0, 0, .int 1) := by decide +kernel
theorem x_191_40 : Tr sc d 191 (40, [l0, l1, l2, l3], [.int i1, .ref k0], h) Q = Tr sc d 191 (41, [l0, l1, l2, l3], [.int 1, .int i1, .ref k0], h) Q := t_go k_191_40 rfl
theorem k_191_41 : lk 191 41 = some (.if_icmp .ne 12, 44, 53, 0, .null) := by decide +kernel
theorem x_191_41 : Tr sc d 191 (41, [l0, l1, l2, l3], [.int i2, .int i1, .ref k0], h) Q = if i1 = i2 then Tr sc d 191 (44, [l0, l1, l2, l3], [.ref k0], h) Q else Tr sc d 191 (53, [l0, l1, l2, l3], [.ref k0], h) Q := t_if k_191_41 rfl
theorem k_191_44 : lk 191 44 = some (.aload_n 0, 45, 0, 0, .null) := by decide +kernel
theorem x_191_44 : Tr sc d 191 (44, [some (.ref xk), l1, l2, l3], [.ref k0], h) Q = Tr sc d 191 (45, [some (.ref xk), l1, l2, l3], [.ref xk, .ref k0], h) Q := t_aload_n k_191_44 rfl
theorem k_191_45 : lk 191 45 = some (.getfield 38, 48, 10, 17, .null) := by decide +kernel
theorem x_191_45 : Tr sc d 191 (45, [l0, l1, l2, l3], [.ref k1, .ref k0], h) Q = (okp h k1 10 = true ∧ ∃ q, hR h k1 17 = some q ∧ Tr sc d 191 (48, [l0, l1, l2, l3], [.ref q, .ref k0], h) Q) := t_getr k_191_45
theorem k_191_48 : lk 191 48 = some (.iload_n 1, 49, 1, 0, .null) := by decide +kernel
theorem x_191_48 : Tr sc d 191 (48, [l0, some (.int x), l2, l3], [.ref k1, .ref k0], h) Q = Tr sc d 191 (49, [l0, some (.int x), l2, l3], [.int x, .ref k1, .ref k0], h) Q := t_iload_n k_191_48 rfl
theorem k_191_49 : lk 191 49 = some (.iaload, 50, 0, 0, .null) := by decide +kernel
theorem x_191_49 : Tr sc d 191 (49, [l0, l1, l2, l3], [.int i2, .ref k1, .ref k0], h) Q = (iOk sc h k1 i2 ∧ Tr sc d 191 (50, [l0, l1, l2, l3], [.int (iRd sc h k1 i2), .ref k0], h) Q) := t_iald k_191_49
theorem k_191_50 : lk 191 50 = some (.goto 9, 53, 59, 0, .null) := by decide +kernel
theorem x_191_50 : Tr sc d 191 (50, [l0, l1, l2, l3], [.int i1, .ref k0], h) Q = Tr sc d 191 (59, [l0, l1, l2, l3], [.int i1, .ref k0], h) Q := t_go k_191_50 rfl
theorem k_191_53 : lk 191 53 = some (.aload_n 0, 54, 0, 0, .null) := by decide +kernel
theorem x_191_53 : Tr sc d 191 (53, [some (.ref xk), l1, l2, l3], [.ref k0], h) Q = Tr sc d 191 (54, [some (.ref xk), l1, l2, l3], [.ref xk, .ref k0], h) Q := t_aload_n k_191_53 rfl
theorem k_191_54 : lk 191 54 = some (.getfield 41, 57, 10, 18, .null) := by decide +kernel
theorem x_191_54 : Tr sc d 191 (54, [l0, l1, l2, l3], [.ref k1, .ref k0], h) Q = (okp h k1 10 = true ∧ ∃ q, hR h k1 18 = some q ∧ Tr sc d 191 (57, [l0, l1, l2, l3], [.ref q, .ref k0], h) Q) := t_getr k_191_54
theorem k_191_57 : lk 191 57 = some (.iload_n 1, 58, 1, 0, .null) := by decide +kernel
theorem x_191_57 : Tr sc d 191 (57, [l0, some (.int x), l2, l3], [.ref k1, .ref k0], h) Q = Tr sc d 191 (58, [l0, some (.int x), l2, l3], [.int x, .ref k1, .ref k0], h) Q := t_iload_n k_191_57 rfl
theorem k_191_58 : lk 191 58 = some (.iaload, 59, 0, 0, .null) := by decide +kernel
theorem x_191_58 : Tr sc d 191 (58, [l0, l1, l2, l3], [.int i2, .ref k1, .ref k0], h) Q = (iOk sc h k1 i2 ∧ Tr sc d 191 (59, [l0, l1, l2, l3], [.int (iRd sc h k1 i2), .ref k0], h) Q) := t_iald k_191_58
theorem k_191_59 : lk 191 59 = some (.iconst 1, 60, 0, 0, .int 1) := by decide +kernel
theorem x_191_59 : Tr sc d 191 (59, [l0, l1, l2, l3], [.int i1, .ref k0], h) Q = Tr sc d 191 (60, [l0, l1, l2, l3], [.int 1, .int i1, .ref k0], h) Q := t_go k_191_59 rfl
theorem k_191_60 : lk 191 60 = some (.invokevirtual 162, 63, 158, 2, .null) := by decide +kernel
theorem x_191_60 : Tr sc (d + 1) 191 (60, [l0, l1, l2, l3], [.int i2, .int i1, .ref k0], h) Q = (okp h k0 10 = true ∧ Tr sc d 158 (ent0 158 [.ref k0, .int i1, .int i2] h) (fun z => Tr sc (d + 1) 191 (63, [l0, l1, l2, l3], z.1.toList ++ [], z.2) Q)) := t_cv (as := [.int i1, .int i2]) (r := []) k_191_60 rfl rfl (Nat.le_of_ble_eq_true rfl) (Nat.le_of_ble_eq_true rfl) (Nat.le_of_ble_eq_true rfl)
theorem k_191_63 : lk 191 63 = some (.ireturn, 64, 0, 0, .null) := by decide +kernel
theorem x_191_63 : Tr sc d 191 (63, [l0, l1, l2, l3], [.int i0], h) Q = Q (some (.int i0), h) := t_ret k_191_63 (by rw [r_191]; rfl)
theorem e_191 : Tr sc d 191 (ent0 191 [.ref k0, .int i1, .int i2] h) Q = Tr sc d 191 (0, [some (.ref k0), some (.int i1), some (.int i2), none], [], h) Q := by
  have e : mL 191 = 4 := by decide +kernel
  unfold ent0
  rw [e]
  rfl
theorem r_192 : mR 192 = some .int := by decide +kernel
theorem k_192_0 : lk 192 0 = some (.iload_n 3, 1, 3, 0, .null) := by decide +kernel
theorem x_192_0 : Tr sc d 192 (0, [l0, l1, l2, some (.int x), l4, l5], [], h) Q = Tr sc d 192 (1, [l0, l1, l2, some (.int x), l4, l5], [.int x], h) Q := t_iload_n k_192_0 rfl
theorem k_192_1 : lk 192 1 = some (.iconst 0, 2, 0, 0, .int 0) := by decide +kernel
theorem x_192_1 : Tr sc d 192 (1, [l0, l1, l2, l3, l4, l5], [.int i0], h) Q = Tr sc d 192 (2, [l0, l1, l2, l3, l4, l5], [.int 0, .int i0], h) Q := t_go k_192_1 rfl
theorem k_192_2 : lk 192 2 = some (.iconst 2, 3, 0, 0, .int 2) := by decide +kernel
theorem x_192_2 : Tr sc d 192 (2, [l0, l1, l2, l3, l4, l5], [.int i1, .int i0], h) Q = Tr sc d 192 (3, [l0, l1, l2, l3, l4, l5], [.int 2, .int i1, .int i0], h) Q := t_go k_192_2 rfl
theorem k_192_3 : lk 192 3 = some (.invokestatic 144, 6, 156, 3, .null) := by decide +kernel
theorem x_192_3 : Tr sc (d + 1) 192 (3, [l0, l1, l2, l3, l4, l5], [.int i2, .int i1, .int i0], h) Q = Tr sc d 156 (ent0 156 [.int i0, .int i1, .int i2] h) (fun z => Tr sc (d + 1) 192 (6, [l0, l1, l2, l3, l4, l5], z.1.toList ++ [], z.2) Q) := t_cs (as := [.int i0, .int i1, .int i2]) (r := []) k_192_3 (by decide) rfl rfl (Nat.le_of_ble_eq_true rfl) (Nat.le_of_ble_eq_true rfl)
theorem k_192_6 : lk 192 6 = some (.ifCond .ne 5, 9, 11, 0, .null) := by decide +kernel
theorem x_192_6 : Tr sc d 192 (6, [l0, l1, l2, l3, l4, l5], [.int i0], h) Q = if i0 = 0 then Tr sc d 192 (9, [l0, l1, l2, l3, l4, l5], [], h) Q else Tr sc d 192 (11, [l0, l1, l2, l3, l4, l5], [], h) Q := t_if k_192_6 rfl
theorem k_192_9 : lk 192 9 = some (.iconst (-1), 10, 0, 0, .int (-1)) := by decide +kernel
theorem x_192_9 : Tr sc d 192 (9, [l0, l1, l2, l3, l4, l5], [], h) Q = Tr sc d 192 (10, [l0, l1, l2, l3, l4, l5], [.int (-1)], h) Q := t_go k_192_9 rfl
theorem k_192_10 : lk 192 10 = some (.ireturn, 11, 0, 0, .null) := by decide +kernel
theorem x_192_10 : Tr sc d 192 (10, [l0, l1, l2, l3, l4, l5], [.int i0], h) Q = Q (some (.int i0), h) := t_ret k_192_10 (by rw [r_192]; rfl)
theorem k_192_11 : lk 192 11 = some (.aload_n 0, 12, 0, 0, .null) := by decide +kernel
theorem x_192_11 : Tr sc d 192 (11, [some (.ref xk), l1, l2, l3, l4, l5], [], h) Q = Tr sc d 192 (12, [some (.ref xk), l1, l2, l3, l4, l5], [.ref xk], h) Q := t_aload_n k_192_11 rfl
theorem k_192_12 : lk 192 12 = some (.iload_n 1, 13, 1, 0, .null) := by decide +kernel
theorem x_192_12 : Tr sc d 192 (12, [l0, some (.int x), l2, l3, l4, l5], [.ref k0], h) Q = Tr sc d 192 (13, [l0, some (.int x), l2, l3, l4, l5], [.int x, .ref k0], h) Q := t_iload_n k_192_12 rfl
theorem k_192_13 : lk 192 13 = some (.invokevirtual 220, 16, 176, 1, .null) := by decide +kernel
theorem x_192_13 : Tr sc (d + 1) 192 (13, [l0, l1, l2, l3, l4, l5], [.int i1, .ref k0], h) Q = (okp h k0 10 = true ∧ Tr sc d 176 (ent0 176 [.ref k0, .int i1] h) (fun z => Tr sc (d + 1) 192 (16, [l0, l1, l2, l3, l4, l5], z.1.toList ++ [], z.2) Q)) := t_cv (as := [.int i1]) (r := []) k_192_13 rfl rfl (Nat.le_of_ble_eq_true rfl) (Nat.le_of_ble_eq_true rfl) (Nat.le_of_ble_eq_true rfl)
theorem k_192_16 : lk 192 16 = some (.istore 4, 18, 4, 0, .null) := by decide +kernel
theorem x_192_16 : Tr sc d 192 (16, [l0, l1, l2, l3, l4, l5], [.int i0], h) Q = Tr sc d 192 (18, [l0, l1, l2, cl2 l3, some (.int i0), l5], [], h) Q := t_istore k_192_16 (Nat.le_of_ble_eq_true rfl)
theorem k_192_18 : lk 192 18 = some (.iload 4, 20, 4, 0, .null) := by decide +kernel
theorem x_192_18 : Tr sc d 192 (18, [l0, l1, l2, l3, some (.int x), l5], [], h) Q = Tr sc d 192 (20, [l0, l1, l2, l3, some (.int x), l5], [.int x], h) Q := t_iload k_192_18 rfl
theorem k_192_20 : lk 192 20 = some (.ifCond .ge 6, 23, 26, 0, .null) := by decide +kernel
theorem x_192_20 : Tr sc d 192 (20, [l0, l1, l2, l3, l4, l5], [.int i0], h) Q = if 0 ≤ i0 then Tr sc d 192 (26, [l0, l1, l2, l3, l4, l5], [], h) Q else Tr sc d 192 (23, [l0, l1, l2, l3, l4, l5], [], h) Q := t_if k_192_20 rfl
theorem k_192_23 : lk 192 23 = some (.iload 4, 25, 4, 0, .null) := by decide +kernel
theorem x_192_23 : Tr sc d 192 (23, [l0, l1, l2, l3, some (.int x), l5], [], h) Q = Tr sc d 192 (25, [l0, l1, l2, l3, some (.int x), l5], [.int x], h) Q := t_iload k_192_23 rfl
theorem k_192_25 : lk 192 25 = some (.ireturn, 26, 0, 0, .null) := by decide +kernel
theorem x_192_25 : Tr sc d 192 (25, [l0, l1, l2, l3, l4, l5], [.int i0], h) Q = Q (some (.int i0), h) := t_ret k_192_25 (by rw [r_192]; rfl)
theorem k_192_26 : lk 192 26 = some (.iload_n 2, 27, 2, 0, .null) := by decide +kernel
theorem x_192_26 : Tr sc d 192 (26, [l0, l1, some (.int x), l3, l4, l5], [], h) Q = Tr sc d 192 (27, [l0, l1, some (.int x), l3, l4, l5], [.int x], h) Q := t_iload_n k_192_26 rfl
theorem k_192_27 : lk 192 27 = some (.iconst 0, 28, 0, 0, .int 0) := by decide +kernel
theorem x_192_27 : Tr sc d 192 (27, [l0, l1, l2, l3, l4, l5], [.int i0], h) Q = Tr sc d 192 (28, [l0, l1, l2, l3, l4, l5], [.int 0, .int i0], h) Q := t_go k_192_27 rfl
theorem k_192_28 : lk 192 28 = some (.aload_n 0, 29, 0, 0, .null) := by decide +kernel
theorem x_192_28 : Tr sc d 192 (28, [some (.ref xk), l1, l2, l3, l4, l5], [.int i1, .int i0], h) Q = Tr sc d 192 (29, [some (.ref xk), l1, l2, l3, l4, l5], [.ref xk, .int i1, .int i0], h) Q := t_aload_n k_192_28 rfl
theorem k_192_29 : lk 192 29 = some (.getfield 41, 32, 10, 18, .null) := by decide +kernel
theorem x_192_29 : Tr sc d 192 (29, [l0, l1, l2, l3, l4, l5], [.ref k2, .int i1, .int i0], h) Q = (okp h k2 10 = true ∧ ∃ q, hR h k2 18 = some q ∧ Tr sc d 192 (32, [l0, l1, l2, l3, l4, l5], [.ref q, .int i1, .int i0], h) Q) := t_getr k_192_29
theorem k_192_32 : lk 192 32 = some (.iload_n 1, 33, 1, 0, .null) := by decide +kernel
theorem x_192_32 : Tr sc d 192 (32, [l0, some (.int x), l2, l3, l4, l5], [.ref k2, .int i1, .int i0], h) Q = Tr sc d 192 (33, [l0, some (.int x), l2, l3, l4, l5], [.int x, .ref k2, .int i1, .int i0], h) Q := t_iload_n k_192_32 rfl
theorem k_192_33 : lk 192 33 = some (.iaload, 34, 0, 0, .null) := by decide +kernel
theorem x_192_33 : Tr sc d 192 (33, [l0, l1, l2, l3, l4, l5], [.int i3, .ref k2, .int i1, .int i0], h) Q = (iOk sc h k2 i3 ∧ Tr sc d 192 (34, [l0, l1, l2, l3, l4, l5], [.int (iRd sc h k2 i3), .int i1, .int i0], h) Q) := t_iald k_192_33
theorem k_192_34 : lk 192 34 = some (.iconst 1, 35, 0, 0, .int 1) := by decide +kernel
theorem x_192_34 : Tr sc d 192 (34, [l0, l1, l2, l3, l4, l5], [.int i2, .int i1, .int i0], h) Q = Tr sc d 192 (35, [l0, l1, l2, l3, l4, l5], [.int 1, .int i2, .int i1, .int i0], h) Q := t_go k_192_34 rfl
theorem k_192_35 : lk 192 35 = some (.isub, 36, 0, 0, .null) := by decide +kernel
theorem x_192_35 : Tr sc d 192 (35, [l0, l1, l2, l3, l4, l5], [.int i3, .int i2, .int i1, .int i0], h) Q = Tr sc d 192 (36, [l0, l1, l2, l3, l4, l5], [.int (i2 - i3), .int i1, .int i0], h) Q := t_go k_192_35 rfl
theorem k_192_36 : lk 192 36 = some (.invokestatic 144, 39, 156, 3, .null) := by decide +kernel
theorem x_192_36 : Tr sc (d + 1) 192 (36, [l0, l1, l2, l3, l4, l5], [.int i2, .int i1, .int i0], h) Q = Tr sc d 156 (ent0 156 [.int i0, .int i1, .int i2] h) (fun z => Tr sc (d + 1) 192 (39, [l0, l1, l2, l3, l4, l5], z.1.toList ++ [], z.2) Q) := t_cs (as := [.int i0, .int i1, .int i2]) (r := []) k_192_36 (by decide) rfl rfl (Nat.le_of_ble_eq_true rfl) (Nat.le_of_ble_eq_true rfl)
theorem k_192_39 : lk 192 39 = some (.ifCond .ne 9, 42, 48, 0, .null) := by decide +kernel
theorem x_192_39 : Tr sc d 192 (39, [l0, l1, l2, l3, l4, l5], [.int i0], h) Q = if i0 = 0 then Tr sc d 192 (42, [l0, l1, l2, l3, l4, l5], [], h) Q else Tr sc d 192 (48, [l0, l1, l2, l3, l4, l5], [], h) Q := t_if k_192_39 rfl
theorem k_192_42 : lk 192 42 = some (.aload_n 0, 43, 0, 0, .null) := by decide +kernel
theorem x_192_42 : Tr sc d 192 (42, [some (.ref xk), l1, l2, l3, l4, l5], [], h) Q = Tr sc d 192 (43, [some (.ref xk), l1, l2, l3, l4, l5], [.ref xk], h) Q := t_aload_n k_192_42 rfl
theorem k_192_43 : lk 192 43 = some (.iconst 2, 44, 0, 0, .int 2) := by decide +kernel
theorem x_192_43 : Tr sc d 192 (43, [l0, l1, l2, l3, l4, l5], [.ref k0], h) Q = Tr sc d 192 (44, [l0, l1, l2, l3, l4, l5], [.int 2, .ref k0], h) Q := t_go k_192_43 rfl
theorem k_192_44 : lk 192 44 = some (.invokevirtual 152, 47, 157, 1, .null) := by decide +kernel
theorem x_192_44 : Tr sc (d + 1) 192 (44, [l0, l1, l2, l3, l4, l5], [.int i1, .ref k0], h) Q = (okp h k0 10 = true ∧ Tr sc d 157 (ent0 157 [.ref k0, .int i1] h) (fun z => Tr sc (d + 1) 192 (47, [l0, l1, l2, l3, l4, l5], z.1.toList ++ [], z.2) Q)) := t_cv (as := [.int i1]) (r := []) k_192_44 rfl rfl (Nat.le_of_ble_eq_true rfl) (Nat.le_of_ble_eq_true rfl) (Nat.le_of_ble_eq_true rfl)
theorem k_192_47 : lk 192 47 = some (.ireturn, 48, 0, 0, .null) := by decide +kernel
theorem x_192_47 : Tr sc d 192 (47, [l0, l1, l2, l3, l4, l5], [.int i0], h) Q = Q (some (.int i0), h) := t_ret k_192_47 (by rw [r_192]; rfl)
theorem k_192_48 : lk 192 48 = some (.bipush 6, 50, 0, 0, .int 6) := by decide +kernel
theorem x_192_48 : Tr sc d 192 (48, [l0, l1, l2, l3, l4, l5], [], h) Q = Tr sc d 192 (50, [l0, l1, l2, l3, l4, l5], [.int 6], h) Q := t_go k_192_48 rfl
theorem k_192_50 : lk 192 50 = some (.iload_n 1, 51, 1, 0, .null) := by decide +kernel
theorem x_192_50 : Tr sc d 192 (50, [l0, some (.int x), l2, l3, l4, l5], [.int i0], h) Q = Tr sc d 192 (51, [l0, some (.int x), l2, l3, l4, l5], [.int x, .int i0], h) Q := t_iload_n k_192_50 rfl
theorem k_192_51 : lk 192 51 = some (.imul, 52, 0, 0, .null) := by decide +kernel
theorem x_192_51 : Tr sc d 192 (51, [l0, l1, l2, l3, l4, l5], [.int i1, .int i0], h) Q = Tr sc d 192 (52, [l0, l1, l2, l3, l4, l5], [.int (i0 * i1)], h) Q := t_go k_192_51 rfl
theorem k_192_52 : lk 192 52 = some (.iload_n 2, 53, 2, 0, .null) := by decide +kernel
theorem x_192_52 : Tr sc d 192 (52, [l0, l1, some (.int x), l3, l4, l5], [.int i0], h) Q = Tr sc d 192 (53, [l0, l1, some (.int x), l3, l4, l5], [.int x, .int i0], h) Q := t_iload_n k_192_52 rfl
theorem k_192_53 : lk 192 53 = some (.iadd, 54, 0, 0, .null) := by decide +kernel
theorem x_192_53 : Tr sc d 192 (53, [l0, l1, l2, l3, l4, l5], [.int i1, .int i0], h) Q = Tr sc d 192 (54, [l0, l1, l2, l3, l4, l5], [.int (i0 + i1)], h) Q := t_go k_192_53 rfl
theorem k_192_54 : lk 192 54 = some (.istore 5, 56, 5, 0, .null) := by decide +kernel
theorem x_192_54 : Tr sc d 192 (54, [l0, l1, l2, l3, l4, l5], [.int i0], h) Q = Tr sc d 192 (56, [l0, l1, l2, l3, cl2 l4, some (.int i0)], [], h) Q := t_istore k_192_54 (Nat.le_of_ble_eq_true rfl)
theorem k_192_56 : lk 192 56 = some (.aload_n 0, 57, 0, 0, .null) := by decide +kernel
theorem x_192_56 : Tr sc d 192 (56, [some (.ref xk), l1, l2, l3, l4, l5], [], h) Q = Tr sc d 192 (57, [some (.ref xk), l1, l2, l3, l4, l5], [.ref xk], h) Q := t_aload_n k_192_56 rfl
theorem k_192_57 : lk 192 57 = some (.iload_n 3, 58, 3, 0, .null) := by decide +kernel
theorem x_192_57 : Tr sc d 192 (57, [l0, l1, l2, some (.int x), l4, l5], [.ref k0], h) Q = Tr sc d 192 (58, [l0, l1, l2, some (.int x), l4, l5], [.int x, .ref k0], h) Q := t_iload_n k_192_57 rfl
theorem k_192_58 : lk 192 58 = some (.ifCond .ne 13, 61, 71, 0, .null) := by decide +kernel
theorem x_192_58 : Tr sc d 192 (58, [l0, l1, l2, l3, l4, l5], [.int i1, .ref k0], h) Q = if i1 = 0 then Tr sc d 192 (61, [l0, l1, l2, l3, l4, l5], [.ref k0], h) Q else Tr sc d 192 (71, [l0, l1, l2, l3, l4, l5], [.ref k0], h) Q := t_if k_192_58 rfl
theorem k_192_61 : lk 192 61 = some (.aload_n 0, 62, 0, 0, .null) := by decide +kernel
theorem x_192_61 : Tr sc d 192 (61, [some (.ref xk), l1, l2, l3, l4, l5], [.ref k0], h) Q = Tr sc d 192 (62, [some (.ref xk), l1, l2, l3, l4, l5], [.ref xk, .ref k0], h) Q := t_aload_n k_192_61 rfl
theorem k_192_62 : lk 192 62 = some (.getfield 44, 65, 10, 19, .null) := by decide +kernel
theorem x_192_62 : Tr sc d 192 (62, [l0, l1, l2, l3, l4, l5], [.ref k1, .ref k0], h) Q = (okp h k1 10 = true ∧ ∃ q, hR h k1 19 = some q ∧ Tr sc d 192 (65, [l0, l1, l2, l3, l4, l5], [.ref q, .ref k0], h) Q) := t_getr k_192_62
theorem k_192_65 : lk 192 65 = some (.iload 5, 67, 5, 0, .null) := by decide +kernel
theorem x_192_65 : Tr sc d 192 (65, [l0, l1, l2, l3, l4, some (.int x)], [.ref k1, .ref k0], h) Q = Tr sc d 192 (67, [l0, l1, l2, l3, l4, some (.int x)], [.int x, .ref k1, .ref k0], h) Q := t_iload k_192_65 rfl
theorem k_192_67 : lk 192 67 = some (.iaload, 68, 0, 0, .null) := by decide +kernel
theorem x_192_67 : Tr sc d 192 (67, [l0, l1, l2, l3, l4, l5], [.int i2, .ref k1, .ref k0], h) Q = (iOk sc h k1 i2 ∧ Tr sc d 192 (68, [l0, l1, l2, l3, l4, l5], [.int (iRd sc h k1 i2), .ref k0], h) Q) := t_iald k_192_67
theorem k_192_68 : lk 192 68 = some (.goto 25, 71, 93, 0, .null) := by decide +kernel
theorem x_192_68 : Tr sc d 192 (68, [l0, l1, l2, l3, l4, l5], [.int i1, .ref k0], h) Q = Tr sc d 192 (93, [l0, l1, l2, l3, l4, l5], [.int i1, .ref k0], h) Q := t_go k_192_68 rfl
theorem k_192_71 : lk 192 71 = some (.iload_n 3, 72, 3, 0, .null) := by decide +kernel
theorem x_192_71 : Tr sc d 192 (71, [l0, l1, l2, some (.int x), l4, l5], [.ref k0], h) Q = Tr sc d 192 (72, [l0, l1, l2, some (.int x), l4, l5], [.int x, .ref k0], h) Q := t_iload_n k_192_71 rfl
theorem k_192_72 : lk 192 72 = some (.iconst 1, 73, 0, 0, .int 1) := by decide +kernel
theorem x_192_72 : Tr sc d 192 (72, [l0, l1, l2, l3, l4, l5], [.int i1, .ref k0], h) Q = Tr sc d 192 (73, [l0, l1, l2, l3, l4, l5], [.int 1, .int i1, .ref k0], h) Q := t_go k_192_72 rfl
theorem k_192_73 : lk 192 73 = some (.if_icmp .ne 13, 76, 86, 0, .null) := by decide +kernel
theorem x_192_73 : Tr sc d 192 (73, [l0, l1, l2, l3, l4, l5], [.int i2, .int i1, .ref k0], h) Q = if i1 = i2 then Tr sc d 192 (76, [l0, l1, l2, l3, l4, l5], [.ref k0], h) Q else Tr sc d 192 (86, [l0, l1, l2, l3, l4, l5], [.ref k0], h) Q := t_if k_192_73 rfl
theorem k_192_76 : lk 192 76 = some (.aload_n 0, 77, 0, 0, .null) := by decide +kernel
theorem x_192_76 : Tr sc d 192 (76, [some (.ref xk), l1, l2, l3, l4, l5], [.ref k0], h) Q = Tr sc d 192 (77, [some (.ref xk), l1, l2, l3, l4, l5], [.ref xk, .ref k0], h) Q := t_aload_n k_192_76 rfl
theorem k_192_77 : lk 192 77 = some (.getfield 47, 80, 10, 20, .null) := by decide +kernel
theorem x_192_77 : Tr sc d 192 (77, [l0, l1, l2, l3, l4, l5], [.ref k1, .ref k0], h) Q = (okp h k1 10 = true ∧ ∃ q, hR h k1 20 = some q ∧ Tr sc d 192 (80, [l0, l1, l2, l3, l4, l5], [.ref q, .ref k0], h) Q) := t_getr k_192_77
theorem k_192_80 : lk 192 80 = some (.iload 5, 82, 5, 0, .null) := by decide +kernel
theorem x_192_80 : Tr sc d 192 (80, [l0, l1, l2, l3, l4, some (.int x)], [.ref k1, .ref k0], h) Q = Tr sc d 192 (82, [l0, l1, l2, l3, l4, some (.int x)], [.int x, .ref k1, .ref k0], h) Q := t_iload k_192_80 rfl
theorem k_192_82 : lk 192 82 = some (.iaload, 83, 0, 0, .null) := by decide +kernel
theorem x_192_82 : Tr sc d 192 (82, [l0, l1, l2, l3, l4, l5], [.int i2, .ref k1, .ref k0], h) Q = (iOk sc h k1 i2 ∧ Tr sc d 192 (83, [l0, l1, l2, l3, l4, l5], [.int (iRd sc h k1 i2), .ref k0], h) Q) := t_iald k_192_82
theorem k_192_83 : lk 192 83 = some (.goto 10, 86, 93, 0, .null) := by decide +kernel
theorem x_192_83 : Tr sc d 192 (83, [l0, l1, l2, l3, l4, l5], [.int i1, .ref k0], h) Q = Tr sc d 192 (93, [l0, l1, l2, l3, l4, l5], [.int i1, .ref k0], h) Q := t_go k_192_83 rfl
theorem k_192_86 : lk 192 86 = some (.aload_n 0, 87, 0, 0, .null) := by decide +kernel
theorem x_192_86 : Tr sc d 192 (86, [some (.ref xk), l1, l2, l3, l4, l5], [.ref k0], h) Q = Tr sc d 192 (87, [some (.ref xk), l1, l2, l3, l4, l5], [.ref xk, .ref k0], h) Q := t_aload_n k_192_86 rfl
theorem k_192_87 : lk 192 87 = some (.getfield 50, 90, 10, 21, .null) := by decide +kernel
theorem x_192_87 : Tr sc d 192 (87, [l0, l1, l2, l3, l4, l5], [.ref k1, .ref k0], h) Q = (okp h k1 10 = true ∧ ∃ q, hR h k1 21 = some q ∧ Tr sc d 192 (90, [l0, l1, l2, l3, l4, l5], [.ref q, .ref k0], h) Q) := t_getr k_192_87
theorem k_192_90 : lk 192 90 = some (.iload 5, 92, 5, 0, .null) := by decide +kernel
theorem x_192_90 : Tr sc d 192 (90, [l0, l1, l2, l3, l4, some (.int x)], [.ref k1, .ref k0], h) Q = Tr sc d 192 (92, [l0, l1, l2, l3, l4, some (.int x)], [.int x, .ref k1, .ref k0], h) Q := t_iload k_192_90 rfl
theorem k_192_92 : lk 192 92 = some (.iaload, 93, 0, 0, .null) := by decide +kernel
theorem x_192_92 : Tr sc d 192 (92, [l0, l1, l2, l3, l4, l5], [.int i2, .ref k1, .ref k0], h) Q = (iOk sc h k1 i2 ∧ Tr sc d 192 (93, [l0, l1, l2, l3, l4, l5], [.int (iRd sc h k1 i2), .ref k0], h) Q) := t_iald k_192_92
theorem k_192_93 : lk 192 93 = some (.iconst 1, 94, 0, 0, .int 1) := by decide +kernel
theorem x_192_93 : Tr sc d 192 (93, [l0, l1, l2, l3, l4, l5], [.int i1, .ref k0], h) Q = Tr sc d 192 (94, [l0, l1, l2, l3, l4, l5], [.int 1, .int i1, .ref k0], h) Q := t_go k_192_93 rfl
theorem k_192_94 : lk 192 94 = some (.invokevirtual 162, 97, 158, 2, .null) := by decide +kernel
theorem x_192_94 : Tr sc (d + 1) 192 (94, [l0, l1, l2, l3, l4, l5], [.int i2, .int i1, .ref k0], h) Q = (okp h k0 10 = true ∧ Tr sc d 158 (ent0 158 [.ref k0, .int i1, .int i2] h) (fun z => Tr sc (d + 1) 192 (97, [l0, l1, l2, l3, l4, l5], z.1.toList ++ [], z.2) Q)) := t_cv (as := [.int i1, .int i2]) (r := []) k_192_94 rfl rfl (Nat.le_of_ble_eq_true rfl) (Nat.le_of_ble_eq_true rfl) (Nat.le_of_ble_eq_true rfl)
theorem k_192_97 : lk 192 97 = some (.ireturn, 98, 0, 0, .null) := by decide +kernel
theorem x_192_97 : Tr sc d 192 (97, [l0, l1, l2, l3, l4, l5], [.int i0], h) Q = Q (some (.int i0), h) := t_ret k_192_97 (by rw [r_192]; rfl)
theorem e_192 : Tr sc d 192 (ent0 192 [.ref k0, .int i1, .int i2, .int i3] h) Q = Tr sc d 192 (0, [some (.ref k0), some (.int i1), some (.int i2), some (.int i3), none, none], [], h) Q := by
  have e : mL 192 = 6 := by decide +kernel
  unfold ent0
  rw [e]
  rfl
theorem r_193 : mR 193 = some .boolean := by decide +kernel
theorem k_193_0 : lk 193 0 = some (.aload_n 0, 1, 0, 0, .null) := by decide +kernel
theorem x_193_0 : Tr sc d 193 (0, [some (.ref xk), l1], [], h) Q = Tr sc d 193 (1, [some (.ref xk), l1], [.ref xk], h) Q := t_aload_n k_193_0 rfl
theorem k_193_1 : lk 193 1 = some (.getfield 35, 4, 10, 16, .null) := by decide +kernel
theorem x_193_1 : Tr sc d 193 (1, [l0, l1], [.ref k0], h) Q = (okp h k0 10 = true ∧ ∃ q, hR h k0 16 = some q ∧ Tr sc d 193 (4, [l0, l1], [.ref q], h) Q) := t_getr k_193_1
theorem k_193_4 : lk 193 4 = some (.iload_n 1, 5, 1, 0, .null) := by decide +kernel
theorem x_193_4 : Tr sc d 193 (4, [l0, some (.int x)], [.ref k0], h) Q = Tr sc d 193 (5, [l0, some (.int x)], [.int x, .ref k0], h) Q := t_iload_n k_193_4 rfl
theorem k_193_5 : lk 193 5 = some (.iaload, 6, 0, 0, .null) := by decide +kernel
theorem x_193_5 : Tr sc d 193 (5, [l0, l1], [.int i1, .ref k0], h) Q = (iOk sc h k0 i1 ∧ Tr sc d 193 (6, [l0, l1], [.int (iRd sc h k0 i1)], h) Q) := t_iald k_193_5
theorem k_193_6 : lk 193 6 = some (.iconst 1, 7, 0, 0, .int 1) := by decide +kernel
theorem x_193_6 : Tr sc d 193 (6, [l0, l1], [.int i0], h) Q = Tr sc d 193 (7, [l0, l1], [.int 1, .int i0], h) Q := t_go k_193_6 rfl
theorem k_193_7 : lk 193 7 = some (.if_icmp .eq 13, 10, 20, 0, .null) := by decide +kernel
theorem x_193_7 : Tr sc d 193 (7, [l0, l1], [.int i1, .int i0], h) Q = if i0 = i1 then Tr sc d 193 (20, [l0, l1], [], h) Q else Tr sc d 193 (10, [l0, l1], [], h) Q := t_if k_193_7 rfl
theorem k_193_10 : lk 193 10 = some (.aload_n 0, 11, 0, 0, .null) := by decide +kernel
theorem x_193_10 : Tr sc d 193 (10, [some (.ref xk), l1], [], h) Q = Tr sc d 193 (11, [some (.ref xk), l1], [.ref xk], h) Q := t_aload_n k_193_10 rfl
theorem k_193_11 : lk 193 11 = some (.getfield 35, 14, 10, 16, .null) := by decide +kernel
theorem x_193_11 : Tr sc d 193 (11, [l0, l1], [.ref k0], h) Q = (okp h k0 10 = true ∧ ∃ q, hR h k0 16 = some q ∧ Tr sc d 193 (14, [l0, l1], [.ref q], h) Q) := t_getr k_193_11
theorem k_193_14 : lk 193 14 = some (.iload_n 1, 15, 1, 0, .null) := by decide +kernel
theorem x_193_14 : Tr sc d 193 (14, [l0, some (.int x)], [.ref k0], h) Q = Tr sc d 193 (15, [l0, some (.int x)], [.int x, .ref k0], h) Q := t_iload_n k_193_14 rfl
theorem k_193_15 : lk 193 15 = some (.iaload, 16, 0, 0, .null) := by decide +kernel
theorem x_193_15 : Tr sc d 193 (15, [l0, l1], [.int i1, .ref k0], h) Q = (iOk sc h k0 i1 ∧ Tr sc d 193 (16, [l0, l1], [.int (iRd sc h k0 i1)], h) Q) := t_iald k_193_15
theorem k_193_16 : lk 193 16 = some (.iconst 2, 17, 0, 0, .int 2) := by decide +kernel
theorem x_193_16 : Tr sc d 193 (16, [l0, l1], [.int i0], h) Q = Tr sc d 193 (17, [l0, l1], [.int 2, .int i0], h) Q := t_go k_193_16 rfl
theorem k_193_17 : lk 193 17 = some (.if_icmp .ne 7, 20, 24, 0, .null) := by decide +kernel
theorem x_193_17 : Tr sc d 193 (17, [l0, l1], [.int i1, .int i0], h) Q = if i0 = i1 then Tr sc d 193 (20, [l0, l1], [], h) Q else Tr sc d 193 (24, [l0, l1], [], h) Q := t_if k_193_17 rfl
theorem k_193_20 : lk 193 20 = some (.iconst 1, 21, 0, 0, .int 1) := by decide +kernel
theorem x_193_20 : Tr sc d 193 (20, [l0, l1], [], h) Q = Tr sc d 193 (21, [l0, l1], [.int 1], h) Q := t_go k_193_20 rfl
theorem k_193_21 : lk 193 21 = some (.goto 4, 24, 25, 0, .null) := by decide +kernel
theorem x_193_21 : Tr sc d 193 (21, [l0, l1], [.int i0], h) Q = Tr sc d 193 (25, [l0, l1], [.int i0], h) Q := t_go k_193_21 rfl
theorem k_193_24 : lk 193 24 = some (.iconst 0, 25, 0, 0, .int 0) := by decide +kernel
theorem x_193_24 : Tr sc d 193 (24, [l0, l1], [], h) Q = Tr sc d 193 (25, [l0, l1], [.int 0], h) Q := t_go k_193_24 rfl
theorem k_193_25 : lk 193 25 = some (.ireturn, 26, 0, 0, .null) := by decide +kernel
theorem x_193_25 : Tr sc d 193 (25, [l0, l1], [.int i0], h) Q = (vp_nar .boolean i0 = i0 ∧ Q (some (.int i0), h)) := t_zret k_193_25 r_193
theorem e_193 : Tr sc d 193 (ent0 193 [.ref k0, .int i1] h) Q = Tr sc d 193 (0, [some (.ref k0), some (.int i1)], [], h) Q := by
  have e : mL 193 = 2 := by decide +kernel
  unfold ent0
  rw [e]
  rfl
theorem r_194 : mR 194 = some .int := by decide +kernel
theorem k_194_0 : lk 194 0 = some (.iload_n 2, 1, 2, 0, .null) := by decide +kernel
theorem x_194_0 : Tr sc d 194 (0, [l0, l1, some (.int x), l3], [], h) Q = Tr sc d 194 (1, [l0, l1, some (.int x), l3], [.int x], h) Q := t_iload_n k_194_0 rfl
theorem k_194_1 : lk 194 1 = some (.iconst 1, 2, 0, 0, .int 1) := by decide +kernel
theorem x_194_1 : Tr sc d 194 (1, [l0, l1, l2, l3], [.int i0], h) Q = Tr sc d 194 (2, [l0, l1, l2, l3], [.int 1, .int i0], h) Q := t_go k_194_1 rfl
theorem k_194_2 : lk 194 2 = some (.iconst 4, 3, 0, 0, .int 4) := by decide +kernel
theorem x_194_2 : Tr sc d 194 (2, [l0, l1, l2, l3], [.int i1, .int i0], h) Q = Tr sc d 194 (3, [l0, l1, l2, l3], [.int 4, .int i1, .int i0], h) Q := t_go k_194_2 rfl
theorem k_194_3 : lk 194 3 = some (.invokestatic 144, 6, 156, 3, .null) := by decide +kernel
theorem x_194_3 : Tr sc (d + 1) 194 (3, [l0, l1, l2, l3], [.int i2, .int i1, .int i0], h) Q = Tr sc d 156 (ent0 156 [.int i0, .int i1, .int i2] h) (fun z => Tr sc (d + 1) 194 (6, [l0, l1, l2, l3], z.1.toList ++ [], z.2) Q) := t_cs (as := [.int i0, .int i1, .int i2]) (r := []) k_194_3 (by decide) rfl rfl (Nat.le_of_ble_eq_true rfl) (Nat.le_of_ble_eq_true rfl)
theorem k_194_6 : lk 194 6 = some (.ifCond .ne 5, 9, 11, 0, .null) := by decide +kernel
theorem x_194_6 : Tr sc d 194 (6, [l0, l1, l2, l3], [.int i0], h) Q = if i0 = 0 then Tr sc d 194 (9, [l0, l1, l2, l3], [], h) Q else Tr sc d 194 (11, [l0, l1, l2, l3], [], h) Q := t_if k_194_6 rfl
theorem k_194_9 : lk 194 9 = some (.iconst (-1), 10, 0, 0, .int (-1)) := by decide +kernel
theorem x_194_9 : Tr sc d 194 (9, [l0, l1, l2, l3], [], h) Q = Tr sc d 194 (10, [l0, l1, l2, l3], [.int (-1)], h) Q := t_go k_194_9 rfl
theorem k_194_10 : lk 194 10 = some (.ireturn, 11, 0, 0, .null) := by decide +kernel
theorem x_194_10 : Tr sc d 194 (10, [l0, l1, l2, l3], [.int i0], h) Q = Q (some (.int i0), h) := t_ret k_194_10 (by rw [r_194]; rfl)
theorem k_194_11 : lk 194 11 = some (.aload_n 0, 12, 0, 0, .null) := by decide +kernel
theorem x_194_11 : Tr sc d 194 (11, [some (.ref xk), l1, l2, l3], [], h) Q = Tr sc d 194 (12, [some (.ref xk), l1, l2, l3], [.ref xk], h) Q := t_aload_n k_194_11 rfl
theorem k_194_12 : lk 194 12 = some (.iload_n 1, 13, 1, 0, .null) := by decide +kernel
theorem x_194_12 : Tr sc d 194 (12, [l0, some (.int x), l2, l3], [.ref k0], h) Q = Tr sc d 194 (13, [l0, some (.int x), l2, l3], [.int x, .ref k0], h) Q := t_iload_n k_194_12 rfl
theorem k_194_13 : lk 194 13 = some (.invokevirtual 220, 16, 176, 1, .null) := by decide +kernel
theorem x_194_13 : Tr sc (d + 1) 194 (13, [l0, l1, l2, l3], [.int i1, .ref k0], h) Q = (okp h k0 10 = true ∧ Tr sc d 176 (ent0 176 [.ref k0, .int i1] h) (fun z => Tr sc (d + 1) 194 (16, [l0, l1, l2, l3], z.1.toList ++ [], z.2) Q)) := t_cv (as := [.int i1]) (r := []) k_194_13 rfl rfl (Nat.le_of_ble_eq_true rfl) (Nat.le_of_ble_eq_true rfl) (Nat.le_of_ble_eq_true rfl)
theorem k_194_16 : lk 194 16 = some (.istore_n 3, 17, 3, 0, .null) := by decide +kernel
theorem x_194_16 : Tr sc d 194 (16, [l0, l1, l2, l3], [.int i0], h) Q = Tr sc d 194 (17, [l0, l1, cl2 l2, some (.int i0)], [], h) Q := t_istore_n k_194_16 (Nat.le_of_ble_eq_true rfl)
theorem k_194_17 : lk 194 17 = some (.iload_n 3, 18, 3, 0, .null) := by decide +kernel
theorem x_194_17 : Tr sc d 194 (17, [l0, l1, l2, some (.int x)], [], h) Q = Tr sc d 194 (18, [l0, l1, l2, some (.int x)], [.int x], h) Q := t_iload_n k_194_17 rfl
theorem k_194_18 : lk 194 18 = some (.ifCond .ge 5, 21, 23, 0, .null) := by decide +kernel
theorem x_194_18 : Tr sc d 194 (18, [l0, l1, l2, l3], [.int i0], h) Q = if 0 ≤ i0 then Tr sc d 194 (23, [l0, l1, l2, l3], [], h) Q else Tr sc d 194 (21, [l0, l1, l2, l3], [], h) Q := t_if k_194_18 rfl
theorem k_194_21 : lk 194 21 = some (.iload_n 3, 22, 3, 0, .null) := by decide +kernel
theorem x_194_21 : Tr sc d 194 (21, [l0, l1, l2, some (.int x)], [], h) Q = Tr sc d 194 (22, [l0, l1, l2, some (.int x)], [.int x], h) Q := t_iload_n k_194_21 rfl
theorem k_194_22 : lk 194 22 = some (.ireturn, 23, 0, 0, .null) := by decide +kernel
theorem x_194_22 : Tr sc d 194 (22, [l0, l1, l2, l3], [.int i0], h) Q = Q (some (.int i0), h) := t_ret k_194_22 (by rw [r_194]; rfl)
theorem k_194_23 : lk 194 23 = some (.aload_n 0, 24, 0, 0, .null) := by decide +kernel
theorem x_194_23 : Tr sc d 194 (23, [some (.ref xk), l1, l2, l3], [], h) Q = Tr sc d 194 (24, [some (.ref xk), l1, l2, l3], [.ref xk], h) Q := t_aload_n k_194_23 rfl
theorem k_194_24 : lk 194 24 = some (.getfield 35, 27, 10, 16, .null) := by decide +kernel
theorem x_194_24 : Tr sc d 194 (24, [l0, l1, l2, l3], [.ref k0], h) Q = (okp h k0 10 = true ∧ ∃ q, hR h k0 16 = some q ∧ Tr sc d 194 (27, [l0, l1, l2, l3], [.ref q], h) Q) := t_getr k_194_24
theorem k_194_27 : lk 194 27 = some (.iload_n 1, 28, 1, 0, .null) := by decide +kernel
theorem x_194_27 : Tr sc d 194 (27, [l0, some (.int x), l2, l3], [.ref k0], h) Q = Tr sc d 194 (28, [l0, some (.int x), l2, l3], [.int x, .ref k0], h) Q := t_iload_n k_194_27 rfl
theorem k_194_28 : lk 194 28 = some (.iaload, 29, 0, 0, .null) := by decide +kernel
theorem x_194_28 : Tr sc d 194 (28, [l0, l1, l2, l3], [.int i1, .ref k0], h) Q = (iOk sc h k0 i1 ∧ Tr sc d 194 (29, [l0, l1, l2, l3], [.int (iRd sc h k0 i1)], h) Q) := t_iald k_194_28
theorem k_194_29 : lk 194 29 = some (.iload_n 2, 30, 2, 0, .null) := by decide +kernel
theorem x_194_29 : Tr sc d 194 (29, [l0, l1, some (.int x), l3], [.int i0], h) Q = Tr sc d 194 (30, [l0, l1, some (.int x), l3], [.int x, .int i0], h) Q := t_iload_n k_194_29 rfl
theorem k_194_30 : lk 194 30 = some (.if_icmp .eq 22, 33, 52, 0, .null) := by decide +kernel
theorem x_194_30 : Tr sc d 194 (30, [l0, l1, l2, l3], [.int i1, .int i0], h) Q = if i0 = i1 then Tr sc d 194 (52, [l0, l1, l2, l3], [], h) Q else Tr sc d 194 (33, [l0, l1, l2, l3], [], h) Q := t_if k_194_30 rfl
theorem k_194_33 : lk 194 33 = some (.iload_n 2, 34, 2, 0, .null) := by decide +kernel
theorem x_194_33 : Tr sc d 194 (33, [l0, l1, some (.int x), l3], [], h) Q = Tr sc d 194 (34, [l0, l1, some (.int x), l3], [.int x], h) Q := t_iload_n k_194_33 rfl
theorem k_194_34 : lk 194 34 = some (.iconst 1, 35, 0, 0, .int 1) := by decide +kernel
theorem x_194_34 : Tr sc d 194 (34, [l0, l1, l2, l3], [.int i0], h) Q = Tr sc d 194 (35, [l0, l1, l2, l3], [.int 1, .int i0], h) Q := t_go k_194_34 rfl
theorem k_194_35 : lk 194 35 = some (.if_icmp .ne 11, 38, 46, 0, .null) := by decide +kernel
theorem x_194_35 : Tr sc d 194 (35, [l0, l1, l2, l3], [.int i1, .int i0], h) Q = if i0 = i1 then Tr sc d 194 (38, [l0, l1, l2, l3], [], h) Q else Tr sc d 194 (46, [l0, l1, l2, l3], [], h) Q := t_if k_194_35 rfl
theorem k_194_38 : lk 194 38 = some (.aload_n 0, 39, 0, 0, .null) := by decide +kernel
theorem x_194_38 : Tr sc d 194 (38, [some (.ref xk), l1, l2, l3], [], h) Q = Tr sc d 194 (39, [some (.ref xk), l1, l2, l3], [.ref xk], h) Q := t_aload_n k_194_38 rfl
theorem k_194_39 : lk 194 39 = some (.iload_n 1, 40, 1, 0, .null) := by decide +kernel
theorem x_194_39 : Tr sc d 194 (39, [l0, some (.int x), l2, l3], [.ref k0], h) Q = Tr sc d 194 (40, [l0, some (.int x), l2, l3], [.int x, .ref k0], h) Q := t_iload_n k_194_39 rfl
theorem k_194_40 : lk 194 40 = some (.invokevirtual 223, 43, 193, 1, .null) := by decide +kernel
theorem x_194_40 : Tr sc (d + 1) 194 (40, [l0, l1, l2, l3], [.int i1, .ref k0], h) Q = (okp h k0 10 = true ∧ Tr sc d 193 (ent0 193 [.ref k0, .int i1] h) (fun z => Tr sc (d + 1) 194 (43, [l0, l1, l2, l3], z.1.toList ++ [], z.2) Q)) := t_cv (as := [.int i1]) (r := []) k_194_40 rfl rfl (Nat.le_of_ble_eq_true rfl) (Nat.le_of_ble_eq_true rfl) (Nat.le_of_ble_eq_true rfl)
theorem k_194_43 : lk 194 43 = some (.ifCond .ne 9, 46, 52, 0, .null) := by decide +kernel
theorem x_194_43 : Tr sc d 194 (43, [l0, l1, l2, l3], [.int i0], h) Q = if i0 = 0 then Tr sc d 194 (46, [l0, l1, l2, l3], [], h) Q else Tr sc d 194 (52, [l0, l1, l2, l3], [], h) Q := t_if k_194_43 rfl
theorem k_194_46 : lk 194 46 = some (.aload_n 0, 47, 0, 0, .null) := by decide +kernel
theorem x_194_46 : Tr sc d 194 (46, [some (.ref xk), l1, l2, l3], [], h) Q = Tr sc d 194 (47, [some (.ref xk), l1, l2, l3], [.ref xk], h) Q := t_aload_n k_194_46 rfl
theorem k_194_47 : lk 194 47 = some (.iconst 3, 48, 0, 0, .int 3) := by decide +kernel
theorem x_194_47 : Tr sc d 194 (47, [l0, l1, l2, l3], [.ref k0], h) Q = Tr sc d 194 (48, [l0, l1, l2, l3], [.int 3, .ref k0], h) Q := t_go k_194_47 rfl
theorem k_194_48 : lk 194 48 = some (.invokevirtual 152, 51, 157, 1, .null) := by decide +kernel
theorem x_194_48 : Tr sc (d + 1) 194 (48, [l0, l1, l2, l3], [.int i1, .ref k0], h) Q = (okp h k0 10 = true ∧ Tr sc d 157 (ent0 157 [.ref k0, .int i1] h) (fun z => Tr sc (d + 1) 194 (51, [l0, l1, l2, l3], z.1.toList ++ [], z.2) Q)) := t_cv (as := [.int i1]) (r := []) k_194_48 rfl rfl (Nat.le_of_ble_eq_true rfl) (Nat.le_of_ble_eq_true rfl) (Nat.le_of_ble_eq_true rfl)
theorem k_194_51 : lk 194 51 = some (.ireturn, 52, 0, 0, .null) := by decide +kernel
theorem x_194_51 : Tr sc d 194 (51, [l0, l1, l2, l3], [.int i0], h) Q = Q (some (.int i0), h) := t_ret k_194_51 (by rw [r_194]; rfl)
theorem k_194_52 : lk 194 52 = some (.iload_n 2, 53, 2, 0, .null) := by decide +kernel
theorem x_194_52 : Tr sc d 194 (52, [l0, l1, some (.int x), l3], [], h) Q = Tr sc d 194 (53, [l0, l1, some (.int x), l3], [.int x], h) Q := t_iload_n k_194_52 rfl
theorem k_194_53 : lk 194 53 = some (.iconst 1, 54, 0, 0, .int 1) := by decide +kernel
theorem x_194_53 : Tr sc d 194 (53, [l0, l1, l2, l3], [.int i0], h) Q = Tr sc d 194 (54, [l0, l1, l2, l3], [.int 1, .int i0], h) Q := t_go k_194_53 rfl
theorem k_194_54 : lk 194 54 = some (.if_icmp .ne 11, 57, 65, 0, .null) := by decide +kernel
theorem x_194_54 : Tr sc d 194 (54, [l0, l1, l2, l3], [.int i1, .int i0], h) Q = if i0 = i1 then Tr sc d 194 (57, [l0, l1, l2, l3], [], h) Q else Tr sc d 194 (65, [l0, l1, l2, l3], [], h) Q := t_if k_194_54 rfl
theorem k_194_57 : lk 194 57 = some (.aload_n 0, 58, 0, 0, .null) := by decide +kernel
theorem x_194_57 : Tr sc d 194 (57, [some (.ref xk), l1, l2, l3], [], h) Q = Tr sc d 194 (58, [some (.ref xk), l1, l2, l3], [.ref xk], h) Q := t_aload_n k_194_57 rfl
theorem k_194_58 : lk 194 58 = some (.iload_n 1, 59, 1, 0, .null) := by decide +kernel
theorem x_194_58 : Tr sc d 194 (58, [l0, some (.int x), l2, l3], [.ref k0], h) Q = Tr sc d 194 (59, [l0, some (.int x), l2, l3], [.int x, .ref k0], h) Q := t_iload_n k_194_58 rfl
theorem k_194_59 : lk 194 59 = some (.invokevirtual 226, 62, 210, 1, .null) := by decide +kernel
theorem x_194_59 : Tr sc (d + 1) 194 (59, [l0, l1, l2, l3], [.int i1, .ref k0], h) Q = (okp h k0 10 = true ∧ Tr sc d 210 (ent0 210 [.ref k0, .int i1] h) (fun z => Tr sc (d + 1) 194 (62, [l0, l1, l2, l3], z.1.toList ++ [], z.2) Q)) := t_cv (as := [.int i1]) (r := []) k_194_59 rfl rfl (Nat.le_of_ble_eq_true rfl) (Nat.le_of_ble_eq_true rfl) (Nat.le_of_ble_eq_true rfl)
theorem k_194_62 : lk 194 62 = some (.goto 35, 65, 97, 0, .null) := by decide +kernel
theorem x_194_62 : Tr sc d 194 (62, [l0, l1, l2, l3], [.int i0], h) Q = Tr sc d 194 (97, [l0, l1, l2, l3], [.int i0], h) Q := t_go k_194_62 rfl
theorem k_194_65 : lk 194 65 = some (.iload_n 2, 66, 2, 0, .null) := by decide +kernel
theorem x_194_65 : Tr sc d 194 (65, [l0, l1, some (.int x), l3], [], h) Q = Tr sc d 194 (66, [l0, l1, some (.int x), l3], [.int x], h) Q := t_iload_n k_194_65 rfl
theorem k_194_66 : lk 194 66 = some (.iconst 2, 67, 0, 0, .int 2) := by decide +kernel
theorem x_194_66 : Tr sc d 194 (66, [l0, l1, l2, l3], [.int i0], h) Q = Tr sc d 194 (67, [l0, l1, l2, l3], [.int 2, .int i0], h) Q := t_go k_194_66 rfl
theorem k_194_67 : lk 194 67 = some (.if_icmp .ne 12, 70, 79, 0, .null) := by decide +kernel
theorem x_194_67 : Tr sc d 194 (67, [l0, l1, l2, l3], [.int i1, .int i0], h) Q = if i0 = i1 then Tr sc d 194 (70, [l0, l1, l2, l3], [], h) Q else Tr sc d 194 (79, [l0, l1, l2, l3], [], h) Q := t_if k_194_67 rfl
theorem k_194_70 : lk 194 70 = some (.aload_n 0, 71, 0, 0, .null) := by decide +kernel
theorem x_194_70 : Tr sc d 194 (70, [some (.ref xk), l1, l2, l3], [], h) Q = Tr sc d 194 (71, [some (.ref xk), l1, l2, l3], [.ref xk], h) Q := t_aload_n k_194_70 rfl
theorem k_194_71 : lk 194 71 = some (.getfield 41, 74, 10, 18, .null) := by decide +kernel
theorem x_194_71 : Tr sc d 194 (71, [l0, l1, l2, l3], [.ref k0], h) Q = (okp h k0 10 = true ∧ ∃ q, hR h k0 18 = some q ∧ Tr sc d 194 (74, [l0, l1, l2, l3], [.ref q], h) Q) := t_getr k_194_71
theorem k_194_74 : lk 194 74 = some (.iload_n 1, 75, 1, 0, .null) := by decide +kernel
theorem x_194_74 : Tr sc d 194 (74, [l0, some (.int x), l2, l3], [.ref k0], h) Q = Tr sc d 194 (75, [l0, some (.int x), l2, l3], [.int x, .ref k0], h) Q := t_iload_n k_194_74 rfl
theorem k_194_75 : lk 194 75 = some (.iaload, 76, 0, 0, .null) := by decide +kernel
theorem x_194_75 : Tr sc d 194 (75, [l0, l1, l2, l3], [.int i1, .ref k0], h) Q = (iOk sc h k0 i1 ∧ Tr sc d 194 (76, [l0, l1, l2, l3], [.int (iRd sc h k0 i1)], h) Q) := t_iald k_194_75
theorem k_194_76 : lk 194 76 = some (.goto 21, 79, 97, 0, .null) := by decide +kernel
theorem x_194_76 : Tr sc d 194 (76, [l0, l1, l2, l3], [.int i0], h) Q = Tr sc d 194 (97, [l0, l1, l2, l3], [.int i0], h) Q := t_go k_194_76 rfl
theorem k_194_79 : lk 194 79 = some (.iload_n 2, 80, 2, 0, .null) := by decide +kernel
theorem x_194_79 : Tr sc d 194 (79, [l0, l1, some (.int x), l3], [], h) Q = Tr sc d 194 (80, [l0, l1, some (.int x), l3], [.int x], h) Q := t_iload_n k_194_79 rfl
theorem k_194_80 : lk 194 80 = some (.iconst 3, 81, 0, 0, .int 3) := by decide +kernel
theorem x_194_80 : Tr sc d 194 (80, [l0, l1, l2, l3], [.int i0], h) Q = Tr sc d 194 (81, [l0, l1, l2, l3], [.int 3, .int i0], h) Q := t_go k_194_80 rfl
theorem k_194_81 : lk 194 81 = some (.if_icmp .ne 11, 84, 92, 0, .null) := by decide +kernel
theorem x_194_81 : Tr sc d 194 (81, [l0, l1, l2, l3], [.int i1, .int i0], h) Q = if i0 = i1 then Tr sc d 194 (84, [l0, l1, l2, l3], [], h) Q else Tr sc d 194 (92, [l0, l1, l2, l3], [], h) Q := t_if k_194_81 rfl
theorem k_194_84 : lk 194 84 = some (.aload_n 0, 85, 0, 0, .null) := by decide +kernel
theorem x_194_84 : Tr sc d 194 (84, [some (.ref xk), l1, l2, l3], [], h) Q = Tr sc d 194 (85, [some (.ref xk), l1, l2, l3], [.ref xk], h) Q := t_aload_n k_194_84 rfl
theorem k_194_85 : lk 194 85 = some (.iload_n 1, 86, 1, 0, .null) := by decide +kernel
theorem x_194_85 : Tr sc d 194 (85, [l0, some (.int x), l2, l3], [.ref k0], h) Q = Tr sc d 194 (86, [l0, some (.int x), l2, l3], [.int x, .ref k0], h) Q := t_iload_n k_194_85 rfl
theorem k_194_86 : lk 194 86 = some (.invokevirtual 214, 89, 184, 1, .null) := by decide +kernel
theorem x_194_86 : Tr sc (d + 1) 194 (86, [l0, l1, l2, l3], [.int i1, .ref k0], h) Q = (okp h k0 10 = true ∧ Tr sc d 184 (ent0 184 [.ref k0, .int i1] h) (fun z => Tr sc (d + 1) 194 (89, [l0, l1, l2, l3], z.1.toList ++ [], z.2) Q)) := t_cv (as := [.int i1]) (r := []) k_194_86 rfl rfl (Nat.le_of_ble_eq_true rfl) (Nat.le_of_ble_eq_true rfl) (Nat.le_of_ble_eq_true rfl)
theorem k_194_89 : lk 194 89 = some (.goto 8, 92, 97, 0, .null) := by decide +kernel
theorem x_194_89 : Tr sc d 194 (89, [l0, l1, l2, l3], [.int i0], h) Q = Tr sc d 194 (97, [l0, l1, l2, l3], [.int i0], h) Q := t_go k_194_89 rfl
theorem k_194_92 : lk 194 92 = some (.aload_n 0, 93, 0, 0, .null) := by decide +kernel
theorem x_194_92 : Tr sc d 194 (92, [some (.ref xk), l1, l2, l3], [], h) Q = Tr sc d 194 (93, [some (.ref xk), l1, l2, l3], [.ref xk], h) Q := t_aload_n k_194_92 rfl
theorem k_194_93 : lk 194 93 = some (.iload_n 1, 94, 1, 0, .null) := by decide +kernel
theorem x_194_93 : Tr sc d 194 (93, [l0, some (.int x), l2, l3], [.ref k0], h) Q = Tr sc d 194 (94, [l0, some (.int x), l2, l3], [.int x, .ref k0], h) Q := t_iload_n k_194_93 rfl
theorem k_194_94 : lk 194 94 = some (.invokevirtual 217, 97, 185, 1, .null) := by decide +kernel
theorem x_194_94 : Tr sc (d + 1) 194 (94, [l0, l1, l2, l3], [.int i1, .ref k0], h) Q = (okp h k0 10 = true ∧ Tr sc d 185 (ent0 185 [.ref k0, .int i1] h) (fun z => Tr sc (d + 1) 194 (97, [l0, l1, l2, l3], z.1.toList ++ [], z.2) Q)) := t_cv (as := [.int i1]) (r := []) k_194_94 rfl rfl (Nat.le_of_ble_eq_true rfl) (Nat.le_of_ble_eq_true rfl) (Nat.le_of_ble_eq_true rfl)
theorem k_194_97 : lk 194 97 = some (.ireturn, 98, 0, 0, .null) := by decide +kernel
theorem x_194_97 : Tr sc d 194 (97, [l0, l1, l2, l3], [.int i0], h) Q = Q (some (.int i0), h) := t_ret k_194_97 (by rw [r_194]; rfl)
theorem e_194 : Tr sc d 194 (ent0 194 [.ref k0, .int i1, .int i2] h) Q = Tr sc d 194 (0, [some (.ref k0), some (.int i1), some (.int i2), none], [], h) Q := by
  have e : mL 194 = 4 := by decide +kernel
  unfold ent0
  rw [e]
  rfl
theorem r_195 : mR 195 = some .int := by decide +kernel
theorem k_195_0 : lk 195 0 = some (.iconst 1, 1, 0, 0, .int 1) := by decide +kernel
theorem x_195_0 : Tr sc d 195 (0, [l0, l1, l2, l3], [], h) Q = Tr sc d 195 (1, [l0, l1, l2, l3], [.int 1], h) Q := t_go k_195_0 rfl
theorem k_195_1 : lk 195 1 = some (.istore_n 2, 2, 2, 0, .null) := by decide +kernel
theorem x_195_1 : Tr sc d 195 (1, [l0, l1, l2, l3], [.int i0], h) Q = Tr sc d 195 (2, [l0, cl2 l1, some (.int i0), l3], [], h) Q := t_istore_n k_195_1 (Nat.le_of_ble_eq_true rfl)
theorem k_195_2 : lk 195 2 = some (.iconst 0, 3, 0, 0, .int 0) := by decide +kernel
theorem x_195_2 : Tr sc d 195 (2, [l0, l1, l2, l3], [], h) Q = Tr sc d 195 (3, [l0, l1, l2, l3], [.int 0], h) Q := t_go k_195_2 rfl
theorem k_195_3 : lk 195 3 = some (.istore_n 3, 4, 3, 0, .null) := by decide +kernel
theorem x_195_3 : Tr sc d 195 (3, [l0, l1, l2, l3], [.int i0], h) Q = Tr sc d 195 (4, [l0, l1, cl2 l2, some (.int i0)], [], h) Q := t_istore_n k_195_3 (Nat.le_of_ble_eq_true rfl)
theorem k_195_4 : lk 195 4 = some (.iload_n 3, 5, 3, 0, .null) := by decide +kernel
theorem x_195_4 : Tr sc d 195 (4, [l0, l1, l2, some (.int x)], [], h) Q = Tr sc d 195 (5, [l0, l1, l2, some (.int x)], [.int x], h) Q := t_iload_n k_195_4 rfl
theorem k_195_5 : lk 195 5 = some (.iload_n 1, 6, 1, 0, .null) := by decide +kernel
theorem x_195_5 : Tr sc d 195 (5, [l0, some (.int x), l2, l3], [.int i0], h) Q = Tr sc d 195 (6, [l0, some (.int x), l2, l3], [.int x, .int i0], h) Q := t_iload_n k_195_5 rfl
theorem k_195_6 : lk 195 6 = some (.if_icmp .ge 13, 9, 19, 0, .null) := by decide +kernel
theorem x_195_6 : Tr sc d 195 (6, [l0, l1, l2, l3], [.int i1, .int i0], h) Q = if i1 ≤ i0 then Tr sc d 195 (19, [l0, l1, l2, l3], [], h) Q else Tr sc d 195 (9, [l0, l1, l2, l3], [], h) Q := t_if k_195_6 rfl
theorem k_195_9 : lk 195 9 = some (.iload_n 2, 10, 2, 0, .null) := by decide +kernel
theorem x_195_9 : Tr sc d 195 (9, [l0, l1, some (.int x), l3], [], h) Q = Tr sc d 195 (10, [l0, l1, some (.int x), l3], [.int x], h) Q := t_iload_n k_195_9 rfl
theorem k_195_10 : lk 195 10 = some (.iload_n 0, 11, 0, 0, .null) := by decide +kernel
theorem x_195_10 : Tr sc d 195 (10, [some (.int x), l1, l2, l3], [.int i0], h) Q = Tr sc d 195 (11, [some (.int x), l1, l2, l3], [.int x, .int i0], h) Q := t_iload_n k_195_10 rfl
theorem k_195_11 : lk 195 11 = some (.imul, 12, 0, 0, .null) := by decide +kernel
theorem x_195_11 : Tr sc d 195 (11, [l0, l1, l2, l3], [.int i1, .int i0], h) Q = Tr sc d 195 (12, [l0, l1, l2, l3], [.int (i0 * i1)], h) Q := t_go k_195_11 rfl
theorem k_195_12 : lk 195 12 = some (.istore_n 2, 13, 2, 0, .null) := by decide +kernel
theorem x_195_12 : Tr sc d 195 (12, [l0, l1, l2, l3], [.int i0], h) Q = Tr sc d 195 (13, [l0, cl2 l1, some (.int i0), l3], [], h) Q := t_istore_n k_195_12 (Nat.le_of_ble_eq_true rfl)
theorem k_195_13 : lk 195 13 = some (.iinc 3 1, 16, 3, 0, .int 1) := by decide +kernel
theorem x_195_13 : Tr sc d 195 (13, [l0, l1, l2, some (.int x)], [], h) Q = Tr sc d 195 (16, [l0, l1, cl2 l2, some (.int (x + 1))], [], h) Q := t_inc k_195_13 rfl (Nat.le_of_ble_eq_true rfl)
theorem k_195_16 : lk 195 16 = some (.goto (-12), 19, 4, 0, .null) := by decide +kernel
theorem x_195_16 : Tr sc d 195 (16, [l0, l1, l2, l3], [], h) Q = Tr sc d 195 (4, [l0, l1, l2, l3], [], h) Q := t_go k_195_16 rfl
theorem k_195_19 : lk 195 19 = some (.iload_n 2, 20, 2, 0, .null) := by decide +kernel
theorem x_195_19 : Tr sc d 195 (19, [l0, l1, some (.int x), l3], [], h) Q = Tr sc d 195 (20, [l0, l1, some (.int x), l3], [.int x], h) Q := t_iload_n k_195_19 rfl
theorem k_195_20 : lk 195 20 = some (.ireturn, 21, 0, 0, .null) := by decide +kernel
theorem x_195_20 : Tr sc d 195 (20, [l0, l1, l2, l3], [.int i0], h) Q = Q (some (.int i0), h) := t_ret k_195_20 (by rw [r_195]; rfl)
theorem e_195 : Tr sc d 195 (ent0 195 [.int i0, .int i1] h) Q = Tr sc d 195 (0, [some (.int i0), some (.int i1), none, none], [], h) Q := by
  have e : mL 195 = 4 := by decide +kernel
  unfold ent0
  rw [e]
  rfl
theorem r_196 : mR 196 = none := by decide +kernel
theorem k_196_0 : lk 196 0 = some (.aload_n 0, 1, 0, 0, .null) := by decide +kernel
theorem x_196_0 : Tr sc d 196 (0, [some (.ref xk), l1, l2, l3, l4, l5, l6, l7, l8, l9], [], h) Q = Tr sc d 196 (1, [some (.ref xk), l1, l2, l3, l4, l5, l6, l7, l8, l9], [.ref xk], h) Q := t_aload_n k_196_0 rfl
theorem k_196_1 : lk 196 1 = some (.iconst 0, 2, 0, 0, .int 0) := by decide +kernel
theorem x_196_1 : Tr sc d 196 (1, [l0, l1, l2, l3, l4, l5, l6, l7, l8, l9], [.ref k0], h) Q = Tr sc d 196 (2, [l0, l1, l2, l3, l4, l5, l6, l7, l8, l9], [.int 0, .ref k0], h) Q := t_go k_196_1 rfl
theorem k_196_2 : lk 196 2 = some (.putfield 229, 5, 10, 23, .int 0) := by decide +kernel
theorem x_196_2 : Tr sc d 196 (2, [l0, l1, l2, l3, l4, l5, l6, l7, l8, l9], [.int i1, .ref k0], h) Q = (okp h k0 10 = true ∧ Tr sc d 196 (5, [l0, l1, l2, l3, l4, l5, l6, l7, l8, l9], [], (sI h k0 23 i1)) Q) := t_gd k_196_2 rfl
theorem k_196_5 : lk 196 5 = some (.aload_n 0, 6, 0, 0, .null) := by decide +kernel
theorem x_196_5 : Tr sc d 196 (5, [some (.ref xk), l1, l2, l3, l4, l5, l6, l7, l8, l9], [], h) Q = Tr sc d 196 (6, [some (.ref xk), l1, l2, l3, l4, l5, l6, l7, l8, l9], [.ref xk], h) Q := t_aload_n k_196_5 rfl
theorem k_196_6 : lk 196 6 = some (.iconst 0, 7, 0, 0, .int 0) := by decide +kernel
theorem x_196_6 : Tr sc d 196 (6, [l0, l1, l2, l3, l4, l5, l6, l7, l8, l9], [.ref k0], h) Q = Tr sc d 196 (7, [l0, l1, l2, l3, l4, l5, l6, l7, l8, l9], [.int 0, .ref k0], h) Q := t_go k_196_6 rfl
theorem k_196_7 : lk 196 7 = some (.putfield 232, 10, 10, 24, .int 0) := by decide +kernel
theorem x_196_7 : Tr sc d 196 (7, [l0, l1, l2, l3, l4, l5, l6, l7, l8, l9], [.int i1, .ref k0], h) Q = (okp h k0 10 = true ∧ Tr sc d 196 (10, [l0, l1, l2, l3, l4, l5, l6, l7, l8, l9], [], (sI h k0 24 i1)) Q) := t_gd k_196_7 rfl
theorem k_196_10 : lk 196 10 = some (.aload_n 0, 11, 0, 0, .null) := by decide +kernel
theorem x_196_10 : Tr sc d 196 (10, [some (.ref xk), l1, l2, l3, l4, l5, l6, l7, l8, l9], [], h) Q = Tr sc d 196 (11, [some (.ref xk), l1, l2, l3, l4, l5, l6, l7, l8, l9], [.ref xk], h) Q := t_aload_n k_196_10 rfl
theorem k_196_11 : lk 196 11 = some (.iconst 1, 12, 0, 0, .int 1) := by decide +kernel
theorem x_196_11 : Tr sc d 196 (11, [l0, l1, l2, l3, l4, l5, l6, l7, l8, l9], [.ref k0], h) Q = Tr sc d 196 (12, [l0, l1, l2, l3, l4, l5, l6, l7, l8, l9], [.int 1, .ref k0], h) Q := t_go k_196_11 rfl
theorem k_196_12 : lk 196 12 = some (.putfield 235, 15, 10, 25, .int 0) := by decide +kernel
theorem x_196_12 : Tr sc d 196 (12, [l0, l1, l2, l3, l4, l5, l6, l7, l8, l9], [.int i1, .ref k0], h) Q = (okp h k0 10 = true ∧ Tr sc d 196 (15, [l0, l1, l2, l3, l4, l5, l6, l7, l8, l9], [], (sI h k0 25 i1)) Q) := t_gd k_196_12 rfl
theorem k_196_15 : lk 196 15 = some (.aload_n 0, 16, 0, 0, .null) := by decide +kernel
theorem x_196_15 : Tr sc d 196 (15, [some (.ref xk), l1, l2, l3, l4, l5, l6, l7, l8, l9], [], h) Q = Tr sc d 196 (16, [some (.ref xk), l1, l2, l3, l4, l5, l6, l7, l8, l9], [.ref xk], h) Q := t_aload_n k_196_15 rfl
theorem k_196_16 : lk 196 16 = some (.iconst 0, 17, 0, 0, .int 0) := by decide +kernel
theorem x_196_16 : Tr sc d 196 (16, [l0, l1, l2, l3, l4, l5, l6, l7, l8, l9], [.ref k0], h) Q = Tr sc d 196 (17, [l0, l1, l2, l3, l4, l5, l6, l7, l8, l9], [.int 0, .ref k0], h) Q := t_go k_196_16 rfl
theorem k_196_17 : lk 196 17 = some (.putfield 238, 20, 10, 26, .int 0) := by decide +kernel
theorem x_196_17 : Tr sc d 196 (17, [l0, l1, l2, l3, l4, l5, l6, l7, l8, l9], [.int i1, .ref k0], h) Q = (okp h k0 10 = true ∧ Tr sc d 196 (20, [l0, l1, l2, l3, l4, l5, l6, l7, l8, l9], [], (sI h k0 26 i1)) Q) := t_gd k_196_17 rfl
theorem k_196_20 : lk 196 20 = some (.aload_n 0, 21, 0, 0, .null) := by decide +kernel
theorem x_196_20 : Tr sc d 196 (20, [some (.ref xk), l1, l2, l3, l4, l5, l6, l7, l8, l9], [], h) Q = Tr sc d 196 (21, [some (.ref xk), l1, l2, l3, l4, l5, l6, l7, l8, l9], [.ref xk], h) Q := t_aload_n k_196_20 rfl
theorem k_196_21 : lk 196 21 = some (.iconst 0, 22, 0, 0, .int 0) := by decide +kernel
theorem x_196_21 : Tr sc d 196 (21, [l0, l1, l2, l3, l4, l5, l6, l7, l8, l9], [.ref k0], h) Q = Tr sc d 196 (22, [l0, l1, l2, l3, l4, l5, l6, l7, l8, l9], [.int 0, .ref k0], h) Q := t_go k_196_21 rfl
theorem k_196_22 : lk 196 22 = some (.putfield 241, 25, 10, 27, .int 0) := by decide +kernel
theorem x_196_22 : Tr sc d 196 (22, [l0, l1, l2, l3, l4, l5, l6, l7, l8, l9], [.int i1, .ref k0], h) Q = (okp h k0 10 = true ∧ Tr sc d 196 (25, [l0, l1, l2, l3, l4, l5, l6, l7, l8, l9], [], (sI h k0 27 i1)) Q) := t_gd k_196_22 rfl
theorem k_196_25 : lk 196 25 = some (.aload_n 0, 26, 0, 0, .null) := by decide +kernel
theorem x_196_25 : Tr sc d 196 (25, [some (.ref xk), l1, l2, l3, l4, l5, l6, l7, l8, l9], [], h) Q = Tr sc d 196 (26, [some (.ref xk), l1, l2, l3, l4, l5, l6, l7, l8, l9], [.ref xk], h) Q := t_aload_n k_196_25 rfl
theorem k_196_26 : lk 196 26 = some (.iconst 1, 27, 0, 0, .int 1) := by decide +kernel
theorem x_196_26 : Tr sc d 196 (26, [l0, l1, l2, l3, l4, l5, l6, l7, l8, l9], [.ref k0], h) Q = Tr sc d 196 (27, [l0, l1, l2, l3, l4, l5, l6, l7, l8, l9], [.int 1, .ref k0], h) Q := t_go k_196_26 rfl
theorem k_196_27 : lk 196 27 = some (.putfield 244, 30, 10, 28, .int 0) := by decide +kernel
theorem x_196_27 : Tr sc d 196 (27, [l0, l1, l2, l3, l4, l5, l6, l7, l8, l9], [.int i1, .ref k0], h) Q = (okp h k0 10 = true ∧ Tr sc d 196 (30, [l0, l1, l2, l3, l4, l5, l6, l7, l8, l9], [], (sI h k0 28 i1)) Q) := t_gd k_196_27 rfl
theorem k_196_30 : lk 196 30 = some (.iconst 1, 31, 0, 0, .int 1) := by decide +kernel
theorem x_196_30 : Tr sc d 196 (30, [l0, l1, l2, l3, l4, l5, l6, l7, l8, l9], [], h) Q = Tr sc d 196 (31, [l0, l1, l2, l3, l4, l5, l6, l7, l8, l9], [.int 1], h) Q := t_go k_196_30 rfl
theorem k_196_31 : lk 196 31 = some (.istore 5, 33, 5, 0, .null) := by decide +kernel
theorem x_196_31 : Tr sc d 196 (31, [l0, l1, l2, l3, l4, l5, l6, l7, l8, l9], [.int i0], h) Q = Tr sc d 196 (33, [l0, l1, l2, l3, cl2 l4, some (.int i0), l6, l7, l8, l9], [], h) Q := t_istore k_196_31 (Nat.le_of_ble_eq_true rfl)
theorem k_196_33 : lk 196 33 = some (.iload 5, 35, 5, 0, .null) := by decide +kernel
theorem x_196_33 : Tr sc d 196 (33, [l0, l1, l2, l3, l4, some (.int x), l6, l7, l8, l9], [], h) Q = Tr sc d 196 (35, [l0, l1, l2, l3, l4, some (.int x), l6, l7, l8, l9], [.int x], h) Q := t_iload k_196_33 rfl
theorem k_196_35 : lk 196 35 = some (.iload 4, 37, 4, 0, .null) := by decide +kernel
theorem x_196_35 : Tr sc d 196 (35, [l0, l1, l2, l3, some (.int x), l5, l6, l7, l8, l9], [.int i0], h) Q = Tr sc d 196 (37, [l0, l1, l2, l3, some (.int x), l5, l6, l7, l8, l9], [.int x, .int i0], h) Q := t_iload k_196_35 rfl
theorem k_196_37 : lk 196 37 = some (.if_icmp .gt 193, 40, 230, 0, .null) := by decide +kernel
theorem x_196_37 : Tr sc d 196 (37, [l0, l1, l2, l3, l4, l5, l6, l7, l8, l9], [.int i1, .int i0], h) Q = if i1 < i0 then Tr sc d 196 (230, [l0, l1, l2, l3, l4, l5, l6, l7, l8, l9], [], h) Q else Tr sc d 196 (40, [l0, l1, l2, l3, l4, l5, l6, l7, l8, l9], [], h) Q := t_if k_196_37 rfl
theorem k_196_40 : lk 196 40 = some (.bipush 6, 42, 0, 0, .int 6) := by decide +kernel
theorem x_196_40 : Tr sc d 196 (40, [l0, l1, l2, l3, l4, l5, l6, l7, l8, l9], [], h) Q = Tr sc d 196 (42, [l0, l1, l2, l3, l4, l5, l6, l7, l8, l9], [.int 6], h) Q := t_go k_196_40 rfl
theorem k_196_42 : lk 196 42 = some (.iload_n 1, 43, 1, 0, .null) := by decide +kernel
theorem x_196_42 : Tr sc d 196 (42, [l0, some (.int x), l2, l3, l4, l5, l6, l7, l8, l9], [.int i0], h) Q = Tr sc d 196 (43, [l0, some (.int x), l2, l3, l4, l5, l6, l7, l8, l9], [.int x, .int i0], h) Q := t_iload_n k_196_42 rfl
theorem k_196_43 : lk 196 43 = some (.imul, 44, 0, 0, .null) := by decide +kernel
theorem x_196_43 : Tr sc d 196 (43, [l0, l1, l2, l3, l4, l5, l6, l7, l8, l9], [.int i1, .int i0], h) Q = Tr sc d 196 (44, [l0, l1, l2, l3, l4, l5, l6, l7, l8, l9], [.int (i0 * i1)], h) Q := t_go k_196_43 rfl
theorem k_196_44 : lk 196 44 = some (.aload_n 0, 45, 0, 0, .null) := by decide +kernel
theorem x_196_44 : Tr sc d 196 (44, [some (.ref xk), l1, l2, l3, l4, l5, l6, l7, l8, l9], [.int i0], h) Q = Tr sc d 196 (45, [some (.ref xk), l1, l2, l3, l4, l5, l6, l7, l8, l9], [.ref xk, .int i0], h) Q := t_aload_n k_196_44 rfl
theorem k_196_45 : lk 196 45 = some (.getfield 20, 48, 10, 7, .null) := by decide +kernel
theorem x_196_45 : Tr sc d 196 (45, [l0, l1, l2, l3, l4, l5, l6, l7, l8, l9], [.ref k1, .int i0], h) Q = (okp h k1 10 = true ∧ ∃ q, hR h k1 7 = some q ∧ Tr sc d 196 (48, [l0, l1, l2, l3, l4, l5, l6, l7, l8, l9], [.ref q, .int i0], h) Q) := t_getr k_196_45
theorem k_196_48 : lk 196 48 = some (.bipush 40, 50, 0, 0, .int 40) := by decide +kernel
theorem x_196_48 : Tr sc d 196 (48, [l0, l1, l2, l3, l4, l5, l6, l7, l8, l9], [.ref k1, .int i0], h) Q = Tr sc d 196 (50, [l0, l1, l2, l3, l4, l5, l6, l7, l8, l9], [.int 40, .ref k1, .int i0], h) Q := t_go k_196_48 rfl
theorem k_196_50 : lk 196 50 = some (.iload_n 2, 51, 2, 0, .null) := by decide +kernel
theorem x_196_50 : Tr sc d 196 (50, [l0, l1, some (.int x), l3, l4, l5, l6, l7, l8, l9], [.int i2, .ref k1, .int i0], h) Q = Tr sc d 196 (51, [l0, l1, some (.int x), l3, l4, l5, l6, l7, l8, l9], [.int x, .int i2, .ref k1, .int i0], h) Q := t_iload_n k_196_50 rfl
theorem k_196_51 : lk 196 51 = some (.imul, 52, 0, 0, .null) := by decide +kernel
theorem x_196_51 : Tr sc d 196 (51, [l0, l1, l2, l3, l4, l5, l6, l7, l8, l9], [.int i3, .int i2, .ref k1, .int i0], h) Q = Tr sc d 196 (52, [l0, l1, l2, l3, l4, l5, l6, l7, l8, l9], [.int (i2 * i3), .ref k1, .int i0], h) Q := t_go k_196_51 rfl
theorem k_196_52 : lk 196 52 = some (.iload_n 3, 53, 3, 0, .null) := by decide +kernel
theorem x_196_52 : Tr sc d 196 (52, [l0, l1, l2, some (.int x), l4, l5, l6, l7, l8, l9], [.int i2, .ref k1, .int i0], h) Q = Tr sc d 196 (53, [l0, l1, l2, some (.int x), l4, l5, l6, l7, l8, l9], [.int x, .int i2, .ref k1, .int i0], h) Q := t_iload_n k_196_52 rfl
theorem k_196_53 : lk 196 53 = some (.iadd, 54, 0, 0, .null) := by decide +kernel
theorem x_196_53 : Tr sc d 196 (53, [l0, l1, l2, l3, l4, l5, l6, l7, l8, l9], [.int i3, .int i2, .ref k1, .int i0], h) Q = Tr sc d 196 (54, [l0, l1, l2, l3, l4, l5, l6, l7, l8, l9], [.int (i2 + i3), .ref k1, .int i0], h) Q := t_go k_196_53 rfl
theorem k_196_54 : lk 196 54 = some (.iload 4, 56, 4, 0, .null) := by decide +kernel
theorem x_196_54 : Tr sc d 196 (54, [l0, l1, l2, l3, some (.int x), l5, l6, l7, l8, l9], [.int i2, .ref k1, .int i0], h) Q = Tr sc d 196 (56, [l0, l1, l2, l3, some (.int x), l5, l6, l7, l8, l9], [.int x, .int i2, .ref k1, .int i0], h) Q := t_iload k_196_54 rfl
theorem k_196_56 : lk 196 56 = some (.iadd, 57, 0, 0, .null) := by decide +kernel
theorem x_196_56 : Tr sc d 196 (56, [l0, l1, l2, l3, l4, l5, l6, l7, l8, l9], [.int i3, .int i2, .ref k1, .int i0], h) Q = Tr sc d 196 (57, [l0, l1, l2, l3, l4, l5, l6, l7, l8, l9], [.int (i2 + i3), .ref k1, .int i0], h) Q := t_go k_196_56 rfl
theorem k_196_57 : lk 196 57 = some (.iload 5, 59, 5, 0, .null) := by decide +kernel
theorem x_196_57 : Tr sc d 196 (57, [l0, l1, l2, l3, l4, some (.int x), l6, l7, l8, l9], [.int i2, .ref k1, .int i0], h) Q = Tr sc d 196 (59, [l0, l1, l2, l3, l4, some (.int x), l6, l7, l8, l9], [.int x, .int i2, .ref k1, .int i0], h) Q := t_iload k_196_57 rfl
theorem k_196_59 : lk 196 59 = some (.isub, 60, 0, 0, .null) := by decide +kernel
theorem x_196_59 : Tr sc d 196 (59, [l0, l1, l2, l3, l4, l5, l6, l7, l8, l9], [.int i3, .int i2, .ref k1, .int i0], h) Q = Tr sc d 196 (60, [l0, l1, l2, l3, l4, l5, l6, l7, l8, l9], [.int (i2 - i3), .ref k1, .int i0], h) Q := t_go k_196_59 rfl
theorem k_196_60 : lk 196 60 = some (.iaload, 61, 0, 0, .null) := by decide +kernel
theorem x_196_60 : Tr sc d 196 (60, [l0, l1, l2, l3, l4, l5, l6, l7, l8, l9], [.int i2, .ref k1, .int i0], h) Q = (iOk sc h k1 i2 ∧ Tr sc d 196 (61, [l0, l1, l2, l3, l4, l5, l6, l7, l8, l9], [.int (iRd sc h k1 i2), .int i0], h) Q) := t_iald k_196_60
theorem k_196_61 : lk 196 61 = some (.iadd, 62, 0, 0, .null) := by decide +kernel
theorem x_196_61 : Tr sc d 196 (61, [l0, l1, l2, l3, l4, l5, l6, l7, l8, l9], [.int i1, .int i0], h) Q = Tr sc d 196 (62, [l0, l1, l2, l3, l4, l5, l6, l7, l8, l9], [.int (i0 + i1)], h) Q := t_go k_196_61 rfl
theorem k_196_62 : lk 196 62 = some (.istore 6, 64, 6, 0, .null) := by decide +kernel
theorem x_196_62 : Tr sc d 196 (62, [l0, l1, l2, l3, l4, l5, l6, l7, l8, l9], [.int i0], h) Q = Tr sc d 196 (64, [l0, l1, l2, l3, l4, cl2 l5, some (.int i0), l7, l8, l9], [], h) Q := t_istore k_196_62 (Nat.le_of_ble_eq_true rfl)
theorem k_196_64 : lk 196 64 = some (.aload_n 0, 65, 0, 0, .null) := by decide +kernel
theorem x_196_64 : Tr sc d 196 (64, [some (.ref xk), l1, l2, l3, l4, l5, l6, l7, l8, l9], [], h) Q = Tr sc d 196 (65, [some (.ref xk), l1, l2, l3, l4, l5, l6, l7, l8, l9], [.ref xk], h) Q := t_aload_n k_196_64 rfl
theorem k_196_65 : lk 196 65 = some (.getfield 44, 68, 10, 19, .null) := by decide +kernel
theorem x_196_65 : Tr sc d 196 (65, [l0, l1, l2, l3, l4, l5, l6, l7, l8, l9], [.ref k0], h) Q = (okp h k0 10 = true ∧ ∃ q, hR h k0 19 = some q ∧ Tr sc d 196 (68, [l0, l1, l2, l3, l4, l5, l6, l7, l8, l9], [.ref q], h) Q) := t_getr k_196_65
theorem k_196_68 : lk 196 68 = some (.iload 6, 70, 6, 0, .null) := by decide +kernel
theorem x_196_68 : Tr sc d 196 (68, [l0, l1, l2, l3, l4, l5, some (.int x), l7, l8, l9], [.ref k0], h) Q = Tr sc d 196 (70, [l0, l1, l2, l3, l4, l5, some (.int x), l7, l8, l9], [.int x, .ref k0], h) Q := t_iload k_196_68 rfl
theorem k_196_70 : lk 196 70 = some (.iaload, 71, 0, 0, .null) := by decide +kernel
theorem x_196_70 : Tr sc d 196 (70, [l0, l1, l2, l3, l4, l5, l6, l7, l8, l9], [.int i1, .ref k0], h) Q = (iOk sc h k0 i1 ∧ Tr sc d 196 (71, [l0, l1, l2, l3, l4, l5, l6, l7, l8, l9], [.int (iRd sc h k0 i1)], h) Q) := t_iald k_196_70
theorem k_196_71 : lk 196 71 = some (.istore 7, 73, 7, 0, .null) := by decide +kernel
theorem x_196_71 : Tr sc d 196 (71, [l0, l1, l2, l3, l4, l5, l6, l7, l8, l9], [.int i0], h) Q = Tr sc d 196 (73, [l0, l1, l2, l3, l4, l5, cl2 l6, some (.int i0), l8, l9], [], h) Q := t_istore k_196_71 (Nat.le_of_ble_eq_true rfl)
theorem k_196_73 : lk 196 73 = some (.aload_n 0, 74, 0, 0, .null) := by decide +kernel
theorem x_196_73 : Tr sc d 196 (73, [some (.ref xk), l1, l2, l3, l4, l5, l6, l7, l8, l9], [], h) Q = Tr sc d 196 (74, [some (.ref xk), l1, l2, l3, l4, l5, l6, l7, l8, l9], [.ref xk], h) Q := t_aload_n k_196_73 rfl
theorem k_196_74 : lk 196 74 = some (.getfield 38, 77, 10, 17, .null) := by decide +kernel
theorem x_196_74 : Tr sc d 196 (74, [l0, l1, l2, l3, l4, l5, l6, l7, l8, l9], [.ref k0], h) Q = (okp h k0 10 = true ∧ ∃ q, hR h k0 17 = some q ∧ Tr sc d 196 (77, [l0, l1, l2, l3, l4, l5, l6, l7, l8, l9], [.ref q], h) Q) := t_getr k_196_74
theorem k_196_77 : lk 196 77 = some (.iload_n 1, 78, 1, 0, .null) := by decide +kernel
theorem x_196_77 : Tr sc d 196 (77, [l0, some (.int x), l2, l3, l4, l5, l6, l7, l8, l9], [.ref k0], h) Q = Tr sc d 196 (78, [l0, some (.int x), l2, l3, l4, l5, l6, l7, l8, l9], [.int x, .ref k0], h) Q := t_iload_n k_196_77 rfl
theorem k_196_78 : lk 196 78 = some (.iaload, 79, 0, 0, .null) := by decide +kernel
theorem x_196_78 : Tr sc d 196 (78, [l0, l1, l2, l3, l4, l5, l6, l7, l8, l9], [.int i1, .ref k0], h) Q = (iOk sc h k0 i1 ∧ Tr sc d 196 (79, [l0, l1, l2, l3, l4, l5, l6, l7, l8, l9], [.int (iRd sc h k0 i1)], h) Q) := t_iald k_196_78
theorem k_196_79 : lk 196 79 = some (.iload 5, 81, 5, 0, .null) := by decide +kernel
theorem x_196_79 : Tr sc d 196 (79, [l0, l1, l2, l3, l4, some (.int x), l6, l7, l8, l9], [.int i0], h) Q = Tr sc d 196 (81, [l0, l1, l2, l3, l4, some (.int x), l6, l7, l8, l9], [.int x, .int i0], h) Q := t_iload k_196_79 rfl
theorem k_196_81 : lk 196 81 = some (.iconst 1, 82, 0, 0, .int 1) := by decide +kernel
theorem x_196_81 : Tr sc d 196 (81, [l0, l1, l2, l3, l4, l5, l6, l7, l8, l9], [.int i1, .int i0], h) Q = Tr sc d 196 (82, [l0, l1, l2, l3, l4, l5, l6, l7, l8, l9], [.int 1, .int i1, .int i0], h) Q := t_go k_196_81 rfl
theorem k_196_82 : lk 196 82 = some (.isub, 83, 0, 0, .null) := by decide +kernel
theorem x_196_82 : Tr sc d 196 (82, [l0, l1, l2, l3, l4, l5, l6, l7, l8, l9], [.int i2, .int i1, .int i0], h) Q = Tr sc d 196 (83, [l0, l1, l2, l3, l4, l5, l6, l7, l8, l9], [.int (i1 - i2), .int i0], h) Q := t_go k_196_82 rfl
theorem k_196_83 : lk 196 83 = some (.invokestatic 247, 86, 195, 2, .null) := by decide +kernel
theorem x_196_83 : Tr sc (d + 1) 196 (83, [l0, l1, l2, l3, l4, l5, l6, l7, l8, l9], [.int i1, .int i0], h) Q = Tr sc d 195 (ent0 195 [.int i0, .int i1] h) (fun z => Tr sc (d + 1) 196 (86, [l0, l1, l2, l3, l4, l5, l6, l7, l8, l9], z.1.toList ++ [], z.2) Q) := t_cs (as := [.int i0, .int i1]) (r := []) k_196_83 (by decide) rfl rfl (Nat.le_of_ble_eq_true rfl) (Nat.le_of_ble_eq_true rfl)
theorem k_196_86 : lk 196 86 = some (.istore 8, 88, 8, 0, .null) := by decide +kernel
theorem x_196_86 : Tr sc d 196 (86, [l0, l1, l2, l3, l4, l5, l6, l7, l8, l9], [.int i0], h) Q = Tr sc d 196 (88, [l0, l1, l2, l3, l4, l5, l6, cl2 l7, some (.int i0), l9], [], h) Q := t_istore k_196_86 (Nat.le_of_ble_eq_true rfl)
theorem k_196_88 : lk 196 88 = some (.iload 7, 90, 7, 0, .null) := by decide +kernel
theorem x_196_88 : Tr sc d 196 (88, [l0, l1, l2, l3, l4, l5, l6, some (.int x), l8, l9], [], h) Q = Tr sc d 196 (90, [l0, l1, l2, l3, l4, l5, l6, some (.int x), l8, l9], [.int x], h) Q := t_iload k_196_88 rfl
theorem k_196_90 : lk 196 90 = some (.aload_n 0, 91, 0, 0, .null) := by decide +kernel
theorem x_196_90 : Tr sc d 196 (90, [some (.ref xk), l1, l2, l3, l4, l5, l6, l7, l8, l9], [.int i0], h) Q = Tr sc d 196 (91, [some (.ref xk), l1, l2, l3, l4, l5, l6, l7, l8, l9], [.ref xk, .int i0], h) Q := t_aload_n k_196_90 rfl
theorem k_196_91 : lk 196 91 = some (.getfield 229, 94, 10, 23, .int 0) := by decide +kernel
theorem x_196_91 : Tr sc d 196 (91, [l0, l1, l2, l3, l4, l5, l6, l7, l8, l9], [.ref k1, .int i0], h) Q = (okp h k1 10 = true ∧ Tr sc d 196 (94, [l0, l1, l2, l3, l4, l5, l6, l7, l8, l9], [.int (hI h k1 23), .int i0], h) Q) := t_gd k_196_91 rfl
theorem k_196_94 : lk 196 94 = some (.aload_n 0, 95, 0, 0, .null) := by decide +kernel
theorem x_196_94 : Tr sc d 196 (94, [some (.ref xk), l1, l2, l3, l4, l5, l6, l7, l8, l9], [.int i1, .int i0], h) Q = Tr sc d 196 (95, [some (.ref xk), l1, l2, l3, l4, l5, l6, l7, l8, l9], [.ref xk, .int i1, .int i0], h) Q := t_aload_n k_196_94 rfl
theorem k_196_95 : lk 196 95 = some (.getfield 232, 98, 10, 24, .int 0) := by decide +kernel
theorem x_196_95 : Tr sc d 196 (95, [l0, l1, l2, l3, l4, l5, l6, l7, l8, l9], [.ref k2, .int i1, .int i0], h) Q = (okp h k2 10 = true ∧ Tr sc d 196 (98, [l0, l1, l2, l3, l4, l5, l6, l7, l8, l9], [.int (hI h k2 24), .int i1, .int i0], h) Q) := t_gd k_196_95 rfl
theorem k_196_98 : lk 196 98 = some (.invokestatic 250, 101, 177, 3, .null) := by decide +kernel
theorem x_196_98 : Tr sc (d + 1) 196 (98, [l0, l1, l2, l3, l4, l5, l6, l7, l8, l9], [.int i2, .int i1, .int i0], h) Q = Tr sc d 177 (ent0 177 [.int i0, .int i1, .int i2] h) (fun z => Tr sc (d + 1) 196 (101, [l0, l1, l2, l3, l4, l5, l6, l7, l8, l9], z.1.toList ++ [], z.2) Q) := t_cs (as := [.int i0, .int i1, .int i2]) (r := []) k_196_98 (by decide) rfl rfl (Nat.le_of_ble_eq_true rfl) (Nat.le_of_ble_eq_true rfl)
theorem k_196_101 : lk 196 101 = some (.iload 8, 103, 8, 0, .null) := by decide +kernel
theorem x_196_101 : Tr sc d 196 (101, [l0, l1, l2, l3, l4, l5, l6, l7, some (.int x), l9], [.int i0], h) Q = Tr sc d 196 (103, [l0, l1, l2, l3, l4, l5, l6, l7, some (.int x), l9], [.int x, .int i0], h) Q := t_iload k_196_101 rfl
theorem k_196_103 : lk 196 103 = some (.aload_n 0, 104, 0, 0, .null) := by decide +kernel
theorem x_196_103 : Tr sc d 196 (103, [some (.ref xk), l1, l2, l3, l4, l5, l6, l7, l8, l9], [.int i1, .int i0], h) Q = Tr sc d 196 (104, [some (.ref xk), l1, l2, l3, l4, l5, l6, l7, l8, l9], [.ref xk, .int i1, .int i0], h) Q := t_aload_n k_196_103 rfl
theorem k_196_104 : lk 196 104 = some (.getfield 47, 107, 10, 20, .null) := by decide +kernel
theorem x_196_104 : Tr sc d 196 (104, [l0, l1, l2, l3, l4, l5, l6, l7, l8, l9], [.ref k2, .int i1, .int i0], h) Q = (okp h k2 10 = true ∧ ∃ q, hR h k2 20 = some q ∧ Tr sc d 196 (107, [l0, l1, l2, l3, l4, l5, l6, l7, l8, l9], [.ref q, .int i1, .int i0], h) Q) := t_getr k_196_104
theorem k_196_107 : lk 196 107 = some (.iload 6, 109, 6, 0, .null) := by decide +kernel
theorem x_196_107 : Tr sc d 196 (107, [l0, l1, l2, l3, l4, l5, some (.int x), l7, l8, l9], [.ref k2, .int i1, .int i0], h) Q = Tr sc d 196 (109, [l0, l1, l2, l3, l4, l5, some (.int x), l7, l8, l9], [.int x, .ref k2, .int i1, .int i0], h) Q := t_iload k_196_107 rfl
theorem k_196_109 : lk 196 109 = some (.iaload, 110, 0, 0, .null) := by decide +kernel
theorem x_196_109 : Tr sc d 196 (109, [l0, l1, l2, l3, l4, l5, l6, l7, l8, l9], [.int i3, .ref k2, .int i1, .int i0], h) Q = (iOk sc h k2 i3 ∧ Tr sc d 196 (110, [l0, l1, l2, l3, l4, l5, l6, l7, l8, l9], [.int (iRd sc h k2 i3), .int i1, .int i0], h) Q) := t_iald k_196_109
theorem k_196_110 : lk 196 110 = some (.imul, 111, 0, 0, .null) := by decide +kernel
theorem x_196_110 : Tr sc d 196 (110, [l0, l1, l2, l3, l4, l5, l6, l7, l8, l9], [.int i2, .int i1, .int i0], h) Q = Tr sc d 196 (111, [l0, l1, l2, l3, l4, l5, l6, l7, l8, l9], [.int (i1 * i2), .int i0], h) Q := t_go k_196_110 rfl
theorem k_196_111 : lk 196 111 = some (.iadd, 112, 0, 0, .null) := by decide +kernel
theorem x_196_111 : Tr sc d 196 (111, [l0, l1, l2, l3, l4, l5, l6, l7, l8, l9], [.int i1, .int i0], h) Q = Tr sc d 196 (112, [l0, l1, l2, l3, l4, l5, l6, l7, l8, l9], [.int (i0 + i1)], h) Q := t_go k_196_111 rfl
theorem k_196_112 : lk 196 112 = some (.istore 9, 114, 9, 0, .null) := by decide +kernel
theorem x_196_112 : Tr sc d 196 (112, [l0, l1, l2, l3, l4, l5, l6, l7, l8, l9], [.int i0], h) Q = Tr sc d 196 (114, [l0, l1, l2, l3, l4, l5, l6, l7, cl2 l8, some (.int i0)], [], h) Q := t_istore k_196_112 (Nat.le_of_ble_eq_true rfl)
theorem k_196_114 : lk 196 114 = some (.aload_n 0, 115, 0, 0, .null) := by decide +kernel
theorem x_196_114 : Tr sc d 196 (114, [some (.ref xk), l1, l2, l3, l4, l5, l6, l7, l8, l9], [], h) Q = Tr sc d 196 (115, [some (.ref xk), l1, l2, l3, l4, l5, l6, l7, l8, l9], [.ref xk], h) Q := t_aload_n k_196_114 rfl
theorem k_196_115 : lk 196 115 = some (.iload 7, 117, 7, 0, .null) := by decide +kernel
theorem x_196_115 : Tr sc d 196 (115, [l0, l1, l2, l3, l4, l5, l6, some (.int x), l8, l9], [.ref k0], h) Q = Tr sc d 196 (117, [l0, l1, l2, l3, l4, l5, l6, some (.int x), l8, l9], [.int x, .ref k0], h) Q := t_iload k_196_115 rfl
theorem k_196_117 : lk 196 117 = some (.aload_n 0, 118, 0, 0, .null) := by decide +kernel
theorem x_196_117 : Tr sc d 196 (117, [some (.ref xk), l1, l2, l3, l4, l5, l6, l7, l8, l9], [.int i1, .ref k0], h) Q = Tr sc d 196 (118, [some (.ref xk), l1, l2, l3, l4, l5, l6, l7, l8, l9], [.ref xk, .int i1, .ref k0], h) Q := t_aload_n k_196_117 rfl
theorem k_196_118 : lk 196 118 = some (.getfield 229, 121, 10, 23, .int 0) := by decide +kernel
theorem x_196_118 : Tr sc d 196 (118, [l0, l1, l2, l3, l4, l5, l6, l7, l8, l9], [.ref k2, .int i1, .ref k0], h) Q = (okp h k2 10 = true ∧ Tr sc d 196 (121, [l0, l1, l2, l3, l4, l5, l6, l7, l8, l9], [.int (hI h k2 23), .int i1, .ref k0], h) Q) := t_gd k_196_118 rfl
theorem k_196_121 : lk 196 121 = some (.aload_n 0, 122, 0, 0, .null) := by decide +kernel
theorem x_196_121 : Tr sc d 196 (121, [some (.ref xk), l1, l2, l3, l4, l5, l6, l7, l8, l9], [.int i2, .int i1, .ref k0], h) Q = Tr sc d 196 (122, [some (.ref xk), l1, l2, l3, l4, l5, l6, l7, l8, l9], [.ref xk, .int i2, .int i1, .ref k0], h) Q := t_aload_n k_196_121 rfl
theorem k_196_122 : lk 196 122 = some (.getfield 232, 125, 10, 24, .int 0) := by decide +kernel
theorem x_196_122 : Tr sc d 196 (122, [l0, l1, l2, l3, l4, l5, l6, l7, l8, l9], [.ref k3, .int i2, .int i1, .ref k0], h) Q = (okp h k3 10 = true ∧ Tr sc d 196 (125, [l0, l1, l2, l3, l4, l5, l6, l7, l8, l9], [.int (hI h k3 24), .int i2, .int i1, .ref k0], h) Q) := t_gd k_196_122 rfl
theorem k_196_125 : lk 196 125 = some (.invokestatic 254, 128, 178, 3, .null) := by decide +kernel
theorem x_196_125 : Tr sc (d + 1) 196 (125, [l0, l1, l2, l3, l4, l5, l6, l7, l8, l9], [.int i3, .int i2, .int i1, .ref k0], h) Q = Tr sc d 178 (ent0 178 [.int i1, .int i2, .int i3] h) (fun z => Tr sc (d + 1) 196 (128, [l0, l1, l2, l3, l4, l5, l6, l7, l8, l9], z.1.toList ++ [.ref k0], z.2) Q) := t_cs (as := [.int i1, .int i2, .int i3]) (r := [.ref k0]) k_196_125 (by decide) rfl rfl (Nat.le_of_ble_eq_true rfl) (Nat.le_of_ble_eq_true rfl)
theorem k_196_128 : lk 196 128 = some (.iload 8, 130, 8, 0, .null) := by decide +kernel
theorem x_196_128 : Tr sc d 196 (128, [l0, l1, l2, l3, l4, l5, l6, l7, some (.int x), l9], [.int i1, .ref k0], h) Q = Tr sc d 196 (130, [l0, l1, l2, l3, l4, l5, l6, l7, some (.int x), l9], [.int x, .int i1, .ref k0], h) Q := t_iload k_196_128 rfl
theorem k_196_130 : lk 196 130 = some (.aload_n 0, 131, 0, 0, .null) := by decide +kernel
theorem x_196_130 : Tr sc d 196 (130, [some (.ref xk), l1, l2, l3, l4, l5, l6, l7, l8, l9], [.int i2, .int i1, .ref k0], h) Q = Tr sc d 196 (131, [some (.ref xk), l1, l2, l3, l4, l5, l6, l7, l8, l9], [.ref xk, .int i2, .int i1, .ref k0], h) Q := t_aload_n k_196_130 rfl
theorem k_196_131 : lk 196 131 = some (.getfield 50, 134, 10, 21, .null) := by decide +kernel
theorem x_196_131 : Tr sc d 196 (131, [l0, l1, l2, l3, l4, l5, l6, l7, l8, l9], [.ref k3, .int i2, .int i1, .ref k0], h) Q = (okp h k3 10 = true ∧ ∃ q, hR h k3 21 = some q ∧ Tr sc d 196 (134, [l0, l1, l2, l3, l4, l5, l6, l7, l8, l9], [.ref q, .int i2, .int i1, .ref k0], h) Q) := t_getr k_196_131
theorem k_196_134 : lk 196 134 = some (.iload 6, 136, 6, 0, .null) := by decide +kernel
theorem x_196_134 : Tr sc d 196 (134, [l0, l1, l2, l3, l4, l5, some (.int x), l7, l8, l9], [.ref k3, .int i2, .int i1, .ref k0], h) Q = Tr sc d 196 (136, [l0, l1, l2, l3, l4, l5, some (.int x), l7, l8, l9], [.int x, .ref k3, .int i2, .int i1, .ref k0], h) Q := t_iload k_196_134 rfl
theorem k_196_136 : lk 196 136 = some (.iaload, 137, 0, 0, .null) := by decide +kernel
theorem x_196_136 : Tr sc d 196 (136, [l0, l1, l2, l3, l4, l5, l6, l7, l8, l9], [.int i4, .ref k3, .int i2, .int i1, .ref k0], h) Q = (iOk sc h k3 i4 ∧ Tr sc d 196 (137, [l0, l1, l2, l3, l4, l5, l6, l7, l8, l9], [.int (iRd sc h k3 i4), .int i2, .int i1, .ref k0], h) Q) := t_iald k_196_136
theorem k_196_137 : lk 196 137 = some (.imul, 138, 0, 0, .null) := by decide +kernel
theorem x_196_137 : Tr sc d 196 (137, [l0, l1, l2, l3, l4, l5, l6, l7, l8, l9], [.int i3, .int i2, .int i1, .ref k0], h) Q = Tr sc d 196 (138, [l0, l1, l2, l3, l4, l5, l6, l7, l8, l9], [.int (i2 * i3), .int i1, .ref k0], h) Q := t_go k_196_137 rfl
theorem k_196_138 : lk 196 138 = some (.iadd, 139, 0, 0, .null) := by decide +kernel
theorem x_196_138 : Tr sc d 196 (138, [l0, l1, l2, l3, l4, l5, l6, l7, l8, l9], [.int i2, .int i1, .ref k0], h) Q = Tr sc d 196 (139, [l0, l1, l2, l3, l4, l5, l6, l7, l8, l9], [.int (i1 + i2), .ref k0], h) Q := t_go k_196_138 rfl
theorem k_196_139 : lk 196 139 = some (.putfield 232, 142, 10, 24, .int 0) := by decide +kernel
theorem x_196_139 : Tr sc d 196 (139, [l0, l1, l2, l3, l4, l5, l6, l7, l8, l9], [.int i1, .ref k0], h) Q = (okp h k0 10 = true ∧ Tr sc d 196 (142, [l0, l1, l2, l3, l4, l5, l6, l7, l8, l9], [], (sI h k0 24 i1)) Q) := t_gd k_196_139 rfl
theorem k_196_142 : lk 196 142 = some (.aload_n 0, 143, 0, 0, .null) := by decide +kernel
theorem x_196_142 : Tr sc d 196 (142, [some (.ref xk), l1, l2, l3, l4, l5, l6, l7, l8, l9], [], h) Q = Tr sc d 196 (143, [some (.ref xk), l1, l2, l3, l4, l5, l6, l7, l8, l9], [.ref xk], h) Q := t_aload_n k_196_142 rfl
theorem k_196_143 : lk 196 143 = some (.iload 9, 145, 9, 0, .null) := by decide +kernel
theorem x_196_143 : Tr sc d 196 (143, [l0, l1, l2, l3, l4, l5, l6, l7, l8, some (.int x)], [.ref k0], h) Q = Tr sc d 196 (145, [l0, l1, l2, l3, l4, l5, l6, l7, l8, some (.int x)], [.int x, .ref k0], h) Q := t_iload k_196_143 rfl
theorem k_196_145 : lk 196 145 = some (.putfield 229, 148, 10, 23, .int 0) := by decide +kernel
theorem x_196_145 : Tr sc d 196 (145, [l0, l1, l2, l3, l4, l5, l6, l7, l8, l9], [.int i1, .ref k0], h) Q = (okp h k0 10 = true ∧ Tr sc d 196 (148, [l0, l1, l2, l3, l4, l5, l6, l7, l8, l9], [], (sI h k0 23 i1)) Q) := t_gd k_196_145 rfl
theorem k_196_148 : lk 196 148 = some (.iload 7, 150, 7, 0, .null) := by decide +kernel
theorem x_196_148 : Tr sc d 196 (148, [l0, l1, l2, l3, l4, l5, l6, some (.int x), l8, l9], [], h) Q = Tr sc d 196 (150, [l0, l1, l2, l3, l4, l5, l6, some (.int x), l8, l9], [.int x], h) Q := t_iload k_196_148 rfl
theorem k_196_150 : lk 196 150 = some (.aload_n 0, 151, 0, 0, .null) := by decide +kernel
theorem x_196_150 : Tr sc d 196 (150, [some (.ref xk), l1, l2, l3, l4, l5, l6, l7, l8, l9], [.int i0], h) Q = Tr sc d 196 (151, [some (.ref xk), l1, l2, l3, l4, l5, l6, l7, l8, l9], [.ref xk, .int i0], h) Q := t_aload_n k_196_150 rfl
theorem k_196_151 : lk 196 151 = some (.getfield 235, 154, 10, 25, .int 0) := by decide +kernel
theorem x_196_151 : Tr sc d 196 (151, [l0, l1, l2, l3, l4, l5, l6, l7, l8, l9], [.ref k1, .int i0], h) Q = (okp h k1 10 = true ∧ Tr sc d 196 (154, [l0, l1, l2, l3, l4, l5, l6, l7, l8, l9], [.int (hI h k1 25), .int i0], h) Q) := t_gd k_196_151 rfl
theorem k_196_154 : lk 196 154 = some (.aload_n 0, 155, 0, 0, .null) := by decide +kernel
theorem x_196_154 : Tr sc d 196 (154, [some (.ref xk), l1, l2, l3, l4, l5, l6, l7, l8, l9], [.int i1, .int i0], h) Q = Tr sc d 196 (155, [some (.ref xk), l1, l2, l3, l4, l5, l6, l7, l8, l9], [.ref xk, .int i1, .int i0], h) Q := t_aload_n k_196_154 rfl
theorem k_196_155 : lk 196 155 = some (.getfield 238, 158, 10, 26, .int 0) := by decide +kernel
theorem x_196_155 : Tr sc d 196 (155, [l0, l1, l2, l3, l4, l5, l6, l7, l8, l9], [.ref k2, .int i1, .int i0], h) Q = (okp h k2 10 = true ∧ Tr sc d 196 (158, [l0, l1, l2, l3, l4, l5, l6, l7, l8, l9], [.int (hI h k2 26), .int i1, .int i0], h) Q) := t_gd k_196_155 rfl
theorem k_196_158 : lk 196 158 = some (.invokestatic 250, 161, 177, 3, .null) := by decide +kernel
theorem x_196_158 : Tr sc (d + 1) 196 (158, [l0, l1, l2, l3, l4, l5, l6, l7, l8, l9], [.int i2, .int i1, .int i0], h) Q = Tr sc d 177 (ent0 177 [.int i0, .int i1, .int i2] h) (fun z => Tr sc (d + 1) 196 (161, [l0, l1, l2, l3, l4, l5, l6, l7, l8, l9], z.1.toList ++ [], z.2) Q) := t_cs (as := [.int i0, .int i1, .int i2]) (r := []) k_196_158 (by decide) rfl rfl (Nat.le_of_ble_eq_true rfl) (Nat.le_of_ble_eq_true rfl)
theorem k_196_161 : lk 196 161 = some (.istore 9, 163, 9, 0, .null) := by decide +kernel
theorem x_196_161 : Tr sc d 196 (161, [l0, l1, l2, l3, l4, l5, l6, l7, l8, l9], [.int i0], h) Q = Tr sc d 196 (163, [l0, l1, l2, l3, l4, l5, l6, l7, cl2 l8, some (.int i0)], [], h) Q := t_istore k_196_161 (Nat.le_of_ble_eq_true rfl)
theorem k_196_163 : lk 196 163 = some (.aload_n 0, 164, 0, 0, .null) := by decide +kernel
theorem x_196_163 : Tr sc d 196 (163, [some (.ref xk), l1, l2, l3, l4, l5, l6, l7, l8, l9], [], h) Q = Tr sc d 196 (164, [some (.ref xk), l1, l2, l3, l4, l5, l6, l7, l8, l9], [.ref xk], h) Q := t_aload_n k_196_163 rfl
theorem k_196_164 : lk 196 164 = some (.iload 7, 166, 7, 0, .null) := by decide +kernel
theorem x_196_164 : Tr sc d 196 (164, [l0, l1, l2, l3, l4, l5, l6, some (.int x), l8, l9], [.ref k0], h) Q = Tr sc d 196 (166, [l0, l1, l2, l3, l4, l5, l6, some (.int x), l8, l9], [.int x, .ref k0], h) Q := t_iload k_196_164 rfl
theorem k_196_166 : lk 196 166 = some (.aload_n 0, 167, 0, 0, .null) := by decide +kernel
theorem x_196_166 : Tr sc d 196 (166, [some (.ref xk), l1, l2, l3, l4, l5, l6, l7, l8, l9], [.int i1, .ref k0], h) Q = Tr sc d 196 (167, [some (.ref xk), l1, l2, l3, l4, l5, l6, l7, l8, l9], [.ref xk, .int i1, .ref k0], h) Q := t_aload_n k_196_166 rfl
theorem k_196_167 : lk 196 167 = some (.getfield 235, 170, 10, 25, .int 0) := by decide +kernel
theorem x_196_167 : Tr sc d 196 (167, [l0, l1, l2, l3, l4, l5, l6, l7, l8, l9], [.ref k2, .int i1, .ref k0], h) Q = (okp h k2 10 = true ∧ Tr sc d 196 (170, [l0, l1, l2, l3, l4, l5, l6, l7, l8, l9], [.int (hI h k2 25), .int i1, .ref k0], h) Q) := t_gd k_196_167 rfl
theorem k_196_170 : lk 196 170 = some (.aload_n 0, 171, 0, 0, .null) := by decide +kernel
theorem x_196_170 : Tr sc d 196 (170, [some (.ref xk), l1, l2, l3, l4, l5, l6, l7, l8, l9], [.int i2, .int i1, .ref k0], h) Q = Tr sc d 196 (171, [some (.ref xk), l1, l2, l3, l4, l5, l6, l7, l8, l9], [.ref xk, .int i2, .int i1, .ref k0], h) Q := t_aload_n k_196_170 rfl
theorem k_196_171 : lk 196 171 = some (.getfield 238, 174, 10, 26, .int 0) := by decide +kernel
theorem x_196_171 : Tr sc d 196 (171, [l0, l1, l2, l3, l4, l5, l6, l7, l8, l9], [.ref k3, .int i2, .int i1, .ref k0], h) Q = (okp h k3 10 = true ∧ Tr sc d 196 (174, [l0, l1, l2, l3, l4, l5, l6, l7, l8, l9], [.int (hI h k3 26), .int i2, .int i1, .ref k0], h) Q) := t_gd k_196_171 rfl
theorem k_196_174 : lk 196 174 = some (.invokestatic 254, 177, 178, 3, .null) := by decide +kernel
theorem x_196_174 : Tr sc (d + 1) 196 (174, [l0, l1, l2, l3, l4, l5, l6, l7, l8, l9], [.int i3, .int i2, .int i1, .ref k0], h) Q = Tr sc d 178 (ent0 178 [.int i1, .int i2, .int i3] h) (fun z => Tr sc (d + 1) 196 (177, [l0, l1, l2, l3, l4, l5, l6, l7, l8, l9], z.1.toList ++ [.ref k0], z.2) Q) := t_cs (as := [.int i1, .int i2, .int i3]) (r := [.ref k0]) k_196_174 (by decide) rfl rfl (Nat.le_of_ble_eq_true rfl) (Nat.le_of_ble_eq_true rfl)
theorem k_196_177 : lk 196 177 = some (.putfield 238, 180, 10, 26, .int 0) := by decide +kernel
theorem x_196_177 : Tr sc d 196 (177, [l0, l1, l2, l3, l4, l5, l6, l7, l8, l9], [.int i1, .ref k0], h) Q = (okp h k0 10 = true ∧ Tr sc d 196 (180, [l0, l1, l2, l3, l4, l5, l6, l7, l8, l9], [], (sI h k0 26 i1)) Q) := t_gd k_196_177 rfl
theorem k_196_180 : lk 196 180 = some (.aload_n 0, 181, 0, 0, .null) := by decide +kernel
theorem x_196_180 : Tr sc d 196 (180, [some (.ref xk), l1, l2, l3, l4, l5, l6, l7, l8, l9], [], h) Q = Tr sc d 196 (181, [some (.ref xk), l1, l2, l3, l4, l5, l6, l7, l8, l9], [.ref xk], h) Q := t_aload_n k_196_180 rfl
theorem k_196_181 : lk 196 181 = some (.iload 9, 183, 9, 0, .null) := by decide +kernel
theorem x_196_181 : Tr sc d 196 (181, [l0, l1, l2, l3, l4, l5, l6, l7, l8, some (.int x)], [.ref k0], h) Q = Tr sc d 196 (183, [l0, l1, l2, l3, l4, l5, l6, l7, l8, some (.int x)], [.int x, .ref k0], h) Q := t_iload k_196_181 rfl
theorem k_196_183 : lk 196 183 = some (.putfield 235, 186, 10, 25, .int 0) := by decide +kernel
theorem x_196_183 : Tr sc d 196 (183, [l0, l1, l2, l3, l4, l5, l6, l7, l8, l9], [.int i1, .ref k0], h) Q = (okp h k0 10 = true ∧ Tr sc d 196 (186, [l0, l1, l2, l3, l4, l5, l6, l7, l8, l9], [], (sI h k0 25 i1)) Q) := t_gd k_196_183 rfl
theorem k_196_186 : lk 196 186 = some (.iload 7, 188, 7, 0, .null) := by decide +kernel
theorem x_196_186 : Tr sc d 196 (186, [l0, l1, l2, l3, l4, l5, l6, some (.int x), l8, l9], [], h) Q = Tr sc d 196 (188, [l0, l1, l2, l3, l4, l5, l6, some (.int x), l8, l9], [.int x], h) Q := t_iload k_196_186 rfl
theorem k_196_188 : lk 196 188 = some (.aload_n 0, 189, 0, 0, .null) := by decide +kernel
theorem x_196_188 : Tr sc d 196 (188, [some (.ref xk), l1, l2, l3, l4, l5, l6, l7, l8, l9], [.int i0], h) Q = Tr sc d 196 (189, [some (.ref xk), l1, l2, l3, l4, l5, l6, l7, l8, l9], [.ref xk, .int i0], h) Q := t_aload_n k_196_188 rfl
theorem k_196_189 : lk 196 189 = some (.getfield 241, 192, 10, 27, .int 0) := by decide +kernel
theorem x_196_189 : Tr sc d 196 (189, [l0, l1, l2, l3, l4, l5, l6, l7, l8, l9], [.ref k1, .int i0], h) Q = (okp h k1 10 = true ∧ Tr sc d 196 (192, [l0, l1, l2, l3, l4, l5, l6, l7, l8, l9], [.int (hI h k1 27), .int i0], h) Q) := t_gd k_196_189 rfl
theorem k_196_192 : lk 196 192 = some (.aload_n 0, 193, 0, 0, .null) := by decide +kernel
theorem x_196_192 : Tr sc d 196 (192, [some (.ref xk), l1, l2, l3, l4, l5, l6, l7, l8, l9], [.int i1, .int i0], h) Q = Tr sc d 196 (193, [some (.ref xk), l1, l2, l3, l4, l5, l6, l7, l8, l9], [.ref xk, .int i1, .int i0], h) Q := t_aload_n k_196_192 rfl
theorem k_196_193 : lk 196 193 = some (.getfield 244, 196, 10, 28, .int 0) := by decide +kernel
theorem x_196_193 : Tr sc d 196 (193, [l0, l1, l2, l3, l4, l5, l6, l7, l8, l9], [.ref k2, .int i1, .int i0], h) Q = (okp h k2 10 = true ∧ Tr sc d 196 (196, [l0, l1, l2, l3, l4, l5, l6, l7, l8, l9], [.int (hI h k2 28), .int i1, .int i0], h) Q) := t_gd k_196_193 rfl
theorem k_196_196 : lk 196 196 = some (.invokestatic 250, 199, 177, 3, .null) := by decide +kernel
theorem x_196_196 : Tr sc (d + 1) 196 (196, [l0, l1, l2, l3, l4, l5, l6, l7, l8, l9], [.int i2, .int i1, .int i0], h) Q = Tr sc d 177 (ent0 177 [.int i0, .int i1, .int i2] h) (fun z => Tr sc (d + 1) 196 (199, [l0, l1, l2, l3, l4, l5, l6, l7, l8, l9], z.1.toList ++ [], z.2) Q) := t_cs (as := [.int i0, .int i1, .int i2]) (r := []) k_196_196 (by decide) rfl rfl (Nat.le_of_ble_eq_true rfl) (Nat.le_of_ble_eq_true rfl)
theorem k_196_199 : lk 196 199 = some (.istore 9, 201, 9, 0, .null) := by decide +kernel
theorem x_196_199 : Tr sc d 196 (199, [l0, l1, l2, l3, l4, l5, l6, l7, l8, l9], [.int i0], h) Q = Tr sc d 196 (201, [l0, l1, l2, l3, l4, l5, l6, l7, cl2 l8, some (.int i0)], [], h) Q := t_istore k_196_199 (Nat.le_of_ble_eq_true rfl)
theorem k_196_201 : lk 196 201 = some (.aload_n 0, 202, 0, 0, .null) := by decide +kernel
theorem x_196_201 : Tr sc d 196 (201, [some (.ref xk), l1, l2, l3, l4, l5, l6, l7, l8, l9], [], h) Q = Tr sc d 196 (202, [some (.ref xk), l1, l2, l3, l4, l5, l6, l7, l8, l9], [.ref xk], h) Q := t_aload_n k_196_201 rfl
theorem k_196_202 : lk 196 202 = some (.iload 7, 204, 7, 0, .null) := by decide +kernel
theorem x_196_202 : Tr sc d 196 (202, [l0, l1, l2, l3, l4, l5, l6, some (.int x), l8, l9], [.ref k0], h) Q = Tr sc d 196 (204, [l0, l1, l2, l3, l4, l5, l6, some (.int x), l8, l9], [.int x, .ref k0], h) Q := t_iload k_196_202 rfl
theorem k_196_204 : lk 196 204 = some (.aload_n 0, 205, 0, 0, .null) := by decide +kernel
theorem x_196_204 : Tr sc d 196 (204, [some (.ref xk), l1, l2, l3, l4, l5, l6, l7, l8, l9], [.int i1, .ref k0], h) Q = Tr sc d 196 (205, [some (.ref xk), l1, l2, l3, l4, l5, l6, l7, l8, l9], [.ref xk, .int i1, .ref k0], h) Q := t_aload_n k_196_204 rfl
theorem k_196_205 : lk 196 205 = some (.getfield 241, 208, 10, 27, .int 0) := by decide +kernel
theorem x_196_205 : Tr sc d 196 (205, [l0, l1, l2, l3, l4, l5, l6, l7, l8, l9], [.ref k2, .int i1, .ref k0], h) Q = (okp h k2 10 = true ∧ Tr sc d 196 (208, [l0, l1, l2, l3, l4, l5, l6, l7, l8, l9], [.int (hI h k2 27), .int i1, .ref k0], h) Q) := t_gd k_196_205 rfl
theorem k_196_208 : lk 196 208 = some (.aload_n 0, 209, 0, 0, .null) := by decide +kernel
theorem x_196_208 : Tr sc d 196 (208, [some (.ref xk), l1, l2, l3, l4, l5, l6, l7, l8, l9], [.int i2, .int i1, .ref k0], h) Q = Tr sc d 196 (209, [some (.ref xk), l1, l2, l3, l4, l5, l6, l7, l8, l9], [.ref xk, .int i2, .int i1, .ref k0], h) Q := t_aload_n k_196_208 rfl
theorem k_196_209 : lk 196 209 = some (.getfield 244, 212, 10, 28, .int 0) := by decide +kernel
theorem x_196_209 : Tr sc d 196 (209, [l0, l1, l2, l3, l4, l5, l6, l7, l8, l9], [.ref k3, .int i2, .int i1, .ref k0], h) Q = (okp h k3 10 = true ∧ Tr sc d 196 (212, [l0, l1, l2, l3, l4, l5, l6, l7, l8, l9], [.int (hI h k3 28), .int i2, .int i1, .ref k0], h) Q) := t_gd k_196_209 rfl
theorem k_196_212 : lk 196 212 = some (.invokestatic 254, 215, 178, 3, .null) := by decide +kernel
theorem x_196_212 : Tr sc (d + 1) 196 (212, [l0, l1, l2, l3, l4, l5, l6, l7, l8, l9], [.int i3, .int i2, .int i1, .ref k0], h) Q = Tr sc d 178 (ent0 178 [.int i1, .int i2, .int i3] h) (fun z => Tr sc (d + 1) 196 (215, [l0, l1, l2, l3, l4, l5, l6, l7, l8, l9], z.1.toList ++ [.ref k0], z.2) Q) := t_cs (as := [.int i1, .int i2, .int i3]) (r := [.ref k0]) k_196_212 (by decide) rfl rfl (Nat.le_of_ble_eq_true rfl) (Nat.le_of_ble_eq_true rfl)
theorem k_196_215 : lk 196 215 = some (.putfield 244, 218, 10, 28, .int 0) := by decide +kernel
theorem x_196_215 : Tr sc d 196 (215, [l0, l1, l2, l3, l4, l5, l6, l7, l8, l9], [.int i1, .ref k0], h) Q = (okp h k0 10 = true ∧ Tr sc d 196 (218, [l0, l1, l2, l3, l4, l5, l6, l7, l8, l9], [], (sI h k0 28 i1)) Q) := t_gd k_196_215 rfl
theorem k_196_218 : lk 196 218 = some (.aload_n 0, 219, 0, 0, .null) := by decide +kernel
theorem x_196_218 : Tr sc d 196 (218, [some (.ref xk), l1, l2, l3, l4, l5, l6, l7, l8, l9], [], h) Q = Tr sc d 196 (219, [some (.ref xk), l1, l2, l3, l4, l5, l6, l7, l8, l9], [.ref xk], h) Q := t_aload_n k_196_218 rfl
theorem k_196_219 : lk 196 219 = some (.iload 9, 221, 9, 0, .null) := by decide +kernel
theorem x_196_219 : Tr sc d 196 (219, [l0, l1, l2, l3, l4, l5, l6, l7, l8, some (.int x)], [.ref k0], h) Q = Tr sc d 196 (221, [l0, l1, l2, l3, l4, l5, l6, l7, l8, some (.int x)], [.int x, .ref k0], h) Q := t_iload k_196_219 rfl
theorem k_196_221 : lk 196 221 = some (.putfield 241, 224, 10, 27, .int 0) := by decide +kernel
theorem x_196_221 : Tr sc d 196 (221, [l0, l1, l2, l3, l4, l5, l6, l7, l8, l9], [.int i1, .ref k0], h) Q = (okp h k0 10 = true ∧ Tr sc d 196 (224, [l0, l1, l2, l3, l4, l5, l6, l7, l8, l9], [], (sI h k0 27 i1)) Q) := t_gd k_196_221 rfl
theorem k_196_224 : lk 196 224 = some (.iinc 5 1, 227, 5, 0, .int 1) := by decide +kernel
theorem x_196_224 : Tr sc d 196 (224, [l0, l1, l2, l3, l4, some (.int x), l6, l7, l8, l9], [], h) Q = Tr sc d 196 (227, [l0, l1, l2, l3, cl2 l4, some (.int (x + 1)), l6, l7, l8, l9], [], h) Q := t_inc k_196_224 rfl (Nat.le_of_ble_eq_true rfl)
theorem k_196_227 : lk 196 227 = some (.goto (-194), 230, 33, 0, .null) := by decide +kernel
theorem x_196_227 : Tr sc d 196 (227, [l0, l1, l2, l3, l4, l5, l6, l7, l8, l9], [], h) Q = Tr sc d 196 (33, [l0, l1, l2, l3, l4, l5, l6, l7, l8, l9], [], h) Q := t_go k_196_227 rfl
theorem k_196_230 : lk 196 230 = some (.return_, 231, 0, 0, .null) := by decide +kernel
theorem x_196_230 : Tr sc d 196 (230, [l0, l1, l2, l3, l4, l5, l6, l7, l8, l9], [], h) Q = Q (none, h) := t_ret k_196_230 (by rw [r_196]; rfl)
theorem e_196 : Tr sc d 196 (ent0 196 [.ref k0, .int i1, .int i2, .int i3, .int i4] h) Q = Tr sc d 196 (0, [some (.ref k0), some (.int i1), some (.int i2), some (.int i3), some (.int i4), none, none, none, none, none], [], h) Q := by
  have e : mL 196 = 10 := by decide +kernel
  unfold ent0
  rw [e]
  rfl
theorem r_197 : mR 197 = some .int := by decide +kernel
theorem k_197_0 : lk 197 0 = some (.iload_n 1, 1, 1, 0, .null) := by decide +kernel
theorem x_197_0 : Tr sc d 197 (0, [l0, some (.int x), l2, l3, l4, l5], [], h) Q = Tr sc d 197 (1, [l0, some (.int x), l2, l3, l4, l5], [.int x], h) Q := t_iload_n k_197_0 rfl
theorem k_197_1 : lk 197 1 = some (.invokestatic 190, 4, 175, 1, .null) := by decide +kernel
theorem x_197_1 : Tr sc (d + 1) 197 (1, [l0, l1, l2, l3, l4, l5], [.int i0], h) Q = Tr sc d 175 (ent0 175 [.int i0] h) (fun z => Tr sc (d + 1) 197 (4, [l0, l1, l2, l3, l4, l5], z.1.toList ++ [], z.2) Q) := t_cs (as := [.int i0]) (r := []) k_197_1 (by decide) rfl rfl (Nat.le_of_ble_eq_true rfl) (Nat.le_of_ble_eq_true rfl)
theorem k_197_4 : lk 197 4 = some (.ifCond .eq 10, 7, 14, 0, .null) := by decide +kernel
theorem x_197_4 : Tr sc d 197 (4, [l0, l1, l2, l3, l4, l5], [.int i0], h) Q = if i0 = 0 then Tr sc d 197 (14, [l0, l1, l2, l3, l4, l5], [], h) Q else Tr sc d 197 (7, [l0, l1, l2, l3, l4, l5], [], h) Q := t_if k_197_4 rfl
theorem k_197_7 : lk 197 7 = some (.iload_n 2, 8, 2, 0, .null) := by decide +kernel
theorem x_197_7 : Tr sc d 197 (7, [l0, l1, some (.int x), l3, l4, l5], [], h) Q = Tr sc d 197 (8, [l0, l1, some (.int x), l3, l4, l5], [.int x], h) Q := t_iload_n k_197_7 rfl
theorem k_197_8 : lk 197 8 = some (.invokestatic 148, 11, 160, 1, .null) := by decide +kernel
theorem x_197_8 : Tr sc (d + 1) 197 (8, [l0, l1, l2, l3, l4, l5], [.int i0], h) Q = Tr sc d 160 (ent0 160 [.int i0] h) (fun z => Tr sc (d + 1) 197 (11, [l0, l1, l2, l3, l4, l5], z.1.toList ++ [], z.2) Q) := t_cs (as := [.int i0]) (r := []) k_197_8 (by decide) rfl rfl (Nat.le_of_ble_eq_true rfl) (Nat.le_of_ble_eq_true rfl)
theorem k_197_11 : lk 197 11 = some (.ifCond .ne 5, 14, 16, 0, .null) := by decide +kernel
theorem x_197_11 : Tr sc d 197 (11, [l0, l1, l2, l3, l4, l5], [.int i0], h) Q = if i0 = 0 then Tr sc d 197 (14, [l0, l1, l2, l3, l4, l5], [], h) Q else Tr sc d 197 (16, [l0, l1, l2, l3, l4, l5], [], h) Q := t_if k_197_11 rfl
theorem k_197_14 : lk 197 14 = some (.iconst (-1), 15, 0, 0, .int (-1)) := by decide +kernel
theorem x_197_14 : Tr sc d 197 (14, [l0, l1, l2, l3, l4, l5], [], h) Q = Tr sc d 197 (15, [l0, l1, l2, l3, l4, l5], [.int (-1)], h) Q := t_go k_197_14 rfl
theorem k_197_15 : lk 197 15 = some (.ireturn, 16, 0, 0, .null) := by decide +kernel
theorem x_197_15 : Tr sc d 197 (15, [l0, l1, l2, l3, l4, l5], [.int i0], h) Q = Q (some (.int i0), h) := t_ret k_197_15 (by rw [r_197]; rfl)
theorem k_197_16 : lk 197 16 = some (.aload_n 0, 17, 0, 0, .null) := by decide +kernel
theorem x_197_16 : Tr sc d 197 (16, [some (.ref xk), l1, l2, l3, l4, l5], [], h) Q = Tr sc d 197 (17, [some (.ref xk), l1, l2, l3, l4, l5], [.ref xk], h) Q := t_aload_n k_197_16 rfl
theorem k_197_17 : lk 197 17 = some (.getfield 41, 20, 10, 18, .null) := by decide +kernel
theorem x_197_17 : Tr sc d 197 (17, [l0, l1, l2, l3, l4, l5], [.ref k0], h) Q = (okp h k0 10 = true ∧ ∃ q, hR h k0 18 = some q ∧ Tr sc d 197 (20, [l0, l1, l2, l3, l4, l5], [.ref q], h) Q) := t_getr k_197_17
theorem k_197_20 : lk 197 20 = some (.iload_n 1, 21, 1, 0, .null) := by decide +kernel
theorem x_197_20 : Tr sc d 197 (20, [l0, some (.int x), l2, l3, l4, l5], [.ref k0], h) Q = Tr sc d 197 (21, [l0, some (.int x), l2, l3, l4, l5], [.int x, .ref k0], h) Q := t_iload_n k_197_20 rfl
theorem k_197_21 : lk 197 21 = some (.iaload, 22, 0, 0, .null) := by decide +kernel
theorem x_197_21 : Tr sc d 197 (21, [l0, l1, l2, l3, l4, l5], [.int i1, .ref k0], h) Q = (iOk sc h k0 i1 ∧ Tr sc d 197 (22, [l0, l1, l2, l3, l4, l5], [.int (iRd sc h k0 i1)], h) Q) := t_iald k_197_21
theorem k_197_22 : lk 197 22 = some (.ifCond .eq 12, 25, 34, 0, .null) := by decide +kernel
theorem x_197_22 : Tr sc d 197 (22, [l0, l1, l2, l3, l4, l5], [.int i0], h) Q = if i0 = 0 then Tr sc d 197 (34, [l0, l1, l2, l3, l4, l5], [], h) Q else Tr sc d 197 (25, [l0, l1, l2, l3, l4, l5], [], h) Q := t_if k_197_22 rfl
theorem k_197_25 : lk 197 25 = some (.aload_n 0, 26, 0, 0, .null) := by decide +kernel
theorem x_197_25 : Tr sc d 197 (25, [some (.ref xk), l1, l2, l3, l4, l5], [], h) Q = Tr sc d 197 (26, [some (.ref xk), l1, l2, l3, l4, l5], [.ref xk], h) Q := t_aload_n k_197_25 rfl
theorem k_197_26 : lk 197 26 = some (.getfield 17, 29, 10, 6, .null) := by decide +kernel
theorem x_197_26 : Tr sc d 197 (26, [l0, l1, l2, l3, l4, l5], [.ref k0], h) Q = (okp h k0 10 = true ∧ ∃ q, hR h k0 6 = some q ∧ Tr sc d 197 (29, [l0, l1, l2, l3, l4, l5], [.ref q], h) Q) := t_getr k_197_26
theorem k_197_29 : lk 197 29 = some (.iload_n 2, 30, 2, 0, .null) := by decide +kernel
theorem x_197_29 : Tr sc d 197 (29, [l0, l1, some (.int x), l3, l4, l5], [.ref k0], h) Q = Tr sc d 197 (30, [l0, l1, some (.int x), l3, l4, l5], [.int x, .ref k0], h) Q := t_iload_n k_197_29 rfl
theorem k_197_30 : lk 197 30 = some (.iaload, 31, 0, 0, .null) := by decide +kernel
theorem x_197_30 : Tr sc d 197 (30, [l0, l1, l2, l3, l4, l5], [.int i1, .ref k0], h) Q = (iOk sc h k0 i1 ∧ Tr sc d 197 (31, [l0, l1, l2, l3, l4, l5], [.int (iRd sc h k0 i1)], h) Q) := t_iald k_197_30
theorem k_197_31 : lk 197 31 = some (.ifCond .ge 9, 34, 40, 0, .null) := by decide +kernel
theorem x_197_31 : Tr sc d 197 (31, [l0, l1, l2, l3, l4, l5], [.int i0], h) Q = if 0 ≤ i0 then Tr sc d 197 (40, [l0, l1, l2, l3, l4, l5], [], h) Q else Tr sc d 197 (34, [l0, l1, l2, l3, l4, l5], [], h) Q := t_if k_197_31 rfl
theorem k_197_34 : lk 197 34 = some (.aload_n 0, 35, 0, 0, .null) := by decide +kernel
theorem x_197_34 : Tr sc d 197 (34, [some (.ref xk), l1, l2, l3, l4, l5], [], h) Q = Tr sc d 197 (35, [some (.ref xk), l1, l2, l3, l4, l5], [.ref xk], h) Q := t_aload_n k_197_34 rfl
theorem k_197_35 : lk 197 35 = some (.iconst 1, 36, 0, 0, .int 1) := by decide +kernel
theorem x_197_35 : Tr sc d 197 (35, [l0, l1, l2, l3, l4, l5], [.ref k0], h) Q = Tr sc d 197 (36, [l0, l1, l2, l3, l4, l5], [.int 1, .ref k0], h) Q := t_go k_197_35 rfl
theorem k_197_36 : lk 197 36 = some (.invokevirtual 152, 39, 157, 1, .null) := by decide +kernel
theorem x_197_36 : Tr sc (d + 1) 197 (36, [l0, l1, l2, l3, l4, l5], [.int i1, .ref k0], h) Q = (okp h k0 10 = true ∧ Tr sc d 157 (ent0 157 [.ref k0, .int i1] h) (fun z => Tr sc (d + 1) 197 (39, [l0, l1, l2, l3, l4, l5], z.1.toList ++ [], z.2) Q)) := t_cv (as := [.int i1]) (r := []) k_197_36 rfl rfl (Nat.le_of_ble_eq_true rfl) (Nat.le_of_ble_eq_true rfl) (Nat.le_of_ble_eq_true rfl)
theorem k_197_39 : lk 197 39 = some (.ireturn, 40, 0, 0, .null) := by decide +kernel
theorem x_197_39 : Tr sc d 197 (39, [l0, l1, l2, l3, l4, l5], [.int i0], h) Q = Q (some (.int i0), h) := t_ret k_197_39 (by rw [r_197]; rfl)
theorem k_197_40 : lk 197 40 = some (.aload_n 0, 41, 0, 0, .null) := by decide +kernel
theorem x_197_40 : Tr sc d 197 (40, [some (.ref xk), l1, l2, l3, l4, l5], [], h) Q = Tr sc d 197 (41, [some (.ref xk), l1, l2, l3, l4, l5], [.ref xk], h) Q := t_aload_n k_197_40 rfl
theorem k_197_41 : lk 197 41 = some (.getfield 17, 44, 10, 6, .null) := by decide +kernel
theorem x_197_41 : Tr sc d 197 (41, [l0, l1, l2, l3, l4, l5], [.ref k0], h) Q = (okp h k0 10 = true ∧ ∃ q, hR h k0 6 = some q ∧ Tr sc d 197 (44, [l0, l1, l2, l3, l4, l5], [.ref q], h) Q) := t_getr k_197_41
theorem k_197_44 : lk 197 44 = some (.iload_n 2, 45, 2, 0, .null) := by decide +kernel
theorem x_197_44 : Tr sc d 197 (44, [l0, l1, some (.int x), l3, l4, l5], [.ref k0], h) Q = Tr sc d 197 (45, [l0, l1, some (.int x), l3, l4, l5], [.int x, .ref k0], h) Q := t_iload_n k_197_44 rfl
theorem k_197_45 : lk 197 45 = some (.iaload, 46, 0, 0, .null) := by decide +kernel
theorem x_197_45 : Tr sc d 197 (45, [l0, l1, l2, l3, l4, l5], [.int i1, .ref k0], h) Q = (iOk sc h k0 i1 ∧ Tr sc d 197 (46, [l0, l1, l2, l3, l4, l5], [.int (iRd sc h k0 i1)], h) Q) := t_iald k_197_45
theorem k_197_46 : lk 197 46 = some (.iload_n 3, 47, 3, 0, .null) := by decide +kernel
theorem x_197_46 : Tr sc d 197 (46, [l0, l1, l2, some (.int x), l4, l5], [.int i0], h) Q = Tr sc d 197 (47, [l0, l1, l2, some (.int x), l4, l5], [.int x, .int i0], h) Q := t_iload_n k_197_46 rfl
theorem k_197_47 : lk 197 47 = some (.if_icmp .ge 9, 50, 56, 0, .null) := by decide +kernel
theorem x_197_47 : Tr sc d 197 (47, [l0, l1, l2, l3, l4, l5], [.int i1, .int i0], h) Q = if i1 ≤ i0 then Tr sc d 197 (56, [l0, l1, l2, l3, l4, l5], [], h) Q else Tr sc d 197 (50, [l0, l1, l2, l3, l4, l5], [], h) Q := t_if k_197_47 rfl
theorem k_197_50 : lk 197 50 = some (.aload_n 0, 51, 0, 0, .null) := by decide +kernel
theorem x_197_50 : Tr sc d 197 (50, [some (.ref xk), l1, l2, l3, l4, l5], [], h) Q = Tr sc d 197 (51, [some (.ref xk), l1, l2, l3, l4, l5], [.ref xk], h) Q := t_aload_n k_197_50 rfl
theorem k_197_51 : lk 197 51 = some (.iconst 5, 52, 0, 0, .int 5) := by decide +kernel
theorem x_197_51 : Tr sc d 197 (51, [l0, l1, l2, l3, l4, l5], [.ref k0], h) Q = Tr sc d 197 (52, [l0, l1, l2, l3, l4, l5], [.int 5, .ref k0], h) Q := t_go k_197_51 rfl
theorem k_197_52 : lk 197 52 = some (.invokevirtual 152, 55, 157, 1, .null) := by decide +kernel
theorem x_197_52 : Tr sc (d + 1) 197 (52, [l0, l1, l2, l3, l4, l5], [.int i1, .ref k0], h) Q = (okp h k0 10 = true ∧ Tr sc d 157 (ent0 157 [.ref k0, .int i1] h) (fun z => Tr sc (d + 1) 197 (55, [l0, l1, l2, l3, l4, l5], z.1.toList ++ [], z.2) Q)) := t_cv (as := [.int i1]) (r := []) k_197_52 rfl rfl (Nat.le_of_ble_eq_true rfl) (Nat.le_of_ble_eq_true rfl) (Nat.le_of_ble_eq_true rfl)
theorem k_197_55 : lk 197 55 = some (.ireturn, 56, 0, 0, .null) := by decide +kernel
theorem x_197_55 : Tr sc d 197 (55, [l0, l1, l2, l3, l4, l5], [.int i0], h) Q = Q (some (.int i0), h) := t_ret k_197_55 (by rw [r_197]; rfl)
theorem k_197_56 : lk 197 56 = some (.iconst 1, 57, 0, 0, .int 1) := by decide +kernel
theorem x_197_56 : Tr sc d 197 (56, [l0, l1, l2, l3, l4, l5], [], h) Q = Tr sc d 197 (57, [l0, l1, l2, l3, l4, l5], [.int 1], h) Q := t_go k_197_56 rfl
theorem k_197_57 : lk 197 57 = some (.istore 4, 59, 4, 0, .null) := by decide +kernel
theorem x_197_57 : Tr sc d 197 (57, [l0, l1, l2, l3, l4, l5], [.int i0], h) Q = Tr sc d 197 (59, [l0, l1, l2, cl2 l3, some (.int i0), l5], [], h) Q := t_istore k_197_57 (Nat.le_of_ble_eq_true rfl)
theorem k_197_59 : lk 197 59 = some (.iconst 0, 60, 0, 0, .int 0) := by decide +kernel
theorem x_197_59 : Tr sc d 197 (59, [l0, l1, l2, l3, l4, l5], [], h) Q = Tr sc d 197 (60, [l0, l1, l2, l3, l4, l5], [.int 0], h) Q := t_go k_197_59 rfl
theorem k_197_60 : lk 197 60 = some (.istore 5, 62, 5, 0, .null) := by decide +kernel
theorem x_197_60 : Tr sc d 197 (60, [l0, l1, l2, l3, l4, l5], [.int i0], h) Q = Tr sc d 197 (62, [l0, l1, l2, l3, cl2 l4, some (.int i0)], [], h) Q := t_istore k_197_60 (Nat.le_of_ble_eq_true rfl)
theorem k_197_62 : lk 197 62 = some (.iload 5, 64, 5, 0, .null) := by decide +kernel
theorem x_197_62 : Tr sc d 197 (62, [l0, l1, l2, l3, l4, some (.int x)], [], h) Q = Tr sc d 197 (64, [l0, l1, l2, l3, l4, some (.int x)], [.int x], h) Q := t_iload k_197_62 rfl
theorem k_197_64 : lk 197 64 = some (.iload_n 3, 65, 3, 0, .null) := by decide +kernel
theorem x_197_64 : Tr sc d 197 (64, [l0, l1, l2, some (.int x), l4, l5], [.int i0], h) Q = Tr sc d 197 (65, [l0, l1, l2, some (.int x), l4, l5], [.int x, .int i0], h) Q := t_iload_n k_197_64 rfl
theorem k_197_65 : lk 197 65 = some (.if_icmp .ge 48, 68, 113, 0, .null) := by decide +kernel
theorem x_197_65 : Tr sc d 197 (65, [l0, l1, l2, l3, l4, l5], [.int i1, .int i0], h) Q = if i1 ≤ i0 then Tr sc d 197 (113, [l0, l1, l2, l3, l4, l5], [], h) Q else Tr sc d 197 (68, [l0, l1, l2, l3, l4, l5], [], h) Q := t_if k_197_65 rfl
theorem k_197_68 : lk 197 68 = some (.iload 4, 70, 4, 0, .null) := by decide +kernel
theorem x_197_68 : Tr sc d 197 (68, [l0, l1, l2, l3, some (.int x), l5], [], h) Q = Tr sc d 197 (70, [l0, l1, l2, l3, some (.int x), l5], [.int x], h) Q := t_iload k_197_68 rfl
theorem k_197_70 : lk 197 70 = some (.ifCond .eq 34, 73, 104, 0, .null) := by decide +kernel
theorem x_197_70 : Tr sc d 197 (70, [l0, l1, l2, l3, l4, l5], [.int i0], h) Q = if i0 = 0 then Tr sc d 197 (104, [l0, l1, l2, l3, l4, l5], [], h) Q else Tr sc d 197 (73, [l0, l1, l2, l3, l4, l5], [], h) Q := t_if k_197_70 rfl
theorem k_197_73 : lk 197 73 = some (.aload_n 0, 74, 0, 0, .null) := by decide +kernel
theorem x_197_73 : Tr sc d 197 (73, [some (.ref xk), l1, l2, l3, l4, l5], [], h) Q = Tr sc d 197 (74, [some (.ref xk), l1, l2, l3, l4, l5], [.ref xk], h) Q := t_aload_n k_197_73 rfl
theorem k_197_74 : lk 197 74 = some (.getfield 20, 77, 10, 7, .null) := by decide +kernel
theorem x_197_74 : Tr sc d 197 (74, [l0, l1, l2, l3, l4, l5], [.ref k0], h) Q = (okp h k0 10 = true ∧ ∃ q, hR h k0 7 = some q ∧ Tr sc d 197 (77, [l0, l1, l2, l3, l4, l5], [.ref q], h) Q) := t_getr k_197_74
theorem k_197_77 : lk 197 77 = some (.bipush 40, 79, 0, 0, .int 40) := by decide +kernel
theorem x_197_77 : Tr sc d 197 (77, [l0, l1, l2, l3, l4, l5], [.ref k0], h) Q = Tr sc d 197 (79, [l0, l1, l2, l3, l4, l5], [.int 40, .ref k0], h) Q := t_go k_197_77 rfl
theorem k_197_79 : lk 197 79 = some (.iload_n 2, 80, 2, 0, .null) := by decide +kernel
theorem x_197_79 : Tr sc d 197 (79, [l0, l1, some (.int x), l3, l4, l5], [.int i1, .ref k0], h) Q = Tr sc d 197 (80, [l0, l1, some (.int x), l3, l4, l5], [.int x, .int i1, .ref k0], h) Q := t_iload_n k_197_79 rfl
theorem k_197_80 : lk 197 80 = some (.imul, 81, 0, 0, .null) := by decide +kernel
theorem x_197_80 : Tr sc d 197 (80, [l0, l1, l2, l3, l4, l5], [.int i2, .int i1, .ref k0], h) Q = Tr sc d 197 (81, [l0, l1, l2, l3, l4, l5], [.int (i1 * i2), .ref k0], h) Q := t_go k_197_80 rfl
theorem k_197_81 : lk 197 81 = some (.iload 5, 83, 5, 0, .null) := by decide +kernel
theorem x_197_81 : Tr sc d 197 (81, [l0, l1, l2, l3, l4, some (.int x)], [.int i1, .ref k0], h) Q = Tr sc d 197 (83, [l0, l1, l2, l3, l4, some (.int x)], [.int x, .int i1, .ref k0], h) Q := t_iload k_197_81 rfl
theorem k_197_83 : lk 197 83 = some (.iadd, 84, 0, 0, .null) := by decide +kernel
theorem x_197_83 : Tr sc d 197 (83, [l0, l1, l2, l3, l4, l5], [.int i2, .int i1, .ref k0], h) Q = Tr sc d 197 (84, [l0, l1, l2, l3, l4, l5], [.int (i1 + i2), .ref k0], h) Q := t_go k_197_83 rfl
theorem k_197_84 : lk 197 84 = some (.iaload, 85, 0, 0, .null) := by decide +kernel
theorem x_197_84 : Tr sc d 197 (84, [l0, l1, l2, l3, l4, l5], [.int i1, .ref k0], h) Q = (iOk sc h k0 i1 ∧ Tr sc d 197 (85, [l0, l1, l2, l3, l4, l5], [.int (iRd sc h k0 i1)], h) Q) := t_iald k_197_84
theorem k_197_85 : lk 197 85 = some (.iconst 0, 86, 0, 0, .int 0) := by decide +kernel
theorem x_197_85 : Tr sc d 197 (85, [l0, l1, l2, l3, l4, l5], [.int i0], h) Q = Tr sc d 197 (86, [l0, l1, l2, l3, l4, l5], [.int 0, .int i0], h) Q := t_go k_197_85 rfl
theorem k_197_86 : lk 197 86 = some (.aload_n 0, 87, 0, 0, .null) := by decide +kernel
theorem x_197_86 : Tr sc d 197 (86, [some (.ref xk), l1, l2, l3, l4, l5], [.int i1, .int i0], h) Q = Tr sc d 197 (87, [some (.ref xk), l1, l2, l3, l4, l5], [.ref xk, .int i1, .int i0], h) Q := t_aload_n k_197_86 rfl
theorem k_197_87 : lk 197 87 = some (.getfield 41, 90, 10, 18, .null) := by decide +kernel
theorem x_197_87 : Tr sc d 197 (87, [l0, l1, l2, l3, l4, l5], [.ref k2, .int i1, .int i0], h) Q = (okp h k2 10 = true ∧ ∃ q, hR h k2 18 = some q ∧ Tr sc d 197 (90, [l0, l1, l2, l3, l4, l5], [.ref q, .int i1, .int i0], h) Q) := t_getr k_197_87
theorem k_197_90 : lk 197 90 = some (.iload_n 1, 91, 1, 0, .null) := by decide +kernel
theorem x_197_90 : Tr sc d 197 (90, [l0, some (.int x), l2, l3, l4, l5], [.ref k2, .int i1, .int i0], h) Q = Tr sc d 197 (91, [l0, some (.int x), l2, l3, l4, l5], [.int x, .ref k2, .int i1, .int i0], h) Q := t_iload_n k_197_90 rfl
theorem k_197_91 : lk 197 91 = some (.iaload, 92, 0, 0, .null) := by decide +kernel
theorem x_197_91 : Tr sc d 197 (91, [l0, l1, l2, l3, l4, l5], [.int i3, .ref k2, .int i1, .int i0], h) Q = (iOk sc h k2 i3 ∧ Tr sc d 197 (92, [l0, l1, l2, l3, l4, l5], [.int (iRd sc h k2 i3), .int i1, .int i0], h) Q) := t_iald k_197_91
theorem k_197_92 : lk 197 92 = some (.iconst 1, 93, 0, 0, .int 1) := by decide +kernel
theorem x_197_92 : Tr sc d 197 (92, [l0, l1, l2, l3, l4, l5], [.int i2, .int i1, .int i0], h) Q = Tr sc d 197 (93, [l0, l1, l2, l3, l4, l5], [.int 1, .int i2, .int i1, .int i0], h) Q := t_go k_197_92 rfl
theorem k_197_93 : lk 197 93 = some (.isub, 94, 0, 0, .null) := by decide +kernel
theorem x_197_93 : Tr sc d 197 (93, [l0, l1, l2, l3, l4, l5], [.int i3, .int i2, .int i1, .int i0], h) Q = Tr sc d 197 (94, [l0, l1, l2, l3, l4, l5], [.int (i2 - i3), .int i1, .int i0], h) Q := t_go k_197_93 rfl
theorem k_197_94 : lk 197 94 = some (.invokestatic 144, 97, 156, 3, .null) := by decide +kernel
theorem x_197_94 : Tr sc (d + 1) 197 (94, [l0, l1, l2, l3, l4, l5], [.int i2, .int i1, .int i0], h) Q = Tr sc d 156 (ent0 156 [.int i0, .int i1, .int i2] h) (fun z => Tr sc (d + 1) 197 (97, [l0, l1, l2, l3, l4, l5], z.1.toList ++ [], z.2) Q) := t_cs (as := [.int i0, .int i1, .int i2]) (r := []) k_197_94 (by decide) rfl rfl (Nat.le_of_ble_eq_true rfl) (Nat.le_of_ble_eq_true rfl)
theorem k_197_97 : lk 197 97 = some (.ifCond .eq 7, 100, 104, 0, .null) := by decide +kernel
theorem x_197_97 : Tr sc d 197 (97, [l0, l1, l2, l3, l4, l5], [.int i0], h) Q = if i0 = 0 then Tr sc d 197 (104, [l0, l1, l2, l3, l4, l5], [], h) Q else Tr sc d 197 (100, [l0, l1, l2, l3, l4, l5], [], h) Q := t_if k_197_97 rfl
theorem k_197_100 : lk 197 100 = some (.iconst 1, 101, 0, 0, .int 1) := by decide +kernel
theorem x_197_100 : Tr sc d 197 (100, [l0, l1, l2, l3, l4, l5], [], h) Q = Tr sc d 197 (101, [l0, l1, l2, l3, l4, l5], [.int 1], h) Q := t_go k_197_100 rfl
theorem k_197_101 : lk 197 101 = some (.goto 4, 104, 105, 0, .null) := by decide +kernel
theorem x_197_101 : Tr sc d 197 (101, [l0, l1, l2, l3, l4, l5], [.int i0], h) Q = Tr sc d 197 (105, [l0, l1, l2, l3, l4, l5], [.int i0], h) Q := t_go k_197_101 rfl
theorem k_197_104 : lk 197 104 = some (.iconst 0, 105, 0, 0, .int 0) := by decide +kernel
theorem x_197_104 : Tr sc d 197 (104, [l0, l1, l2, l3, l4, l5], [], h) Q = Tr sc d 197 (105, [l0, l1, l2, l3, l4, l5], [.int 0], h) Q := t_go k_197_104 rfl
theorem k_197_105 : lk 197 105 = some (.istore 4, 107, 4, 0, .null) := by decide +kernel
theorem x_197_105 : Tr sc d 197 (105, [l0, l1, l2, l3, l4, l5], [.int i0], h) Q = Tr sc d 197 (107, [l0, l1, l2, cl2 l3, some (.int i0), l5], [], h) Q := t_istore k_197_105 (Nat.le_of_ble_eq_true rfl)
theorem k_197_107 : lk 197 107 = some (.iinc 5 1, 110, 5, 0, .int 1) := by decide +kernel
theorem x_197_107 : Tr sc d 197 (107, [l0, l1, l2, l3, l4, some (.int x)], [], h) Q = Tr sc d 197 (110, [l0, l1, l2, l3, cl2 l4, some (.int (x + 1))], [], h) Q := t_inc k_197_107 rfl (Nat.le_of_ble_eq_true rfl)
theorem k_197_110 : lk 197 110 = some (.goto (-48), 113, 62, 0, .null) := by decide +kernel
theorem x_197_110 : Tr sc d 197 (110, [l0, l1, l2, l3, l4, l5], [], h) Q = Tr sc d 197 (62, [l0, l1, l2, l3, l4, l5], [], h) Q := t_go k_197_110 rfl
theorem k_197_113 : lk 197 113 = some (.iload 4, 115, 4, 0, .null) := by decide +kernel
theorem x_197_113 : Tr sc d 197 (113, [l0, l1, l2, l3, some (.int x), l5], [], h) Q = Tr sc d 197 (115, [l0, l1, l2, l3, some (.int x), l5], [.int x], h) Q := t_iload k_197_113 rfl
theorem k_197_115 : lk 197 115 = some (.ifCond .eq 7, 118, 122, 0, .null) := by decide +kernel
theorem x_197_115 : Tr sc d 197 (115, [l0, l1, l2, l3, l4, l5], [.int i0], h) Q = if i0 = 0 then Tr sc d 197 (122, [l0, l1, l2, l3, l4, l5], [], h) Q else Tr sc d 197 (118, [l0, l1, l2, l3, l4, l5], [], h) Q := t_if k_197_115 rfl
theorem k_197_118 : lk 197 118 = some (.iconst 0, 119, 0, 0, .int 0) := by decide +kernel
theorem x_197_118 : Tr sc d 197 (118, [l0, l1, l2, l3, l4, l5], [], h) Q = Tr sc d 197 (119, [l0, l1, l2, l3, l4, l5], [.int 0], h) Q := t_go k_197_118 rfl
theorem k_197_119 : lk 197 119 = some (.goto 8, 122, 127, 0, .null) := by decide +kernel
theorem x_197_119 : Tr sc d 197 (119, [l0, l1, l2, l3, l4, l5], [.int i0], h) Q = Tr sc d 197 (127, [l0, l1, l2, l3, l4, l5], [.int i0], h) Q := t_go k_197_119 rfl
theorem k_197_122 : lk 197 122 = some (.aload_n 0, 123, 0, 0, .null) := by decide +kernel
theorem x_197_122 : Tr sc d 197 (122, [some (.ref xk), l1, l2, l3, l4, l5], [], h) Q = Tr sc d 197 (123, [some (.ref xk), l1, l2, l3, l4, l5], [.ref xk], h) Q := t_aload_n k_197_122 rfl
theorem k_197_123 : lk 197 123 = some (.iconst 3, 124, 0, 0, .int 3) := by decide +kernel
theorem x_197_123 : Tr sc d 197 (123, [l0, l1, l2, l3, l4, l5], [.ref k0], h) Q = Tr sc d 197 (124, [l0, l1, l2, l3, l4, l5], [.int 3, .ref k0], h) Q := t_go k_197_123 rfl
theorem k_197_124 : lk 197 124 = some (.invokevirtual 152, 127, 157, 1, .null) := by decide +kernel
theorem x_197_124 : Tr sc (d + 1) 197 (124, [l0, l1, l2, l3, l4, l5], [.int i1, .ref k0], h) Q = (okp h k0 10 = true ∧ Tr sc d 157 (ent0 157 [.ref k0, .int i1] h) (fun z => Tr sc (d + 1) 197 (127, [l0, l1, l2, l3, l4, l5], z.1.toList ++ [], z.2) Q)) := t_cv (as := [.int i1]) (r := []) k_197_124 rfl rfl (Nat.le_of_ble_eq_true rfl) (Nat.le_of_ble_eq_true rfl) (Nat.le_of_ble_eq_true rfl)
theorem k_197_127 : lk 197 127 = some (.ireturn, 128, 0, 0, .null) := by decide +kernel
theorem x_197_127 : Tr sc d 197 (127, [l0, l1, l2, l3, l4, l5], [.int i0], h) Q = Q (some (.int i0), h) := t_ret k_197_127 (by rw [r_197]; rfl)
theorem e_197 : Tr sc d 197 (ent0 197 [.ref k0, .int i1, .int i2, .int i3] h) Q = Tr sc d 197 (0, [some (.ref k0), some (.int i1), some (.int i2), some (.int i3), none, none], [], h) Q := by
  have e : mL 197 = 6 := by decide +kernel
  unfold ent0
  rw [e]
  rfl
theorem r_198 : mR 198 = some .int := by decide +kernel
theorem k_198_0 : lk 198 0 = some (.iload_n 3, 1, 3, 0, .null) := by decide +kernel
theorem x_198_0 : Tr sc d 198 (0, [l0, l1, l2, some (.int x), l4, l5], [], h) Q = Tr sc d 198 (1, [l0, l1, l2, some (.int x), l4, l5], [.int x], h) Q := t_iload_n k_198_0 rfl
theorem k_198_1 : lk 198 1 = some (.iconst 0, 2, 0, 0, .int 0) := by decide +kernel
theorem x_198_1 : Tr sc d 198 (1, [l0, l1, l2, l3, l4, l5], [.int i0], h) Q = Tr sc d 198 (2, [l0, l1, l2, l3, l4, l5], [.int 0, .int i0], h) Q := t_go k_198_1 rfl
theorem k_198_2 : lk 198 2 = some (.bipush 8, 4, 0, 0, .int 8) := by decide +kernel
theorem x_198_2 : Tr sc d 198 (2, [l0, l1, l2, l3, l4, l5], [.int i1, .int i0], h) Q = Tr sc d 198 (4, [l0, l1, l2, l3, l4, l5], [.int 8, .int i1, .int i0], h) Q := t_go k_198_2 rfl
theorem k_198_4 : lk 198 4 = some (.invokestatic 144, 7, 156, 3, .null) := by decide +kernel
theorem x_198_4 : Tr sc (d + 1) 198 (4, [l0, l1, l2, l3, l4, l5], [.int i2, .int i1, .int i0], h) Q = Tr sc d 156 (ent0 156 [.int i0, .int i1, .int i2] h) (fun z => Tr sc (d + 1) 198 (7, [l0, l1, l2, l3, l4, l5], z.1.toList ++ [], z.2) Q) := t_cs (as := [.int i0, .int i1, .int i2]) (r := []) k_198_4 (by decide) rfl rfl (Nat.le_of_ble_eq_true rfl) (Nat.le_of_ble_eq_true rfl)
theorem k_198_7 : lk 198 7 = some (.ifCond .ne 5, 10, 12, 0, .null) := by decide +kernel
theorem x_198_7 : Tr sc d 198 (7, [l0, l1, l2, l3, l4, l5], [.int i0], h) Q = if i0 = 0 then Tr sc d 198 (10, [l0, l1, l2, l3, l4, l5], [], h) Q else Tr sc d 198 (12, [l0, l1, l2, l3, l4, l5], [], h) Q := t_if k_198_7 rfl
theorem k_198_10 : lk 198 10 = some (.iconst (-1), 11, 0, 0, .int (-1)) := by decide +kernel
theorem x_198_10 : Tr sc d 198 (10, [l0, l1, l2, l3, l4, l5], [], h) Q = Tr sc d 198 (11, [l0, l1, l2, l3, l4, l5], [.int (-1)], h) Q := t_go k_198_10 rfl
theorem k_198_11 : lk 198 11 = some (.ireturn, 12, 0, 0, .null) := by decide +kernel
theorem x_198_11 : Tr sc d 198 (11, [l0, l1, l2, l3, l4, l5], [.int i0], h) Q = Q (some (.int i0), h) := t_ret k_198_11 (by rw [r_198]; rfl)
theorem k_198_12 : lk 198 12 = some (.aload_n 0, 13, 0, 0, .null) := by decide +kernel
theorem x_198_12 : Tr sc d 198 (12, [some (.ref xk), l1, l2, l3, l4, l5], [], h) Q = Tr sc d 198 (13, [some (.ref xk), l1, l2, l3, l4, l5], [.ref xk], h) Q := t_aload_n k_198_12 rfl
theorem k_198_13 : lk 198 13 = some (.iload_n 1, 14, 1, 0, .null) := by decide +kernel
theorem x_198_13 : Tr sc d 198 (13, [l0, some (.int x), l2, l3, l4, l5], [.ref k0], h) Q = Tr sc d 198 (14, [l0, some (.int x), l2, l3, l4, l5], [.int x, .ref k0], h) Q := t_iload_n k_198_13 rfl
theorem k_198_14 : lk 198 14 = some (.iload_n 2, 15, 2, 0, .null) := by decide +kernel
theorem x_198_14 : Tr sc d 198 (14, [l0, l1, some (.int x), l3, l4, l5], [.int i1, .ref k0], h) Q = Tr sc d 198 (15, [l0, l1, some (.int x), l3, l4, l5], [.int x, .int i1, .ref k0], h) Q := t_iload_n k_198_14 rfl
theorem k_198_15 : lk 198 15 = some (.iload_n 3, 16, 3, 0, .null) := by decide +kernel
theorem x_198_15 : Tr sc d 198 (15, [l0, l1, l2, some (.int x), l4, l5], [.int i2, .int i1, .ref k0], h) Q = Tr sc d 198 (16, [l0, l1, l2, some (.int x), l4, l5], [.int x, .int i2, .int i1, .ref k0], h) Q := t_iload_n k_198_15 rfl
theorem k_198_16 : lk 198 16 = some (.invokevirtual 257, 19, 197, 3, .null) := by decide +kernel
theorem x_198_16 : Tr sc (d + 1) 198 (16, [l0, l1, l2, l3, l4, l5], [.int i3, .int i2, .int i1, .ref k0], h) Q = (okp h k0 10 = true ∧ Tr sc d 197 (ent0 197 [.ref k0, .int i1, .int i2, .int i3] h) (fun z => Tr sc (d + 1) 198 (19, [l0, l1, l2, l3, l4, l5], z.1.toList ++ [], z.2) Q)) := t_cv (as := [.int i1, .int i2, .int i3]) (r := []) k_198_16 rfl rfl (Nat.le_of_ble_eq_true rfl) (Nat.le_of_ble_eq_true rfl) (Nat.le_of_ble_eq_true rfl)
theorem k_198_19 : lk 198 19 = some (.istore 5, 21, 5, 0, .null) := by decide +kernel
theorem x_198_19 : Tr sc d 198 (19, [l0, l1, l2, l3, l4, l5], [.int i0], h) Q = Tr sc d 198 (21, [l0, l1, l2, l3, cl2 l4, some (.int i0)], [], h) Q := t_istore k_198_19 (Nat.le_of_ble_eq_true rfl)
theorem k_198_21 : lk 198 21 = some (.iload 5, 23, 5, 0, .null) := by decide +kernel
theorem x_198_21 : Tr sc d 198 (21, [l0, l1, l2, l3, l4, some (.int x)], [], h) Q = Tr sc d 198 (23, [l0, l1, l2, l3, l4, some (.int x)], [.int x], h) Q := t_iload k_198_21 rfl
theorem k_198_23 : lk 198 23 = some (.ifCond .ge 6, 26, 29, 0, .null) := by decide +kernel
theorem x_198_23 : Tr sc d 198 (23, [l0, l1, l2, l3, l4, l5], [.int i0], h) Q = if 0 ≤ i0 then Tr sc d 198 (29, [l0, l1, l2, l3, l4, l5], [], h) Q else Tr sc d 198 (26, [l0, l1, l2, l3, l4, l5], [], h) Q := t_if k_198_23 rfl
theorem k_198_26 : lk 198 26 = some (.iload 5, 28, 5, 0, .null) := by decide +kernel
theorem x_198_26 : Tr sc d 198 (26, [l0, l1, l2, l3, l4, some (.int x)], [], h) Q = Tr sc d 198 (28, [l0, l1, l2, l3, l4, some (.int x)], [.int x], h) Q := t_iload k_198_26 rfl
theorem k_198_28 : lk 198 28 = some (.ireturn, 29, 0, 0, .null) := by decide +kernel
theorem x_198_28 : Tr sc d 198 (28, [l0, l1, l2, l3, l4, l5], [.int i0], h) Q = Q (some (.int i0), h) := t_ret k_198_28 (by rw [r_198]; rfl)
theorem k_198_29 : lk 198 29 = some (.aload_n 0, 30, 0, 0, .null) := by decide +kernel
theorem x_198_29 : Tr sc d 198 (29, [some (.ref xk), l1, l2, l3, l4, l5], [], h) Q = Tr sc d 198 (30, [some (.ref xk), l1, l2, l3, l4, l5], [.ref xk], h) Q := t_aload_n k_198_29 rfl
theorem k_198_30 : lk 198 30 = some (.iload_n 1, 31, 1, 0, .null) := by decide +kernel
theorem x_198_30 : Tr sc d 198 (30, [l0, some (.int x), l2, l3, l4, l5], [.ref k0], h) Q = Tr sc d 198 (31, [l0, some (.int x), l2, l3, l4, l5], [.int x, .ref k0], h) Q := t_iload_n k_198_30 rfl
theorem k_198_31 : lk 198 31 = some (.iload_n 2, 32, 2, 0, .null) := by decide +kernel
theorem x_198_31 : Tr sc d 198 (31, [l0, l1, some (.int x), l3, l4, l5], [.int i1, .ref k0], h) Q = Tr sc d 198 (32, [l0, l1, some (.int x), l3, l4, l5], [.int x, .int i1, .ref k0], h) Q := t_iload_n k_198_31 rfl
theorem k_198_32 : lk 198 32 = some (.iconst 0, 33, 0, 0, .int 0) := by decide +kernel
theorem x_198_32 : Tr sc d 198 (32, [l0, l1, l2, l3, l4, l5], [.int i2, .int i1, .ref k0], h) Q = Tr sc d 198 (33, [l0, l1, l2, l3, l4, l5], [.int 0, .int i2, .int i1, .ref k0], h) Q := t_go k_198_32 rfl
theorem k_198_33 : lk 198 33 = some (.iload_n 3, 34, 3, 0, .null) := by decide +kernel
theorem x_198_33 : Tr sc d 198 (33, [l0, l1, l2, some (.int x), l4, l5], [.int i3, .int i2, .int i1, .ref k0], h) Q = Tr sc d 198 (34, [l0, l1, l2, some (.int x), l4, l5], [.int x, .int i3, .int i2, .int i1, .ref k0], h) Q := t_iload_n k_198_33 rfl
theorem k_198_34 : lk 198 34 = some (.invokevirtual 260, 37, 196, 4, .null) := by decide +kernel
theorem x_198_34 : Tr sc (d + 1) 198 (34, [l0, l1, l2, l3, l4, l5], [.int i4, .int i3, .int i2, .int i1, .ref k0], h) Q = (okp h k0 10 = true ∧ Tr sc d 196 (ent0 196 [.ref k0, .int i1, .int i2, .int i3, .int i4] h) (fun z => Tr sc (d + 1) 198 (37, [l0, l1, l2, l3, l4, l5], z.1.toList ++ [], z.2) Q)) := t_cv (as := [.int i1, .int i2, .int i3, .int i4]) (r := []) k_198_34 rfl rfl (Nat.le_of_ble_eq_true rfl) (Nat.le_of_ble_eq_true rfl) (Nat.le_of_ble_eq_true rfl)
theorem k_198_37 : lk 198 37 = some (.aload_n 0, 38, 0, 0, .null) := by decide +kernel
theorem x_198_37 : Tr sc d 198 (37, [some (.ref xk), l1, l2, l3, l4, l5], [], h) Q = Tr sc d 198 (38, [some (.ref xk), l1, l2, l3, l4, l5], [.ref xk], h) Q := t_aload_n k_198_37 rfl
theorem k_198_38 : lk 198 38 = some (.iload 4, 40, 4, 0, .null) := by decide +kernel
theorem x_198_38 : Tr sc d 198 (38, [l0, l1, l2, l3, some (.int x), l5], [.ref k0], h) Q = Tr sc d 198 (40, [l0, l1, l2, l3, some (.int x), l5], [.int x, .ref k0], h) Q := t_iload k_198_38 rfl
theorem k_198_40 : lk 198 40 = some (.ifCond .eq 10, 43, 50, 0, .null) := by decide +kernel
theorem x_198_40 : Tr sc d 198 (40, [l0, l1, l2, l3, l4, l5], [.int i1, .ref k0], h) Q = if i1 = 0 then Tr sc d 198 (50, [l0, l1, l2, l3, l4, l5], [.ref k0], h) Q else Tr sc d 198 (43, [l0, l1, l2, l3, l4, l5], [.ref k0], h) Q := t_if k_198_40 rfl
theorem k_198_43 : lk 198 43 = some (.aload_n 0, 44, 0, 0, .null) := by decide +kernel
theorem x_198_43 : Tr sc d 198 (43, [some (.ref xk), l1, l2, l3, l4, l5], [.ref k0], h) Q = Tr sc d 198 (44, [some (.ref xk), l1, l2, l3, l4, l5], [.ref xk, .ref k0], h) Q := t_aload_n k_198_43 rfl
theorem k_198_44 : lk 198 44 = some (.getfield 232, 47, 10, 24, .int 0) := by decide +kernel
theorem x_198_44 : Tr sc d 198 (44, [l0, l1, l2, l3, l4, l5], [.ref k1, .ref k0], h) Q = (okp h k1 10 = true ∧ Tr sc d 198 (47, [l0, l1, l2, l3, l4, l5], [.int (hI h k1 24), .ref k0], h) Q) := t_gd k_198_44 rfl
theorem k_198_47 : lk 198 47 = some (.goto 7, 50, 54, 0, .null) := by decide +kernel
theorem x_198_47 : Tr sc d 198 (47, [l0, l1, l2, l3, l4, l5], [.int i1, .ref k0], h) Q = Tr sc d 198 (54, [l0, l1, l2, l3, l4, l5], [.int i1, .ref k0], h) Q := t_go k_198_47 rfl
theorem k_198_50 : lk 198 50 = some (.aload_n 0, 51, 0, 0, .null) := by decide +kernel
theorem x_198_50 : Tr sc d 198 (50, [some (.ref xk), l1, l2, l3, l4, l5], [.ref k0], h) Q = Tr sc d 198 (51, [some (.ref xk), l1, l2, l3, l4, l5], [.ref xk, .ref k0], h) Q := t_aload_n k_198_50 rfl
theorem k_198_51 : lk 198 51 = some (.getfield 229, 54, 10, 23, .int 0) := by decide +kernel
theorem x_198_51 : Tr sc d 198 (51, [l0, l1, l2, l3, l4, l5], [.ref k1, .ref k0], h) Q = (okp h k1 10 = true ∧ Tr sc d 198 (54, [l0, l1, l2, l3, l4, l5], [.int (hI h k1 23), .ref k0], h) Q) := t_gd k_198_51 rfl
theorem k_198_54 : lk 198 54 = some (.iconst 1, 55, 0, 0, .int 1) := by decide +kernel
theorem x_198_54 : Tr sc d 198 (54, [l0, l1, l2, l3, l4, l5], [.int i1, .ref k0], h) Q = Tr sc d 198 (55, [l0, l1, l2, l3, l4, l5], [.int 1, .int i1, .ref k0], h) Q := t_go k_198_54 rfl
theorem k_198_55 : lk 198 55 = some (.invokevirtual 162, 58, 158, 2, .null) := by decide +kernel
theorem x_198_55 : Tr sc (d + 1) 198 (55, [l0, l1, l2, l3, l4, l5], [.int i2, .int i1, .ref k0], h) Q = (okp h k0 10 = true ∧ Tr sc d 158 (ent0 158 [.ref k0, .int i1, .int i2] h) (fun z => Tr sc (d + 1) 198 (58, [l0, l1, l2, l3, l4, l5], z.1.toList ++ [], z.2) Q)) := t_cv (as := [.int i1, .int i2]) (r := []) k_198_55 rfl rfl (Nat.le_of_ble_eq_true rfl) (Nat.le_of_ble_eq_true rfl) (Nat.le_of_ble_eq_true rfl)
theorem k_198_58 : lk 198 58 = some (.ireturn, 59, 0, 0, .null) := by decide +kernel
theorem x_198_58 : Tr sc d 198 (58, [l0, l1, l2, l3, l4, l5], [.int i0], h) Q = Q (some (.int i0), h) := t_ret k_198_58 (by rw [r_198]; rfl)
theorem e_198 : Tr sc d 198 (ent0 198 [.ref k0, .int i1, .int i2, .int i3, .int i4] h) Q = Tr sc d 198 (0, [some (.ref k0), some (.int i1), some (.int i2), some (.int i3), some (.int i4), none], [], h) Q := by
  have e : mL 198 = 6 := by decide +kernel
  unfold ent0
  rw [e]
  rfl
theorem r_199 : mR 199 = some .int := by decide +kernel
theorem k_199_0 : lk 199 0 = some (.iload_n 3, 1, 3, 0, .null) := by decide +kernel
theorem x_199_0 : Tr sc d 199 (0, [l0, l1, l2, some (.int x), l4, l5, l6, l7, l8, l9, l10, l11, l12, l13, l14, l15, l16, l17, l18, l19, l20, l21, l22, l23, l24, l25, l26], [], h) Q = Tr sc d 199 (1, [l0, l1, l2, some (.int x), l4, l5, l6, l7, l8, l9, l10, l11, l12, l13, l14, l15, l16, l17, l18, l19, l20, l21, l22, l23, l24, l25, l26], [.int x], h) Q := t_iload_n k_199_0 rfl
theorem k_199_1 : lk 199 1 = some (.iconst 0, 2, 0, 0, .int 0) := by decide +kernel
theorem x_199_1 : Tr sc d 199 (1, [l0, l1, l2, l3, l4, l5, l6, l7, l8, l9, l10, l11, l12, l13, l14, l15, l16, l17, l18, l19, l20, l21, l22, l23, l24, l25, l26], [.int i0], h) Q = Tr sc d 199 (2, [l0, l1, l2, l3, l4, l5, l6, l7, l8, l9, l10, l11, l12, l13, l14, l15, l16, l17, l18, l19, l20, l21, l22, l23, l24, l25, l26], [.int 0, .int i0], h) Q := t_go k_199_1 rfl
theorem k_199_2 : lk 199 2 = some (.bipush 6, 4, 0, 0, .int 6) := by decide +kernel
theorem x_199_2 : Tr sc d 199 (2, [l0, l1, l2, l3, l4, l5, l6, l7, l8, l9, l10, l11, l12, l13, l14, l15, l16, l17, l18, l19, l20, l21, l22, l23, l24, l25, l26], [.int i1, .int i0], h) Q = Tr sc d 199 (4, [l0, l1, l2, l3, l4, l5, l6, l7, l8, l9, l10, l11, l12, l13, l14, l15, l16, l17, l18, l19, l20, l21, l22, l23, l24, l25, l26], [.int 6, .int i1, .int i0], h) Q := t_go k_199_2 rfl
theorem k_199_4 : lk 199 4 = some (.invokestatic 144, 7, 156, 3, .null) := by decide +kernel
theorem x_199_4 : Tr sc (d + 1) 199 (4, [l0, l1, l2, l3, l4, l5, l6, l7, l8, l9, l10, l11, l12, l13, l14, l15, l16, l17, l18, l19, l20, l21, l22, l23, l24, l25, l26], [.int i2, .int i1, .int i0], h) Q = Tr sc d 156 (ent0 156 [.int i0, .int i1, .int i2] h) (fun z => Tr sc (d + 1) 199 (7, [l0, l1, l2, l3, l4, l5, l6, l7, l8, l9, l10, l11, l12, l13, l14, l15, l16, l17, l18, l19, l20, l21, l22, l23, l24, l25, l26], z.1.toList ++ [], z.2) Q) := t_cs (as := [.int i0, .int i1, .int i2]) (r := []) k_199_4 (by decide) rfl rfl (Nat.le_of_ble_eq_true rfl) (Nat.le_of_ble_eq_true rfl)
theorem k_199_7 : lk 199 7 = some (.ifCond .eq 14, 10, 21, 0, .null) := by decide +kernel
theorem x_199_7 : Tr sc d 199 (7, [l0, l1, l2, l3, l4, l5, l6, l7, l8, l9, l10, l11, l12, l13, l14, l15, l16, l17, l18, l19, l20, l21, l22, l23, l24, l25, l26], [.int i0], h) Q = if i0 = 0 then Tr sc d 199 (21, [l0, l1, l2, l3, l4, l5, l6, l7, l8, l9, l10, l11, l12, l13, l14, l15, l16, l17, l18, l19, l20, l21, l22, l23, l24, l25, l26], [], h) Q else Tr sc d 199 (10, [l0, l1, l2, l3, l4, l5, l6, l7, l8, l9, l10, l11, l12, l13, l14, l15, l16, l17, l18, l19, l20, l21, l22, l23, l24, l25, l26], [], h) Q := t_if k_199_7 rfl
theorem k_199_10 : lk 199 10 = some (.iload 4, 12, 4, 0, .null) := by decide +kernel
theorem x_199_10 : Tr sc d 199 (10, [l0, l1, l2, l3, some (.int x), l5, l6, l7, l8, l9, l10, l11, l12, l13, l14, l15, l16, l17, l18, l19, l20, l21, l22, l23, l24, l25, l26], [], h) Q = Tr sc d 199 (12, [l0, l1, l2, l3, some (.int x), l5, l6, l7, l8, l9, l10, l11, l12, l13, l14, l15, l16, l17, l18, l19, l20, l21, l22, l23, l24, l25, l26], [.int x], h) Q := t_iload k_199_10 rfl
theorem k_199_12 : lk 199 12 = some (.iconst 1, 13, 0, 0, .int 1) := by decide +kernel
theorem x_199_12 : Tr sc d 199 (12, [l0, l1, l2, l3, l4, l5, l6, l7, l8, l9, l10, l11, l12, l13, l14, l15, l16, l17, l18, l19, l20, l21, l22, l23, l24, l25, l26], [.int i0], h) Q = Tr sc d 199 (13, [l0, l1, l2, l3, l4, l5, l6, l7, l8, l9, l10, l11, l12, l13, l14, l15, l16, l17, l18, l19, l20, l21, l22, l23, l24, l25, l26], [.int 1, .int i0], h) Q := t_go k_199_12 rfl
theorem k_199_13 : lk 199 13 = some (.bipush 6, 15, 0, 0, .int 6) := by decide +kernel
theorem x_199_13 : Tr sc d 199 (13, [l0, l1, l2, l3, l4, l5, l6, l7, l8, l9, l10, l11, l12, l13, l14, l15, l16, l17, l18, l19, l20, l21, l22, l23, l24, l25, l26], [.int i1, .int i0], h) Q = Tr sc d 199 (15, [l0, l1, l2, l3, l4, l5, l6, l7, l8, l9, l10, l11, l12, l13, l14, l15, l16, l17, l18, l19, l20, l21, l22, l23, l24, l25, l26], [.int 6, .int i1, .int i0], h) Q := t_go k_199_13 rfl
theorem k_199_15 : lk 199 15 = some (.invokestatic 144, 18, 156, 3, .null) := by decide +kernel
theorem x_199_15 : Tr sc (d + 1) 199 (15, [l0, l1, l2, l3, l4, l5, l6, l7, l8, l9, l10, l11, l12, l13, l14, l15, l16, l17, l18, l19, l20, l21, l22, l23, l24, l25, l26], [.int i2, .int i1, .int i0], h) Q = Tr sc d 156 (ent0 156 [.int i0, .int i1, .int i2] h) (fun z => Tr sc (d + 1) 199 (18, [l0, l1, l2, l3, l4, l5, l6, l7, l8, l9, l10, l11, l12, l13, l14, l15, l16, l17, l18, l19, l20, l21, l22, l23, l24, l25, l26], z.1.toList ++ [], z.2) Q) := t_cs (as := [.int i0, .int i1, .int i2]) (r := []) k_199_15 (by decide) rfl rfl (Nat.le_of_ble_eq_true rfl) (Nat.le_of_ble_eq_true rfl)
theorem k_199_18 : lk 199 18 = some (.ifCond .ne 5, 21, 23, 0, .null) := by decide +kernel
theorem x_199_18 : Tr sc d 199 (18, [l0, l1, l2, l3, l4, l5, l6, l7, l8, l9, l10, l11, l12, l13, l14, l15, l16, l17, l18, l19, l20, l21, l22, l23, l24, l25, l26], [.int i0], h) Q = if i0 = 0 then Tr sc d 199 (21, [l0, l1, l2, l3, l4, l5, l6, l7, l8, l9, l10, l11, l12, l13, l14, l15, l16, l17, l18, l19, l20, l21, l22, l23, l24, l25, l26], [], h) Q else Tr sc d 199 (23, [l0, l1, l2, l3, l4, l5, l6, l7, l8, l9, l10, l11, l12, l13, l14, l15, l16, l17, l18, l19, l20, l21, l22, l23, l24, l25, l26], [], h) Q := t_if k_199_18 rfl
theorem k_199_21 : lk 199 21 = some (.iconst (-1), 22, 0, 0, .int (-1)) := by decide +kernel
theorem x_199_21 : Tr sc d 199 (21, [l0, l1, l2, l3, l4, l5, l6, l7, l8, l9, l10, l11, l12, l13, l14, l15, l16, l17, l18, l19, l20, l21, l22, l23, l24, l25, l26], [], h) Q = Tr sc d 199 (22, [l0, l1, l2, l3, l4, l5, l6, l7, l8, l9, l10, l11, l12, l13, l14, l15, l16, l17, l18, l19, l20, l21, l22, l23, l24, l25, l26], [.int (-1)], h) Q := t_go k_199_21 rfl
theorem k_199_22 : lk 199 22 = some (.ireturn, 23, 0, 0, .null) := by decide +kernel
theorem x_199_22 : Tr sc d 199 (22, [l0, l1, l2, l3, l4, l5, l6, l7, l8, l9, l10, l11, l12, l13, l14, l15, l16, l17, l18, l19, l20, l21, l22, l23, l24, l25, l26], [.int i0], h) Q = Q (some (.int i0), h) := t_ret k_199_22 (by rw [r_199]; rfl)
theorem k_199_23 : lk 199 23 = some (.aload_n 0, 24, 0, 0, .null) := by decide +kernel
theorem x_199_23 : Tr sc d 199 (23, [some (.ref xk), l1, l2, l3, l4, l5, l6, l7, l8, l9, l10, l11, l12, l13, l14, l15, l16, l17, l18, l19, l20, l21, l22, l23, l24, l25, l26], [], h) Q = Tr sc d 199 (24, [some (.ref xk), l1, l2, l3, l4, l5, l6, l7, l8, l9, l10, l11, l12, l13, l14, l15, l16, l17, l18, l19, l20, l21, l22, l23, l24, l25, l26], [.ref xk], h) Q := t_aload_n k_199_23 rfl
theorem k_199_24 : lk 199 24 = some (.iload_n 1, 25, 1, 0, .null) := by decide +kernel
theorem x_199_24 : Tr sc d 199 (24, [l0, some (.int x), l2, l3, l4, l5, l6, l7, l8, l9, l10, l11, l12, l13, l14, l15, l16, l17, l18, l19, l20, l21, l22, l23, l24, l25, l26], [.ref k0], h) Q = Tr sc d 199 (25, [l0, some (.int x), l2, l3, l4, l5, l6, l7, l8, l9, l10, l11, l12, l13, l14, l15, l16, l17, l18, l19, l20, l21, l22, l23, l24, l25, l26], [.int x, .ref k0], h) Q := t_iload_n k_199_24 rfl
theorem k_199_25 : lk 199 25 = some (.iload_n 2, 26, 2, 0, .null) := by decide +kernel
theorem x_199_25 : Tr sc d 199 (25, [l0, l1, some (.int x), l3, l4, l5, l6, l7, l8, l9, l10, l11, l12, l13, l14, l15, l16, l17, l18, l19, l20, l21, l22, l23, l24, l25, l26], [.int i1, .ref k0], h) Q = Tr sc d 199 (26, [l0, l1, some (.int x), l3, l4, l5, l6, l7, l8, l9, l10, l11, l12, l13, l14, l15, l16, l17, l18, l19, l20, l21, l22, l23, l24, l25, l26], [.int x, .int i1, .ref k0], h) Q := t_iload_n k_199_25 rfl
theorem k_199_26 : lk 199 26 = some (.iload_n 3, 27, 3, 0, .null) := by decide +kernel
theorem x_199_26 : Tr sc d 199 (26, [l0, l1, l2, some (.int x), l4, l5, l6, l7, l8, l9, l10, l11, l12, l13, l14, l15, l16, l17, l18, l19, l20, l21, l22, l23, l24, l25, l26], [.int i2, .int i1, .ref k0], h) Q = Tr sc d 199 (27, [l0, l1, l2, some (.int x), l4, l5, l6, l7, l8, l9, l10, l11, l12, l13, l14, l15, l16, l17, l18, l19, l20, l21, l22, l23, l24, l25, l26], [.int x, .int i2, .int i1, .ref k0], h) Q := t_iload_n k_199_26 rfl
theorem k_199_27 : lk 199 27 = some (.iload 4, 29, 4, 0, .null) := by decide +kernel
theorem x_199_27 : Tr sc d 199 (27, [l0, l1, l2, l3, some (.int x), l5, l6, l7, l8, l9, l10, l11, l12, l13, l14, l15, l16, l17, l18, l19, l20, l21, l22, l23, l24, l25, l26], [.int i3, .int i2, .int i1, .ref k0], h) Q = Tr sc d 199 (29, [l0, l1, l2, l3, some (.int x), l5, l6, l7, l8, l9, l10, l11, l12, l13, l14, l15, l16, l17, l18, l19, l20, l21, l22, l23, l24, l25, l26], [.int x, .int i3, .int i2, .int i1, .ref k0], h) Q := t_iload k_199_27 rfl
theorem k_199_29 : lk 199 29 = some (.iadd, 30, 0, 0, .null) := by decide +kernel
theorem x_199_29 : Tr sc d 199 (29, [l0, l1, l2, l3, l4, l5, l6, l7, l8, l9, l10, l11, l12, l13, l14, l15, l16, l17, l18, l19, l20, l21, l22, l23, l24, l25, l26], [.int i4, .int i3, .int i2, .int i1, .ref k0], h) Q = Tr sc d 199 (30, [l0, l1, l2, l3, l4, l5, l6, l7, l8, l9, l10, l11, l12, l13, l14, l15, l16, l17, l18, l19, l20, l21, l22, l23, l24, l25, l26], [.int (i3 + i4), .int i2, .int i1, .ref k0], h) Q := t_go k_199_29 rfl
theorem k_199_30 : lk 199 30 = some (.invokevirtual 257, 33, 197, 3, .null) := by decide +kernel
theorem x_199_30 : Tr sc (d + 1) 199 (30, [l0, l1, l2, l3, l4, l5, l6, l7, l8, l9, l10, l11, l12, l13, l14, l15, l16, l17, l18, l19, l20, l21, l22, l23, l24, l25, l26], [.int i3, .int i2, .int i1, .ref k0], h) Q = (okp h k0 10 = true ∧ Tr sc d 197 (ent0 197 [.ref k0, .int i1, .int i2, .int i3] h) (fun z => Tr sc (d + 1) 199 (33, [l0, l1, l2, l3, l4, l5, l6, l7, l8, l9, l10, l11, l12, l13, l14, l15, l16, l17, l18, l19, l20, l21, l22, l23, l24, l25, l26], z.1.toList ++ [], z.2) Q)) := t_cv (as := [.int i1, .int i2, .int i3]) (r := []) k_199_30 rfl rfl (Nat.le_of_ble_eq_true rfl) (Nat.le_of_ble_eq_true rfl) (Nat.le_of_ble_eq_true rfl)
theorem k_199_33 : lk 199 33 = some (.istore 6, 35, 6, 0, .null) := by decide +kernel
theorem x_199_33 : Tr sc d 199 (33, [l0, l1, l2, l3, l4, l5, l6, l7, l8, l9, l10, l11, l12, l13, l14, l15, l16, l17, l18, l19, l20, l21, l22, l23, l24, l25, l26], [.int i0], h) Q = Tr sc d 199 (35, [l0, l1, l2, l3, l4, cl2 l5, some (.int i0), l7, l8, l9, l10, l11, l12, l13, l14, l15, l16, l17, l18, l19, l20, l21, l22, l23, l24, l25, l26], [], h) Q := t_istore k_199_33 (Nat.le_of_ble_eq_true rfl)
theorem k_199_35 : lk 199 35 = some (.iload 6, 37, 6, 0, .null) := by decide +kernel
theorem x_199_35 : Tr sc d 199 (35, [l0, l1, l2, l3, l4, l5, some (.int x), l7, l8, l9, l10, l11, l12, l13, l14, l15, l16, l17, l18, l19, l20, l21, l22, l23, l24, l25, l26], [], h) Q = Tr sc d 199 (37, [l0, l1, l2, l3, l4, l5, some (.int x), l7, l8, l9, l10, l11, l12, l13, l14, l15, l16, l17, l18, l19, l20, l21, l22, l23, l24, l25, l26], [.int x], h) Q := t_iload k_199_35 rfl
theorem k_199_37 : lk 199 37 = some (.ifCond .ge 6, 40, 43, 0, .null) := by decide +kernel
theorem x_199_37 : Tr sc d 199 (37, [l0, l1, l2, l3, l4, l5, l6, l7, l8, l9, l10, l11, l12, l13, l14, l15, l16, l17, l18, l19, l20, l21, l22, l23, l24, l25, l26], [.int i0], h) Q = if 0 ≤ i0 then Tr sc d 199 (43, [l0, l1, l2, l3, l4, l5, l6, l7, l8, l9, l10, l11, l12, l13, l14, l15, l16, l17, l18, l19, l20, l21, l22, l23, l24, l25, l26], [], h) Q else Tr sc d 199 (40, [l0, l1, l2, l3, l4, l5, l6, l7, l8, l9, l10, l11, l12, l13, l14, l15, l16, l17, l18, l19, l20, l21, l22, l23, l24, l25, l26], [], h) Q := t_if k_199_37 rfl
theorem k_199_40 : lk 199 40 = some (.iload 6, 42, 6, 0, .null) := by decide +kernel
theorem x_199_40 : Tr sc d 199 (40, [l0, l1, l2, l3, l4, l5, some (.int x), l7, l8, l9, l10, l11, l12, l13, l14, l15, l16, l17, l18, l19, l20, l21, l22, l23, l24, l25, l26], [], h) Q = Tr sc d 199 (42, [l0, l1, l2, l3, l4, l5, some (.int x), l7, l8, l9, l10, l11, l12, l13, l14, l15, l16, l17, l18, l19, l20, l21, l22, l23, l24, l25, l26], [.int x], h) Q := t_iload k_199_40 rfl
theorem k_199_42 : lk 199 42 = some (.ireturn, 43, 0, 0, .null) := by decide +kernel
theorem x_199_42 : Tr sc d 199 (42, [l0, l1, l2, l3, l4, l5, l6, l7, l8, l9, l10, l11, l12, l13, l14, l15, l16, l17, l18, l19, l20, l21, l22, l23, l24, l25, l26], [.int i0], h) Q = Q (some (.int i0), h) := t_ret k_199_42 (by rw [r_199]; rfl)
theorem k_199_43 : lk 199 43 = some (.aload_n 0, 44, 0, 0, .null) := by decide +kernel
theorem x_199_43 : Tr sc d 199 (43, [some (.ref xk), l1, l2, l3, l4, l5, l6, l7, l8, l9, l10, l11, l12, l13, l14, l15, l16, l17, l18, l19, l20, l21, l22, l23, l24, l25, l26], [], h) Q = Tr sc d 199 (44, [some (.ref xk), l1, l2, l3, l4, l5, l6, l7, l8, l9, l10, l11, l12, l13, l14, l15, l16, l17, l18, l19, l20, l21, l22, l23, l24, l25, l26], [.ref xk], h) Q := t_aload_n k_199_43 rfl
theorem k_199_44 : lk 199 44 = some (.iload_n 1, 45, 1, 0, .null) := by decide +kernel
theorem x_199_44 : Tr sc d 199 (44, [l0, some (.int x), l2, l3, l4, l5, l6, l7, l8, l9, l10, l11, l12, l13, l14, l15, l16, l17, l18, l19, l20, l21, l22, l23, l24, l25, l26], [.ref k0], h) Q = Tr sc d 199 (45, [l0, some (.int x), l2, l3, l4, l5, l6, l7, l8, l9, l10, l11, l12, l13, l14, l15, l16, l17, l18, l19, l20, l21, l22, l23, l24, l25, l26], [.int x, .ref k0], h) Q := t_iload_n k_199_44 rfl
theorem k_199_45 : lk 199 45 = some (.iload_n 2, 46, 2, 0, .null) := by decide +kernel
theorem x_199_45 : Tr sc d 199 (45, [l0, l1, some (.int x), l3, l4, l5, l6, l7, l8, l9, l10, l11, l12, l13, l14, l15, l16, l17, l18, l19, l20, l21, l22, l23, l24, l25, l26], [.int i1, .ref k0], h) Q = Tr sc d 199 (46, [l0, l1, some (.int x), l3, l4, l5, l6, l7, l8, l9, l10, l11, l12, l13, l14, l15, l16, l17, l18, l19, l20, l21, l22, l23, l24, l25, l26], [.int x, .int i1, .ref k0], h) Q := t_iload_n k_199_45 rfl
theorem k_199_46 : lk 199 46 = some (.iload_n 3, 47, 3, 0, .null) := by decide +kernel
theorem x_199_46 : Tr sc d 199 (46, [l0, l1, l2, some (.int x), l4, l5, l6, l7, l8, l9, l10, l11, l12, l13, l14, l15, l16, l17, l18, l19, l20, l21, l22, l23, l24, l25, l26], [.int i2, .int i1, .ref k0], h) Q = Tr sc d 199 (47, [l0, l1, l2, some (.int x), l4, l5, l6, l7, l8, l9, l10, l11, l12, l13, l14, l15, l16, l17, l18, l19, l20, l21, l22, l23, l24, l25, l26], [.int x, .int i2, .int i1, .ref k0], h) Q := t_iload_n k_199_46 rfl
theorem k_199_47 : lk 199 47 = some (.iload 4, 49, 4, 0, .null) := by decide +kernel
theorem x_199_47 : Tr sc d 199 (47, [l0, l1, l2, l3, some (.int x), l5, l6, l7, l8, l9, l10, l11, l12, l13, l14, l15, l16, l17, l18, l19, l20, l21, l22, l23, l24, l25, l26], [.int i3, .int i2, .int i1, .ref k0], h) Q = Tr sc d 199 (49, [l0, l1, l2, l3, some (.int x), l5, l6, l7, l8, l9, l10, l11, l12, l13, l14, l15, l16, l17, l18, l19, l20, l21, l22, l23, l24, l25, l26], [.int x, .int i3, .int i2, .int i1, .ref k0], h) Q := t_iload k_199_47 rfl
theorem k_199_49 : lk 199 49 = some (.invokevirtual 260, 52, 196, 4, .null) := by decide +kernel
theorem x_199_49 : Tr sc (d + 1) 199 (49, [l0, l1, l2, l3, l4, l5, l6, l7, l8, l9, l10, l11, l12, l13, l14, l15, l16, l17, l18, l19, l20, l21, l22, l23, l24, l25, l26], [.int i4, .int i3, .int i2, .int i1, .ref k0], h) Q = (okp h k0 10 = true ∧ Tr sc d 196 (ent0 196 [.ref k0, .int i1, .int i2, .int i3, .int i4] h) (fun z => Tr sc (d + 1) 199 (52, [l0, l1, l2, l3, l4, l5, l6, l7, l8, l9, l10, l11, l12, l13, l14, l15, l16, l17, l18, l19, l20, l21, l22, l23, l24, l25, l26], z.1.toList ++ [], z.2) Q)) := t_cv (as := [.int i1, .int i2, .int i3, .int i4]) (r := []) k_199_49 rfl rfl (Nat.le_of_ble_eq_true rfl) (Nat.le_of_ble_eq_true rfl) (Nat.le_of_ble_eq_true rfl)
theorem k_199_52 : lk 199 52 = some (.aload_n 0, 53, 0, 0, .null) := by decide +kernel
theorem x_199_52 : Tr sc d 199 (52, [some (.ref xk), l1, l2, l3, l4, l5, l6, l7, l8, l9, l10, l11, l12, l13, l14, l15, l16, l17, l18, l19, l20, l21, l22, l23, l24, l25, l26], [], h) Q = Tr sc d 199 (53, [some (.ref xk), l1, l2, l3, l4, l5, l6, l7, l8, l9, l10, l11, l12, l13, l14, l15, l16, l17, l18, l19, l20, l21, l22, l23, l24, l25, l26], [.ref xk], h) Q := t_aload_n k_199_52 rfl
theorem k_199_53 : lk 199 53 = some (.getfield 38, 56, 10, 17, .null) := by decide +kernel
theorem x_199_53 : Tr sc d 199 (53, [l0, l1, l2, l3, l4, l5, l6, l7, l8, l9, l10, l11, l12, l13, l14, l15, l16, l17, l18, l19, l20, l21, l22, l23, l24, l25, l26], [.ref k0], h) Q = (okp h k0 10 = true ∧ ∃ q, hR h k0 17 = some q ∧ Tr sc d 199 (56, [l0, l1, l2, l3, l4, l5, l6, l7, l8, l9, l10, l11, l12, l13, l14, l15, l16, l17, l18, l19, l20, l21, l22, l23, l24, l25, l26], [.ref q], h) Q) := t_getr k_199_53
theorem k_199_56 : lk 199 56 = some (.iload_n 1, 57, 1, 0, .null) := by decide +kernel
theorem x_199_56 : Tr sc d 199 (56, [l0, some (.int x), l2, l3, l4, l5, l6, l7, l8, l9, l10, l11, l12, l13, l14, l15, l16, l17, l18, l19, l20, l21, l22, l23, l24, l25, l26], [.ref k0], h) Q = Tr sc d 199 (57, [l0, some (.int x), l2, l3, l4, l5, l6, l7, l8, l9, l10, l11, l12, l13, l14, l15, l16, l17, l18, l19, l20, l21, l22, l23, l24, l25, l26], [.int x, .ref k0], h) Q := t_iload_n k_199_56 rfl
theorem k_199_57 : lk 199 57 = some (.iaload, 58, 0, 0, .null) := by decide +kernel
theorem x_199_57 : Tr sc d 199 (57, [l0, l1, l2, l3, l4, l5, l6, l7, l8, l9, l10, l11, l12, l13, l14, l15, l16, l17, l18, l19, l20, l21, l22, l23, l24, l25, l26], [.int i1, .ref k0], h) Q = (iOk sc h k0 i1 ∧ Tr sc d 199 (58, [l0, l1, l2, l3, l4, l5, l6, l7, l8, l9, l10, l11, l12, l13, l14, l15, l16, l17, l18, l19, l20, l21, l22, l23, l24, l25, l26], [.int (iRd sc h k0 i1)], h) Q) := t_iald k_199_57
theorem k_199_58 : lk 199 58 = some (.iload 4, 60, 4, 0, .null) := by decide +kernel
theorem x_199_58 : Tr sc d 199 (58, [l0, l1, l2, l3, some (.int x), l5, l6, l7, l8, l9, l10, l11, l12, l13, l14, l15, l16, l17, l18, l19, l20, l21, l22, l23, l24, l25, l26], [.int i0], h) Q = Tr sc d 199 (60, [l0, l1, l2, l3, some (.int x), l5, l6, l7, l8, l9, l10, l11, l12, l13, l14, l15, l16, l17, l18, l19, l20, l21, l22, l23, l24, l25, l26], [.int x, .int i0], h) Q := t_iload k_199_58 rfl
theorem k_199_60 : lk 199 60 = some (.invokestatic 247, 63, 195, 2, .null) := by decide +kernel
theorem x_199_60 : Tr sc (d + 1) 199 (60, [l0, l1, l2, l3, l4, l5, l6, l7, l8, l9, l10, l11, l12, l13, l14, l15, l16, l17, l18, l19, l20, l21, l22, l23, l24, l25, l26], [.int i1, .int i0], h) Q = Tr sc d 195 (ent0 195 [.int i0, .int i1] h) (fun z => Tr sc (d + 1) 199 (63, [l0, l1, l2, l3, l4, l5, l6, l7, l8, l9, l10, l11, l12, l13, l14, l15, l16, l17, l18, l19, l20, l21, l22, l23, l24, l25, l26], z.1.toList ++ [], z.2) Q) := t_cs (as := [.int i0, .int i1]) (r := []) k_199_60 (by decide) rfl rfl (Nat.le_of_ble_eq_true rfl) (Nat.le_of_ble_eq_true rfl)
theorem k_199_63 : lk 199 63 = some (.i2l, 64, 0, 0, .null) := by decide +kernel
theorem x_199_63 : Tr sc d 199 (63, [l0, l1, l2, l3, l4, l5, l6, l7, l8, l9, l10, l11, l12, l13, l14, l15, l16, l17, l18, l19, l20, l21, l22, l23, l24, l25, l26], [.int i0], h) Q = Tr sc d 199 (64, [l0, l1, l2, l3, l4, l5, l6, l7, l8, l9, l10, l11, l12, l13, l14, l15, l16, l17, l18, l19, l20, l21, l22, l23, l24, l25, l26], [.long i0.toInt64], h) Q := t_go k_199_63 rfl
theorem k_199_64 : lk 199 64 = some (.lstore 7, 66, 7, 0, .null) := by decide +kernel
theorem x_199_64 : Tr sc d 199 (64, [l0, l1, l2, l3, l4, l5, l6, l7, l8, l9, l10, l11, l12, l13, l14, l15, l16, l17, l18, l19, l20, l21, l22, l23, l24, l25, l26], [.long j0], h) Q = Tr sc d 199 (66, [l0, l1, l2, l3, l4, l5, cl2 l6, some (.long j0), none, l9, l10, l11, l12, l13, l14, l15, l16, l17, l18, l19, l20, l21, l22, l23, l24, l25, l26], [], h) Q := t_lstore k_199_64 (Nat.le_of_ble_eq_true rfl)
theorem k_199_66 : lk 199 66 = some (.lload 7, 68, 7, 0, .null) := by decide +kernel
theorem x_199_66 : Tr sc d 199 (66, [l0, l1, l2, l3, l4, l5, l6, some (.long xl), l8, l9, l10, l11, l12, l13, l14, l15, l16, l17, l18, l19, l20, l21, l22, l23, l24, l25, l26], [], h) Q = Tr sc d 199 (68, [l0, l1, l2, l3, l4, l5, l6, some (.long xl), l8, l9, l10, l11, l12, l13, l14, l15, l16, l17, l18, l19, l20, l21, l22, l23, l24, l25, l26], [.long xl], h) Q := t_lload k_199_66 rfl
theorem k_199_68 : lk 199 68 = some (.aload_n 0, 69, 0, 0, .null) := by decide +kernel
theorem x_199_68 : Tr sc d 199 (68, [some (.ref xk), l1, l2, l3, l4, l5, l6, l7, l8, l9, l10, l11, l12, l13, l14, l15, l16, l17, l18, l19, l20, l21, l22, l23, l24, l25, l26], [.long j0], h) Q = Tr sc d 199 (69, [some (.ref xk), l1, l2, l3, l4, l5, l6, l7, l8, l9, l10, l11, l12, l13, l14, l15, l16, l17, l18, l19, l20, l21, l22, l23, l24, l25, l26], [.ref xk, .long j0], h) Q := t_aload_n k_199_68 rfl
theorem k_199_69 : lk 199 69 = some (.getfield 235, 72, 10, 25, .int 0) := by decide +kernel
theorem x_199_69 : Tr sc d 199 (69, [l0, l1, l2, l3, l4, l5, l6, l7, l8, l9, l10, l11, l12, l13, l14, l15, l16, l17, l18, l19, l20, l21, l22, l23, l24, l25, l26], [.ref k1, .long j0], h) Q = (okp h k1 10 = true ∧ Tr sc d 199 (72, [l0, l1, l2, l3, l4, l5, l6, l7, l8, l9, l10, l11, l12, l13, l14, l15, l16, l17, l18, l19, l20, l21, l22, l23, l24, l25, l26], [.int (hI h k1 25), .long j0], h) Q) := t_gd k_199_69 rfl
theorem k_199_72 : lk 199 72 = some (.i2l, 73, 0, 0, .null) := by decide +kernel
theorem x_199_72 : Tr sc d 199 (72, [l0, l1, l2, l3, l4, l5, l6, l7, l8, l9, l10, l11, l12, l13, l14, l15, l16, l17, l18, l19, l20, l21, l22, l23, l24, l25, l26], [.int i1, .long j0], h) Q = Tr sc d 199 (73, [l0, l1, l2, l3, l4, l5, l6, l7, l8, l9, l10, l11, l12, l13, l14, l15, l16, l17, l18, l19, l20, l21, l22, l23, l24, l25, l26], [.long i1.toInt64, .long j0], h) Q := t_go k_199_72 rfl
theorem k_199_73 : lk 199 73 = some (.lsub, 74, 0, 0, .null) := by decide +kernel
theorem x_199_73 : Tr sc d 199 (73, [l0, l1, l2, l3, l4, l5, l6, l7, l8, l9, l10, l11, l12, l13, l14, l15, l16, l17, l18, l19, l20, l21, l22, l23, l24, l25, l26], [.long j1, .long j0], h) Q = Tr sc d 199 (74, [l0, l1, l2, l3, l4, l5, l6, l7, l8, l9, l10, l11, l12, l13, l14, l15, l16, l17, l18, l19, l20, l21, l22, l23, l24, l25, l26], [.long (j0 - j1)], h) Q := t_go k_199_73 rfl
theorem k_199_74 : lk 199 74 = some (.lstore 9, 76, 9, 0, .null) := by decide +kernel
theorem x_199_74 : Tr sc d 199 (74, [l0, l1, l2, l3, l4, l5, l6, l7, l8, l9, l10, l11, l12, l13, l14, l15, l16, l17, l18, l19, l20, l21, l22, l23, l24, l25, l26], [.long j0], h) Q = Tr sc d 199 (76, [l0, l1, l2, l3, l4, l5, l6, l7, cl2 l8, some (.long j0), none, l11, l12, l13, l14, l15, l16, l17, l18, l19, l20, l21, l22, l23, l24, l25, l26], [], h) Q := t_lstore k_199_74 (Nat.le_of_ble_eq_true rfl)
theorem k_199_76 : lk 199 76 = some (.aload_n 0, 77, 0, 0, .null) := by decide +kernel
theorem x_199_76 : Tr sc d 199 (76, [some (.ref xk), l1, l2, l3, l4, l5, l6, l7, l8, l9, l10, l11, l12, l13, l14, l15, l16, l17, l18, l19, l20, l21, l22, l23, l24, l25, l26], [], h) Q = Tr sc d 199 (77, [some (.ref xk), l1, l2, l3, l4, l5, l6, l7, l8, l9, l10, l11, l12, l13, l14, l15, l16, l17, l18, l19, l20, l21, l22, l23, l24, l25, l26], [.ref xk], h) Q := t_aload_n k_199_76 rfl
theorem k_199_77 : lk 199 77 = some (.getfield 241, 80, 10, 27, .int 0) := by decide +kernel
theorem x_199_77 : Tr sc d 199 (77, [l0, l1, l2, l3, l4, l5, l6, l7, l8, l9, l10, l11, l12, l13, l14, l15, l16, l17, l18, l19, l20, l21, l22, l23, l24, l25, l26], [.ref k0], h) Q = (okp h k0 10 = true ∧ Tr sc d 199 (80, [l0, l1, l2, l3, l4, l5, l6, l7, l8, l9, l10, l11, l12, l13, l14, l15, l16, l17, l18, l19, l20, l21, l22, l23, l24, l25, l26], [.int (hI h k0 27)], h) Q) := t_gd k_199_77 rfl
theorem k_199_80 : lk 199 80 = some (.ineg, 81, 0, 0, .null) := by decide +kernel
theorem x_199_80 : Tr sc d 199 (80, [l0, l1, l2, l3, l4, l5, l6, l7, l8, l9, l10, l11, l12, l13, l14, l15, l16, l17, l18, l19, l20, l21, l22, l23, l24, l25, l26], [.int i0], h) Q = Tr sc d 199 (81, [l0, l1, l2, l3, l4, l5, l6, l7, l8, l9, l10, l11, l12, l13, l14, l15, l16, l17, l18, l19, l20, l21, l22, l23, l24, l25, l26], [.int (-i0)], h) Q := t_go k_199_80 rfl
theorem k_199_81 : lk 199 81 = some (.i2l, 82, 0, 0, .null) := by decide +kernel
theorem x_199_81 : Tr sc d 199 (81, [l0, l1, l2, l3, l4, l5, l6, l7, l8, l9, l10, l11, l12, l13, l14, l15, l16, l17, l18, l19, l20, l21, l22, l23, l24, l25, l26], [.int i0], h) Q = Tr sc d 199 (82, [l0, l1, l2, l3, l4, l5, l6, l7, l8, l9, l10, l11, l12, l13, l14, l15, l16, l17, l18, l19, l20, l21, l22, l23, l24, l25, l26], [.long i0.toInt64], h) Q := t_go k_199_81 rfl
theorem k_199_82 : lk 199 82 = some (.lstore 11, 84, 11, 0, .null) := by decide +kernel
theorem x_199_82 : Tr sc d 199 (82, [l0, l1, l2, l3, l4, l5, l6, l7, l8, l9, l10, l11, l12, l13, l14, l15, l16, l17, l18, l19, l20, l21, l22, l23, l24, l25, l26], [.long j0], h) Q = Tr sc d 199 (84, [l0, l1, l2, l3, l4, l5, l6, l7, l8, l9, cl2 l10, some (.long j0), none, l13, l14, l15, l16, l17, l18, l19, l20, l21, l22, l23, l24, l25, l26], [], h) Q := t_lstore k_199_82 (Nat.le_of_ble_eq_true rfl)
theorem k_199_84 : lk 199 84 = some (.aload_n 0, 85, 0, 0, .null) := by decide +kernel
theorem x_199_84 : Tr sc d 199 (84, [some (.ref xk), l1, l2, l3, l4, l5, l6, l7, l8, l9, l10, l11, l12, l13, l14, l15, l16, l17, l18, l19, l20, l21, l22, l23, l24, l25, l26], [], h) Q = Tr sc d 199 (85, [some (.ref xk), l1, l2, l3, l4, l5, l6, l7, l8, l9, l10, l11, l12, l13, l14, l15, l16, l17, l18, l19, l20, l21, l22, l23, l24, l25, l26], [.ref xk], h) Q := t_aload_n k_199_84 rfl
theorem k_199_85 : lk 199 85 = some (.getfield 238, 88, 10, 26, .int 0) := by decide +kernel
theorem x_199_85 : Tr sc d 199 (85, [l0, l1, l2, l3, l4, l5, l6, l7, l8, l9, l10, l11, l12, l13, l14, l15, l16, l17, l18, l19, l20, l21, l22, l23, l24, l25, l26], [.ref k0], h) Q = (okp h k0 10 = true ∧ Tr sc d 199 (88, [l0, l1, l2, l3, l4, l5, l6, l7, l8, l9, l10, l11, l12, l13, l14, l15, l16, l17, l18, l19, l20, l21, l22, l23, l24, l25, l26], [.int (hI h k0 26)], h) Q) := t_gd k_199_85 rfl
theorem k_199_88 : lk 199 88 = some (.ineg, 89, 0, 0, .null) := by decide +kernel
theorem x_199_88 : Tr sc d 199 (88, [l0, l1, l2, l3, l4, l5, l6, l7, l8, l9, l10, l11, l12, l13, l14, l15, l16, l17, l18, l19, l20, l21, l22, l23, l24, l25, l26], [.int i0], h) Q = Tr sc d 199 (89, [l0, l1, l2, l3, l4, l5, l6, l7, l8, l9, l10, l11, l12, l13, l14, l15, l16, l17, l18, l19, l20, l21, l22, l23, l24, l25, l26], [.int (-i0)], h) Q := t_go k_199_88 rfl
theorem k_199_89 : lk 199 89 = some (.i2l, 90, 0, 0, .null) := by decide +kernel
theorem x_199_89 : Tr sc d 199 (89, [l0, l1, l2, l3, l4, l5, l6, l7, l8, l9, l10, l11, l12, l13, l14, l15, l16, l17, l18, l19, l20, l21, l22, l23, l24, l25, l26], [.int i0], h) Q = Tr sc d 199 (90, [l0, l1, l2, l3, l4, l5, l6, l7, l8, l9, l10, l11, l12, l13, l14, l15, l16, l17, l18, l19, l20, l21, l22, l23, l24, l25, l26], [.long i0.toInt64], h) Q := t_go k_199_89 rfl
theorem k_199_90 : lk 199 90 = some (.lstore 13, 92, 13, 0, .null) := by decide +kernel
theorem x_199_90 : Tr sc d 199 (90, [l0, l1, l2, l3, l4, l5, l6, l7, l8, l9, l10, l11, l12, l13, l14, l15, l16, l17, l18, l19, l20, l21, l22, l23, l24, l25, l26], [.long j0], h) Q = Tr sc d 199 (92, [l0, l1, l2, l3, l4, l5, l6, l7, l8, l9, l10, l11, cl2 l12, some (.long j0), none, l15, l16, l17, l18, l19, l20, l21, l22, l23, l24, l25, l26], [], h) Q := t_lstore k_199_90 (Nat.le_of_ble_eq_true rfl)
theorem k_199_92 : lk 199 92 = some (.lload 7, 94, 7, 0, .null) := by decide +kernel
theorem x_199_92 : Tr sc d 199 (92, [l0, l1, l2, l3, l4, l5, l6, some (.long xl), l8, l9, l10, l11, l12, l13, l14, l15, l16, l17, l18, l19, l20, l21, l22, l23, l24, l25, l26], [], h) Q = Tr sc d 199 (94, [l0, l1, l2, l3, l4, l5, l6, some (.long xl), l8, l9, l10, l11, l12, l13, l14, l15, l16, l17, l18, l19, l20, l21, l22, l23, l24, l25, l26], [.long xl], h) Q := t_lload k_199_92 rfl
theorem k_199_94 : lk 199 94 = some (.aload_n 0, 95, 0, 0, .null) := by decide +kernel
theorem x_199_94 : Tr sc d 199 (94, [some (.ref xk), l1, l2, l3, l4, l5, l6, l7, l8, l9, l10, l11, l12, l13, l14, l15, l16, l17, l18, l19, l20, l21, l22, l23, l24, l25, l26], [.long j0], h) Q = Tr sc d 199 (95, [some (.ref xk), l1, l2, l3, l4, l5, l6, l7, l8, l9, l10, l11, l12, l13, l14, l15, l16, l17, l18, l19, l20, l21, l22, l23, l24, l25, l26], [.ref xk, .long j0], h) Q := t_aload_n k_199_94 rfl
theorem k_199_95 : lk 199 95 = some (.getfield 244, 98, 10, 28, .int 0) := by decide +kernel
theorem x_199_95 : Tr sc d 199 (95, [l0, l1, l2, l3, l4, l5, l6, l7, l8, l9, l10, l11, l12, l13, l14, l15, l16, l17, l18, l19, l20, l21, l22, l23, l24, l25, l26], [.ref k1, .long j0], h) Q = (okp h k1 10 = true ∧ Tr sc d 199 (98, [l0, l1, l2, l3, l4, l5, l6, l7, l8, l9, l10, l11, l12, l13, l14, l15, l16, l17, l18, l19, l20, l21, l22, l23, l24, l25, l26], [.int (hI h k1 28), .long j0], h) Q) := t_gd k_199_95 rfl
theorem k_199_98 : lk 199 98 = some (.i2l, 99, 0, 0, .null) := by decide +kernel
theorem x_199_98 : Tr sc d 199 (98, [l0, l1, l2, l3, l4, l5, l6, l7, l8, l9, l10, l11, l12, l13, l14, l15, l16, l17, l18, l19, l20, l21, l22, l23, l24, l25, l26], [.int i1, .long j0], h) Q = Tr sc d 199 (99, [l0, l1, l2, l3, l4, l5, l6, l7, l8, l9, l10, l11, l12, l13, l14, l15, l16, l17, l18, l19, l20, l21, l22, l23, l24, l25, l26], [.long i1.toInt64, .long j0], h) Q := t_go k_199_98 rfl
theorem k_199_99 : lk 199 99 = some (.lsub, 100, 0, 0, .null) := by decide +kernel
theorem x_199_99 : Tr sc d 199 (99, [l0, l1, l2, l3, l4, l5, l6, l7, l8, l9, l10, l11, l12, l13, l14, l15, l16, l17, l18, l19, l20, l21, l22, l23, l24, l25, l26], [.long j1, .long j0], h) Q = Tr sc d 199 (100, [l0, l1, l2, l3, l4, l5, l6, l7, l8, l9, l10, l11, l12, l13, l14, l15, l16, l17, l18, l19, l20, l21, l22, l23, l24, l25, l26], [.long (j0 - j1)], h) Q := t_go k_199_99 rfl
theorem k_199_100 : lk 199 100 = some (.lstore 15, 102, 15, 0, .null) := by decide +kernel
theorem x_199_100 : Tr sc d 199 (100, [l0, l1, l2, l3, l4, l5, l6, l7, l8, l9, l10, l11, l12, l13, l14, l15, l16, l17, l18, l19, l20, l21, l22, l23, l24, l25, l26], [.long j0], h) Q = Tr sc d 199 (102, [l0, l1, l2, l3, l4, l5, l6, l7, l8, l9, l10, l11, l12, l13, cl2 l14, some (.long j0), none, l17, l18, l19, l20, l21, l22, l23, l24, l25, l26], [], h) Q := t_lstore k_199_100 (Nat.le_of_ble_eq_true rfl)
theorem k_199_102 : lk 199 102 = some (.lload 9, 104, 9, 0, .null) := by decide +kernel
theorem x_199_102 : Tr sc d 199 (102, [l0, l1, l2, l3, l4, l5, l6, l7, l8, some (.long xl), l10, l11, l12, l13, l14, l15, l16, l17, l18, l19, l20, l21, l22, l23, l24, l25, l26], [], h) Q = Tr sc d 199 (104, [l0, l1, l2, l3, l4, l5, l6, l7, l8, some (.long xl), l10, l11, l12, l13, l14, l15, l16, l17, l18, l19, l20, l21, l22, l23, l24, l25, l26], [.long xl], h) Q := t_lload k_199_102 rfl
theorem k_199_104 : lk 199 104 = some (.lload 15, 106, 15, 0, .null) := by decide +kernel
theorem x_199_104 : Tr sc d 199 (104, [l0, l1, l2, l3, l4, l5, l6, l7, l8, l9, l10, l11, l12, l13, l14, some (.long xl), l16, l17, l18, l19, l20, l21, l22, l23, l24, l25, l26], [.long j0], h) Q = Tr sc d 199 (106, [l0, l1, l2, l3, l4, l5, l6, l7, l8, l9, l10, l11, l12, l13, l14, some (.long xl), l16, l17, l18, l19, l20, l21, l22, l23, l24, l25, l26], [.long xl, .long j0], h) Q := t_lload k_199_104 rfl
theorem k_199_106 : lk 199 106 = some (.lmul, 107, 0, 0, .null) := by decide +kernel
theorem x_199_106 : Tr sc d 199 (106, [l0, l1, l2, l3, l4, l5, l6, l7, l8, l9, l10, l11, l12, l13, l14, l15, l16, l17, l18, l19, l20, l21, l22, l23, l24, l25, l26], [.long j1, .long j0], h) Q = Tr sc d 199 (107, [l0, l1, l2, l3, l4, l5, l6, l7, l8, l9, l10, l11, l12, l13, l14, l15, l16, l17, l18, l19, l20, l21, l22, l23, l24, l25, l26], [.long (j0 * j1)], h) Q := t_go k_199_106 rfl
theorem k_199_107 : lk 199 107 = some (.lload 11, 109, 11, 0, .null) := by decide +kernel
theorem x_199_107 : Tr sc d 199 (107, [l0, l1, l2, l3, l4, l5, l6, l7, l8, l9, l10, some (.long xl), l12, l13, l14, l15, l16, l17, l18, l19, l20, l21, l22, l23, l24, l25, l26], [.long j0], h) Q = Tr sc d 199 (109, [l0, l1, l2, l3, l4, l5, l6, l7, l8, l9, l10, some (.long xl), l12, l13, l14, l15, l16, l17, l18, l19, l20, l21, l22, l23, l24, l25, l26], [.long xl, .long j0], h) Q := t_lload k_199_107 rfl
theorem k_199_109 : lk 199 109 = some (.lload 13, 111, 13, 0, .null) := by decide +kernel
theorem x_199_109 : Tr sc d 199 (109, [l0, l1, l2, l3, l4, l5, l6, l7, l8, l9, l10, l11, l12, some (.long xl), l14, l15, l16, l17, l18, l19, l20, l21, l22, l23, l24, l25, l26], [.long j1, .long j0], h) Q = Tr sc d 199 (111, [l0, l1, l2, l3, l4, l5, l6, l7, l8, l9, l10, l11, l12, some (.long xl), l14, l15, l16, l17, l18, l19, l20, l21, l22, l23, l24, l25, l26], [.long xl, .long j1, .long j0], h) Q := t_lload k_199_109 rfl
theorem k_199_111 : lk 199 111 = some (.lmul, 112, 0, 0, .null) := by decide +kernel
theorem x_199_111 : Tr sc d 199 (111, [l0, l1, l2, l3, l4, l5, l6, l7, l8, l9, l10, l11, l12, l13, l14, l15, l16, l17, l18, l19, l20, l21, l22, l23, l24, l25, l26], [.long j2, .long j1, .long j0], h) Q = Tr sc d 199 (112, [l0, l1, l2, l3, l4, l5, l6, l7, l8, l9, l10, l11, l12, l13, l14, l15, l16, l17, l18, l19, l20, l21, l22, l23, l24, l25, l26], [.long (j1 * j2), .long j0], h) Q := t_go k_199_111 rfl
theorem k_199_112 : lk 199 112 = some (.lsub, 113, 0, 0, .null) := by decide +kernel
theorem x_199_112 : Tr sc d 199 (112, [l0, l1, l2, l3, l4, l5, l6, l7, l8, l9, l10, l11, l12, l13, l14, l15, l16, l17, l18, l19, l20, l21, l22, l23, l24, l25, l26], [.long j1, .long j0], h) Q = Tr sc d 199 (113, [l0, l1, l2, l3, l4, l5, l6, l7, l8, l9, l10, l11, l12, l13, l14, l15, l16, l17, l18, l19, l20, l21, l22, l23, l24, l25, l26], [.long (j0 - j1)], h) Q := t_go k_199_112 rfl
theorem k_199_113 : lk 199 113 = some (.lstore 17, 115, 17, 0, .null) := by decide +kernel
theorem x_199_113 : Tr sc d 199 (113, [l0, l1, l2, l3, l4, l5, l6, l7, l8, l9, l10, l11, l12, l13, l14, l15, l16, l17, l18, l19, l20, l21, l22, l23, l24, l25, l26], [.long j0], h) Q = Tr sc d 199 (115, [l0, l1, l2, l3, l4, l5, l6, l7, l8, l9, l10, l11, l12, l13, l14, l15, cl2 l16, some (.long j0), none, l19, l20, l21, l22, l23, l24, l25, l26], [], h) Q := t_lstore k_199_113 (Nat.le_of_ble_eq_true rfl)
theorem k_199_115 : lk 199 115 = some (.lload 15, 117, 15, 0, .null) := by decide +kernel
theorem x_199_115 : Tr sc d 199 (115, [l0, l1, l2, l3, l4, l5, l6, l7, l8, l9, l10, l11, l12, l13, l14, some (.long xl), l16, l17, l18, l19, l20, l21, l22, l23, l24, l25, l26], [], h) Q = Tr sc d 199 (117, [l0, l1, l2, l3, l4, l5, l6, l7, l8, l9, l10, l11, l12, l13, l14, some (.long xl), l16, l17, l18, l19, l20, l21, l22, l23, l24, l25, l26], [.long xl], h) Q := t_lload k_199_115 rfl
theorem k_199_117 : lk 199 117 = some (.aload_n 0, 118, 0, 0, .null) := by decide +kernel
theorem x_199_117 : Tr sc d 199 (117, [some (.ref xk), l1, l2, l3, l4, l5, l6, l7, l8, l9, l10, l11, l12, l13, l14, l15, l16, l17, l18, l19, l20, l21, l22, l23, l24, l25, l26], [.long j0], h) Q = Tr sc d 199 (118, [some (.ref xk), l1, l2, l3, l4, l5, l6, l7, l8, l9, l10, l11, l12, l13, l14, l15, l16, l17, l18, l19, l20, l21, l22, l23, l24, l25, l26], [.ref xk, .long j0], h) Q := t_aload_n k_199_117 rfl
theorem k_199_118 : lk 199 118 = some (.getfield 229, 121, 10, 23, .int 0) := by decide +kernel
theorem x_199_118 : Tr sc d 199 (118, [l0, l1, l2, l3, l4, l5, l6, l7, l8, l9, l10, l11, l12, l13, l14, l15, l16, l17, l18, l19, l20, l21, l22, l23, l24, l25, l26], [.ref k1, .long j0], h) Q = (okp h k1 10 = true ∧ Tr sc d 199 (121, [l0, l1, l2, l3, l4, l5, l6, l7, l8, l9, l10, l11, l12, l13, l14, l15, l16, l17, l18, l19, l20, l21, l22, l23, l24, l25, l26], [.int (hI h k1 23), .long j0], h) Q) := t_gd k_199_118 rfl
theorem k_199_121 : lk 199 121 = some (.i2l, 122, 0, 0, .null) := by decide +kernel
theorem x_199_121 : Tr sc d 199 (121, [l0, l1, l2, l3, l4, l5, l6, l7, l8, l9, l10, l11, l12, l13, l14, l15, l16, l17, l18, l19, l20, l21, l22, l23, l24, l25, l26], [.int i1, .long j0], h) Q = Tr sc d 199 (122, [l0, l1, l2, l3, l4, l5, l6, l7, l8, l9, l10, l11, l12, l13, l14, l15, l16, l17, l18, l19, l20, l21, l22, l23, l24, l25, l26], [.long i1.toInt64, .long j0], h) Q := t_go k_199_121 rfl
theorem k_199_122 : lk 199 122 = some (.lmul, 123, 0, 0, .null) := by decide +kernel
theorem x_199_122 : Tr sc d 199 (122, [l0, l1, l2, l3, l4, l5, l6, l7, l8, l9, l10, l11, l12, l13, l14, l15, l16, l17, l18, l19, l20, l21, l22, l23, l24, l25, l26], [.long j1, .long j0], h) Q = Tr sc d 199 (123, [l0, l1, l2, l3, l4, l5, l6, l7, l8, l9, l10, l11, l12, l13, l14, l15, l16, l17, l18, l19, l20, l21, l22, l23, l24, l25, l26], [.long (j0 * j1)], h) Q := t_go k_199_122 rfl
theorem k_199_123 : lk 199 123 = some (.lload 11, 125, 11, 0, .null) := by decide +kernel
theorem x_199_123 : Tr sc d 199 (123, [l0, l1, l2, l3, l4, l5, l6, l7, l8, l9, l10, some (.long xl), l12, l13, l14, l15, l16, l17, l18, l19, l20, l21, l22, l23, l24, l25, l26], [.long j0], h) Q = Tr sc d 199 (125, [l0, l1, l2, l3, l4, l5, l6, l7, l8, l9, l10, some (.long xl), l12, l13, l14, l15, l16, l17, l18, l19, l20, l21, l22, l23, l24, l25, l26], [.long xl, .long j0], h) Q := t_lload k_199_123 rfl
theorem k_199_125 : lk 199 125 = some (.aload_n 0, 126, 0, 0, .null) := by decide +kernel
theorem x_199_125 : Tr sc d 199 (125, [some (.ref xk), l1, l2, l3, l4, l5, l6, l7, l8, l9, l10, l11, l12, l13, l14, l15, l16, l17, l18, l19, l20, l21, l22, l23, l24, l25, l26], [.long j1, .long j0], h) Q = Tr sc d 199 (126, [some (.ref xk), l1, l2, l3, l4, l5, l6, l7, l8, l9, l10, l11, l12, l13, l14, l15, l16, l17, l18, l19, l20, l21, l22, l23, l24, l25, l26], [.ref xk, .long j1, .long j0], h) Q := t_aload_n k_199_125 rfl
theorem k_199_126 : lk 199 126 = some (.getfield 232, 129, 10, 24, .int 0) := by decide +kernel
theorem x_199_126 : Tr sc d 199 (126, [l0, l1, l2, l3, l4, l5, l6, l7, l8, l9, l10, l11, l12, l13, l14, l15, l16, l17, l18, l19, l20, l21, l22, l23, l24, l25, l26], [.ref k2, .long j1, .long j0], h) Q = (okp h k2 10 = true ∧ Tr sc d 199 (129, [l0, l1, l2, l3, l4, l5, l6, l7, l8, l9, l10, l11, l12, l13, l14, l15, l16, l17, l18, l19, l20, l21, l22, l23, l24, l25, l26], [.int (hI h k2 24), .long j1, .long j0], h) Q) := t_gd k_199_126 rfl
theorem k_199_129 : lk 199 129 = some (.i2l, 130, 0, 0, .null) := by decide +kernel
theorem x_199_129 : Tr sc d 199 (129, [l0, l1, l2, l3, l4, l5, l6, l7, l8, l9, l10, l11, l12, l13, l14, l15, l16, l17, l18, l19, l20, l21, l22, l23, l24, l25, l26], [.int i2, .long j1, .long j0], h) Q = Tr sc d 199 (130, [l0, l1, l2, l3, l4, l5, l6, l7, l8, l9, l10, l11, l12, l13, l14, l15, l16, l17, l18, l19, l20, l21, l22, l23, l24, l25, l26], [.long i2.toInt64, .long j1, .long j0], h) Q := t_go k_199_129 rfl
theorem k_199_130 : lk 199 130 = some (.lmul, 131, 0, 0, .null) := by decide +kernel
theorem x_199_130 : Tr sc d 199 (130, [l0, l1, l2, l3, l4, l5, l6, l7, l8, l9, l10, l11, l12, l13, l14, l15, l16, l17, l18, l19, l20, l21, l22, l23, l24, l25, l26], [.long j2, .long j1, .long j0], h) Q = Tr sc d 199 (131, [l0, l1, l2, l3, l4, l5, l6, l7, l8, l9, l10, l11, l12, l13, l14, l15, l16, l17, l18, l19, l20, l21, l22, l23, l24, l25, l26], [.long (j1 * j2), .long j0], h) Q := t_go k_199_130 rfl
theorem k_199_131 : lk 199 131 = some (.lsub, 132, 0, 0, .null) := by decide +kernel
theorem x_199_131 : Tr sc d 199 (131, [l0, l1, l2, l3, l4, l5, l6, l7, l8, l9, l10, l11, l12, l13, l14, l15, l16, l17, l18, l19, l20, l21, l22, l23, l24, l25, l26], [.long j1, .long j0], h) Q = Tr sc d 199 (132, [l0, l1, l2, l3, l4, l5, l6, l7, l8, l9, l10, l11, l12, l13, l14, l15, l16, l17, l18, l19, l20, l21, l22, l23, l24, l25, l26], [.long (j0 - j1)], h) Q := t_go k_199_131 rfl
theorem k_199_132 : lk 199 132 = some (.lstore 19, 134, 19, 0, .null) := by decide +kernel
theorem x_199_132 : Tr sc d 199 (132, [l0, l1, l2, l3, l4, l5, l6, l7, l8, l9, l10, l11, l12, l13, l14, l15, l16, l17, l18, l19, l20, l21, l22, l23, l24, l25, l26], [.long j0], h) Q = Tr sc d 199 (134, [l0, l1, l2, l3, l4, l5, l6, l7, l8, l9, l10, l11, l12, l13, l14, l15, l16, l17, cl2 l18, some (.long j0), none, l21, l22, l23, l24, l25, l26], [], h) Q := t_lstore k_199_132 (Nat.le_of_ble_eq_true rfl)
theorem k_199_134 : lk 199 134 = some (.lload 9, 136, 9, 0, .null) := by decide +kernel
theorem x_199_134 : Tr sc d 199 (134, [l0, l1, l2, l3, l4, l5, l6, l7, l8, some (.long xl), l10, l11, l12, l13, l14, l15, l16, l17, l18, l19, l20, l21, l22, l23, l24, l25, l26], [], h) Q = Tr sc d 199 (136, [l0, l1, l2, l3, l4, l5, l6, l7, l8, some (.long xl), l10, l11, l12, l13, l14, l15, l16, l17, l18, l19, l20, l21, l22, l23, l24, l25, l26], [.long xl], h) Q := t_lload k_199_134 rfl
theorem k_199_136 : lk 199 136 = some (.aload_n 0, 137, 0, 0, .null) := by decide +kernel
theorem x_199_136 : Tr sc d 199 (136, [some (.ref xk), l1, l2, l3, l4, l5, l6, l7, l8, l9, l10, l11, l12, l13, l14, l15, l16, l17, l18, l19, l20, l21, l22, l23, l24, l25, l26], [.long j0], h) Q = Tr sc d 199 (137, [some (.ref xk), l1, l2, l3, l4, l5, l6, l7, l8, l9, l10, l11, l12, l13, l14, l15, l16, l17, l18, l19, l20, l21, l22, l23, l24, l25, l26], [.ref xk, .long j0], h) Q := t_aload_n k_199_136 rfl
theorem k_199_137 : lk 199 137 = some (.getfield 232, 140, 10, 24, .int 0) := by decide +kernel
theorem x_199_137 : Tr sc d 199 (137, [l0, l1, l2, l3, l4, l5, l6, l7, l8, l9, l10, l11, l12, l13, l14, l15, l16, l17, l18, l19, l20, l21, l22, l23, l24, l25, l26], [.ref k1, .long j0], h) Q = (okp h k1 10 = true ∧ Tr sc d 199 (140, [l0, l1, l2, l3, l4, l5, l6, l7, l8, l9, l10, l11, l12, l13, l14, l15, l16, l17, l18, l19, l20, l21, l22, l23, l24, l25, l26], [.int (hI h k1 24), .long j0], h) Q) := t_gd k_199_137 rfl
theorem k_199_140 : lk 199 140 = some (.i2l, 141, 0, 0, .null) := by decide +kernel
theorem x_199_140 : Tr sc d 199 (140, [l0, l1, l2, l3, l4, l5, l6, l7, l8, l9, l10, l11, l12, l13, l14, l15, l16, l17, l18, l19, l20, l21, l22, l23, l24, l25, l26], [.int i1, .long j0], h) Q = Tr sc d 199 (141, [l0, l1, l2, l3, l4, l5, l6, l7, l8, l9, l10, l11, l12, l13, l14, l15, l16, l17, l18, l19, l20, l21, l22, l23, l24, l25, l26], [.long i1.toInt64, .long j0], h) Q := t_go k_199_140 rfl
theorem k_199_141 : lk 199 141 = some (.lmul, 142, 0, 0, .null) := by decide +kernel
theorem x_199_141 : Tr sc d 199 (141, [l0, l1, l2, l3, l4, l5, l6, l7, l8, l9, l10, l11, l12, l13, l14, l15, l16, l17, l18, l19, l20, l21, l22, l23, l24, l25, l26], [.long j1, .long j0], h) Q = Tr sc d 199 (142, [l0, l1, l2, l3, l4, l5, l6, l7, l8, l9, l10, l11, l12, l13, l14, l15, l16, l17, l18, l19, l20, l21, l22, l23, l24, l25, l26], [.long (j0 * j1)], h) Q := t_go k_199_141 rfl
theorem k_199_142 : lk 199 142 = some (.lload 13, 144, 13, 0, .null) := by decide +kernel
theorem x_199_142 : Tr sc d 199 (142, [l0, l1, l2, l3, l4, l5, l6, l7, l8, l9, l10, l11, l12, some (.long xl), l14, l15, l16, l17, l18, l19, l20, l21, l22, l23, l24, l25, l26], [.long j0], h) Q = Tr sc d 199 (144, [l0, l1, l2, l3, l4, l5, l6, l7, l8, l9, l10, l11, l12, some (.long xl), l14, l15, l16, l17, l18, l19, l20, l21, l22, l23, l24, l25, l26], [.long xl, .long j0], h) Q := t_lload k_199_142 rfl
theorem k_199_144 : lk 199 144 = some (.aload_n 0, 145, 0, 0, .null) := by decide +kernel
theorem x_199_144 : Tr sc d 199 (144, [some (.ref xk), l1, l2, l3, l4, l5, l6, l7, l8, l9, l10, l11, l12, l13, l14, l15, l16, l17, l18, l19, l20, l21, l22, l23, l24, l25, l26], [.long j1, .long j0], h) Q = Tr sc d 199 (145, [some (.ref xk), l1, l2, l3, l4, l5, l6, l7, l8, l9, l10, l11, l12, l13, l14, l15, l16, l17, l18, l19, l20, l21, l22, l23, l24, l25, l26], [.ref xk, .long j1, .long j0], h) Q := t_aload_n k_199_144 rfl
theorem k_199_145 : lk 199 145 = some (.getfield 229, 148, 10, 23, .int 0) := by decide +kernel
theorem x_199_145 : Tr sc d 199 (145, [l0, l1, l2, l3, l4, l5, l6, l7, l8, l9, l10, l11, l12, l13, l14, l15, l16, l17, l18, l19, l20, l21, l22, l23, l24, l25, l26], [.ref k2, .long j1, .long j0], h) Q = (okp h k2 10 = true ∧ Tr sc d 199 (148, [l0, l1, l2, l3, l4, l5, l6, l7, l8, l9, l10, l11, l12, l13, l14, l15, l16, l17, l18, l19, l20, l21, l22, l23, l24, l25, l26], [.int (hI h k2 23), .long j1, .long j0], h) Q) := t_gd k_199_145 rfl
theorem k_199_148 : lk 199 148 = some (.i2l, 149, 0, 0, .null) := by decide +kernel
theorem x_199_148 : Tr sc d 199 (148, [l0, l1, l2, l3, l4, l5, l6, l7, l8, l9, l10, l11, l12, l13, l14, l15, l16, l17, l18, l19, l20, l21, l22, l23, l24, l25, l26], [.int i2, .long j1, .long j0], h) Q = Tr sc d 199 (149, [l0, l1, l2, l3, l4, l5, l6, l7, l8, l9, l10, l11, l12, l13, l14, l15, l16, l17, l18, l19, l20, l21, l22, l23, l24, l25, l26], [.long i2.toInt64, .long j1, .long j0], h) Q := t_go k_199_148 rfl
theorem k_199_149 : lk 199 149 = some (.lmul, 150, 0, 0, .null) := by decide +kernel
theorem x_199_149 : Tr sc d 199 (149, [l0, l1, l2, l3, l4, l5, l6, l7, l8, l9, l10, l11, l12, l13, l14, l15, l16, l17, l18, l19, l20, l21, l22, l23, l24, l25, l26], [.long j2, .long j1, .long j0], h) Q = Tr sc d 199 (150, [l0, l1, l2, l3, l4, l5, l6, l7, l8, l9, l10, l11, l12, l13, l14, l15, l16, l17, l18, l19, l20, l21, l22, l23, l24, l25, l26], [.long (j1 * j2), .long j0], h) Q := t_go k_199_149 rfl
theorem k_199_150 : lk 199 150 = some (.lsub, 151, 0, 0, .null) := by decide +kernel
theorem x_199_150 : Tr sc d 199 (150, [l0, l1, l2, l3, l4, l5, l6, l7, l8, l9, l10, l11, l12, l13, l14, l15, l16, l17, l18, l19, l20, l21, l22, l23, l24, l25, l26], [.long j1, .long j0], h) Q = Tr sc d 199 (151, [l0, l1, l2, l3, l4, l5, l6, l7, l8, l9, l10, l11, l12, l13, l14, l15, l16, l17, l18, l19, l20, l21, l22, l23, l24, l25, l26], [.long (j0 - j1)], h) Q := t_go k_199_150 rfl
theorem k_199_151 : lk 199 151 = some (.lstore 21, 153, 21, 0, .null) := by decide +kernel
theorem x_199_151 : Tr sc d 199 (151, [l0, l1, l2, l3, l4, l5, l6, l7, l8, l9, l10, l11, l12, l13, l14, l15, l16, l17, l18, l19, l20, l21, l22, l23, l24, l25, l26], [.long j0], h) Q = Tr sc d 199 (153, [l0, l1, l2, l3, l4, l5, l6, l7, l8, l9, l10, l11, l12, l13, l14, l15, l16, l17, l18, l19, cl2 l20, some (.long j0), none, l23, l24, l25, l26], [], h) Q := t_lstore k_199_151 (Nat.le_of_ble_eq_true rfl)
theorem k_199_153 : lk 199 153 = some (.aload_n 0, 154, 0, 0, .null) := by decide +kernel
theorem x_199_153 : Tr sc d 199 (153, [some (.ref xk), l1, l2, l3, l4, l5, l6, l7, l8, l9, l10, l11, l12, l13, l14, l15, l16, l17, l18, l19, l20, l21, l22, l23, l24, l25, l26], [], h) Q = Tr sc d 199 (154, [some (.ref xk), l1, l2, l3, l4, l5, l6, l7, l8, l9, l10, l11, l12, l13, l14, l15, l16, l17, l18, l19, l20, l21, l22, l23, l24, l25, l26], [.ref xk], h) Q := t_aload_n k_199_153 rfl
theorem k_199_154 : lk 199 154 = some (.iload_n 1, 155, 1, 0, .null) := by decide +kernel
theorem x_199_154 : Tr sc d 199 (154, [l0, some (.int x), l2, l3, l4, l5, l6, l7, l8, l9, l10, l11, l12, l13, l14, l15, l16, l17, l18, l19, l20, l21, l22, l23, l24, l25, l26], [.ref k0], h) Q = Tr sc d 199 (155, [l0, some (.int x), l2, l3, l4, l5, l6, l7, l8, l9, l10, l11, l12, l13, l14, l15, l16, l17, l18, l19, l20, l21, l22, l23, l24, l25, l26], [.int x, .ref k0], h) Q := t_iload_n k_199_154 rfl
theorem k_199_155 : lk 199 155 = some (.iload_n 2, 156, 2, 0, .null) := by decide +kernel
theorem x_199_155 : Tr sc d 199 (155, [l0, l1, some (.int x), l3, l4, l5, l6, l7, l8, l9, l10, l11, l12, l13, l14, l15, l16, l17, l18, l19, l20, l21, l22, l23, l24, l25, l26], [.int i1, .ref k0], h) Q = Tr sc d 199 (156, [l0, l1, some (.int x), l3, l4, l5, l6, l7, l8, l9, l10, l11, l12, l13, l14, l15, l16, l17, l18, l19, l20, l21, l22, l23, l24, l25, l26], [.int x, .int i1, .ref k0], h) Q := t_iload_n k_199_155 rfl
theorem k_199_156 : lk 199 156 = some (.iconst 0, 157, 0, 0, .int 0) := by decide +kernel
theorem x_199_156 : Tr sc d 199 (156, [l0, l1, l2, l3, l4, l5, l6, l7, l8, l9, l10, l11, l12, l13, l14, l15, l16, l17, l18, l19, l20, l21, l22, l23, l24, l25, l26], [.int i2, .int i1, .ref k0], h) Q = Tr sc d 199 (157, [l0, l1, l2, l3, l4, l5, l6, l7, l8, l9, l10, l11, l12, l13, l14, l15, l16, l17, l18, l19, l20, l21, l22, l23, l24, l25, l26], [.int 0, .int i2, .int i1, .ref k0], h) Q := t_go k_199_156 rfl
theorem k_199_157 : lk 199 157 = some (.iload_n 3, 158, 3, 0, .null) := by decide +kernel
theorem x_199_157 : Tr sc d 199 (157, [l0, l1, l2, some (.int x), l4, l5, l6, l7, l8, l9, l10, l11, l12, l13, l14, l15, l16, l17, l18, l19, l20, l21, l22, l23, l24, l25, l26], [.int i3, .int i2, .int i1, .ref k0], h) Q = Tr sc d 199 (158, [l0, l1, l2, some (.int x), l4, l5, l6, l7, l8, l9, l10, l11, l12, l13, l14, l15, l16, l17, l18, l19, l20, l21, l22, l23, l24, l25, l26], [.int x, .int i3, .int i2, .int i1, .ref k0], h) Q := t_iload_n k_199_157 rfl
theorem k_199_158 : lk 199 158 = some (.invokevirtual 260, 161, 196, 4, .null) := by decide +kernel
theorem x_199_158 : Tr sc (d + 1) 199 (158, [l0, l1, l2, l3, l4, l5, l6, l7, l8, l9, l10, l11, l12, l13, l14, l15, l16, l17, l18, l19, l20, l21, l22, l23, l24, l25, l26], [.int i4, .int i3, .int i2, .int i1, .ref k0], h) Q = (okp h k0 10 = true ∧ Tr sc d 196 (ent0 196 [.ref k0, .int i1, .int i2, .int i3, .int i4] h) (fun z => Tr sc (d + 1) 199 (161, [l0, l1, l2, l3, l4, l5, l6, l7, l8, l9, l10, l11, l12, l13, l14, l15, l16, l17, l18, l19, l20, l21, l22, l23, l24, l25, l26], z.1.toList ++ [], z.2) Q)) := t_cv (as := [.int i1, .int i2, .int i3, .int i4]) (r := []) k_199_158 rfl rfl (Nat.le_of_ble_eq_true rfl) (Nat.le_of_ble_eq_true rfl) (Nat.le_of_ble_eq_true rfl)
theorem k_199_161 : lk 199 161 = some (.aload_n 0, 162, 0, 0, .null) := by decide +kernel
theorem x_199_161 : Tr sc d 199 (161, [some (.ref xk), l1, l2, l3, l4, l5, l6, l7, l8, l9, l10, l11, l12, l13, l14, l15, l16, l17, l18, l19, l20, l21, l22, l23, l24, l25, l26], [], h) Q = Tr sc d 199 (162, [some (.ref xk), l1, l2, l3, l4, l5, l6, l7, l8, l9, l10, l11, l12, l13, l14, l15, l16, l17, l18, l19, l20, l21, l22, l23, l24, l25, l26], [.ref xk], h) Q := t_aload_n k_199_161 rfl
theorem k_199_162 : lk 199 162 = some (.getfield 235, 165, 10, 25, .int 0) := by decide +kernel
theorem x_199_162 : Tr sc d 199 (162, [l0, l1, l2, l3, l4, l5, l6, l7, l8, l9, l10, l11, l12, l13, l14, l15, l16, l17, l18, l19, l20, l21, l22, l23, l24, l25, l26], [.ref k0], h) Q = (okp h k0 10 = true ∧ Tr sc d 199 (165, [l0, l1, l2, l3, l4, l5, l6, l7, l8, l9, l10, l11, l12, l13, l14, l15, l16, l17, l18, l19, l20, l21, l22, l23, l24, l25, l26], [.int (hI h k0 25)], h) Q) := t_gd k_199_162 rfl
theorem k_199_165 : lk 199 165 = some (.i2l, 166, 0, 0, .null) := by decide +kernel
theorem x_199_165 : Tr sc d 199 (165, [l0, l1, l2, l3, l4, l5, l6, l7, l8, l9, l10, l11, l12, l13, l14, l15, l16, l17, l18, l19, l20, l21, l22, l23, l24, l25, l26], [.int i0], h) Q = Tr sc d 199 (166, [l0, l1, l2, l3, l4, l5, l6, l7, l8, l9, l10, l11, l12, l13, l14, l15, l16, l17, l18, l19, l20, l21, l22, l23, l24, l25, l26], [.long i0.toInt64], h) Q := t_go k_199_165 rfl
theorem k_199_166 : lk 199 166 = some (.lload 19, 168, 19, 0, .null) := by decide +kernel
theorem x_199_166 : Tr sc d 199 (166, [l0, l1, l2, l3, l4, l5, l6, l7, l8, l9, l10, l11, l12, l13, l14, l15, l16, l17, l18, some (.long xl), l20, l21, l22, l23, l24, l25, l26], [.long j0], h) Q = Tr sc d 199 (168, [l0, l1, l2, l3, l4, l5, l6, l7, l8, l9, l10, l11, l12, l13, l14, l15, l16, l17, l18, some (.long xl), l20, l21, l22, l23, l24, l25, l26], [.long xl, .long j0], h) Q := t_lload k_199_166 rfl
theorem k_199_168 : lk 199 168 = some (.lmul, 169, 0, 0, .null) := by decide +kernel
theorem x_199_168 : Tr sc d 199 (168, [l0, l1, l2, l3, l4, l5, l6, l7, l8, l9, l10, l11, l12, l13, l14, l15, l16, l17, l18, l19, l20, l21, l22, l23, l24, l25, l26], [.long j1, .long j0], h) Q = Tr sc d 199 (169, [l0, l1, l2, l3, l4, l5, l6, l7, l8, l9, l10, l11, l12, l13, l14, l15, l16, l17, l18, l19, l20, l21, l22, l23, l24, l25, l26], [.long (j0 * j1)], h) Q := t_go k_199_168 rfl
theorem k_199_169 : lk 199 169 = some (.aload_n 0, 170, 0, 0, .null) := by decide +kernel
theorem x_199_169 : Tr sc d 199 (169, [some (.ref xk), l1, l2, l3, l4, l5, l6, l7, l8, l9, l10, l11, l12, l13, l14, l15, l16, l17, l18, l19, l20, l21, l22, l23, l24, l25, l26], [.long j0], h) Q = Tr sc d 199 (170, [some (.ref xk), l1, l2, l3, l4, l5, l6, l7, l8, l9, l10, l11, l12, l13, l14, l15, l16, l17, l18, l19, l20, l21, l22, l23, l24, l25, l26], [.ref xk, .long j0], h) Q := t_aload_n k_199_169 rfl
theorem k_199_170 : lk 199 170 = some (.getfield 241, 173, 10, 27, .int 0) := by decide +kernel
theorem x_199_170 : Tr sc d 199 (170, [l0, l1, l2, l3, l4, l5, l6, l7, l8, l9, l10, l11, l12, l13, l14, l15, l16, l17, l18, l19, l20, l21, l22, l23, l24, l25, l26], [.ref k1, .long j0], h) Q = (okp h k1 10 = true ∧ Tr sc d 199 (173, [l0, l1, l2, l3, l4, l5, l6, l7, l8, l9, l10, l11, l12, l13, l14, l15, l16, l17, l18, l19, l20, l21, l22, l23, l24, l25, l26], [.int (hI h k1 27), .long j0], h) Q) := t_gd k_199_170 rfl
theorem k_199_173 : lk 199 173 = some (.i2l, 174, 0, 0, .null) := by decide +kernel
theorem x_199_173 : Tr sc d 199 (173, [l0, l1, l2, l3, l4, l5, l6, l7, l8, l9, l10, l11, l12, l13, l14, l15, l16, l17, l18, l19, l20, l21, l22, l23, l24, l25, l26], [.int i1, .long j0], h) Q = Tr sc d 199 (174, [l0, l1, l2, l3, l4, l5, l6, l7, l8, l9, l10, l11, l12, l13, l14, l15, l16, l17, l18, l19, l20, l21, l22, l23, l24, l25, l26], [.long i1.toInt64, .long j0], h) Q := t_go k_199_173 rfl
theorem k_199_174 : lk 199 174 = some (.lload 21, 176, 21, 0, .null) := by decide +kernel
theorem x_199_174 : Tr sc d 199 (174, [l0, l1, l2, l3, l4, l5, l6, l7, l8, l9, l10, l11, l12, l13, l14, l15, l16, l17, l18, l19, l20, some (.long xl), l22, l23, l24, l25, l26], [.long j1, .long j0], h) Q = Tr sc d 199 (176, [l0, l1, l2, l3, l4, l5, l6, l7, l8, l9, l10, l11, l12, l13, l14, l15, l16, l17, l18, l19, l20, some (.long xl), l22, l23, l24, l25, l26], [.long xl, .long j1, .long j0], h) Q := t_lload k_199_174 rfl
theorem k_199_176 : lk 199 176 = some (.lmul, 177, 0, 0, .null) := by decide +kernel
theorem x_199_176 : Tr sc d 199 (176, [l0, l1, l2, l3, l4, l5, l6, l7, l8, l9, l10, l11, l12, l13, l14, l15, l16, l17, l18, l19, l20, l21, l22, l23, l24, l25, l26], [.long j2, .long j1, .long j0], h) Q = Tr sc d 199 (177, [l0, l1, l2, l3, l4, l5, l6, l7, l8, l9, l10, l11, l12, l13, l14, l15, l16, l17, l18, l19, l20, l21, l22, l23, l24, l25, l26], [.long (j1 * j2), .long j0], h) Q := t_go k_199_176 rfl
theorem k_199_177 : lk 199 177 = some (.ladd, 178, 0, 0, .null) := by decide +kernel
theorem x_199_177 : Tr sc d 199 (177, [l0, l1, l2, l3, l4, l5, l6, l7, l8, l9, l10, l11, l12, l13, l14, l15, l16, l17, l18, l19, l20, l21, l22, l23, l24, l25, l26], [.long j1, .long j0], h) Q = Tr sc d 199 (178, [l0, l1, l2, l3, l4, l5, l6, l7, l8, l9, l10, l11, l12, l13, l14, l15, l16, l17, l18, l19, l20, l21, l22, l23, l24, l25, l26], [.long (j0 + j1)], h) Q := t_go k_199_177 rfl
theorem k_199_178 : lk 199 178 = some (.lload 17, 180, 17, 0, .null) := by decide +kernel
theorem x_199_178 : Tr sc d 199 (178, [l0, l1, l2, l3, l4, l5, l6, l7, l8, l9, l10, l11, l12, l13, l14, l15, l16, some (.long xl), l18, l19, l20, l21, l22, l23, l24, l25, l26], [.long j0], h) Q = Tr sc d 199 (180, [l0, l1, l2, l3, l4, l5, l6, l7, l8, l9, l10, l11, l12, l13, l14, l15, l16, some (.long xl), l18, l19, l20, l21, l22, l23, l24, l25, l26], [.long xl, .long j0], h) Q := t_lload k_199_178 rfl
theorem k_199_180 : lk 199 180 = some (.aload_n 0, 181, 0, 0, .null) := by decide +kernel
theorem x_199_180 : Tr sc d 199 (180, [some (.ref xk), l1, l2, l3, l4, l5, l6, l7, l8, l9, l10, l11, l12, l13, l14, l15, l16, l17, l18, l19, l20, l21, l22, l23, l24, l25, l26], [.long j1, .long j0], h) Q = Tr sc d 199 (181, [some (.ref xk), l1, l2, l3, l4, l5, l6, l7, l8, l9, l10, l11, l12, l13, l14, l15, l16, l17, l18, l19, l20, l21, l22, l23, l24, l25, l26], [.ref xk, .long j1, .long j0], h) Q := t_aload_n k_199_180 rfl
theorem k_199_181 : lk 199 181 = some (.getfield 229, 184, 10, 23, .int 0) := by decide +kernel
theorem x_199_181 : Tr sc d 199 (181, [l0, l1, l2, l3, l4, l5, l6, l7, l8, l9, l10, l11, l12, l13, l14, l15, l16, l17, l18, l19, l20, l21, l22, l23, l24, l25, l26], [.ref k2, .long j1, .long j0], h) Q = (okp h k2 10 = true ∧ Tr sc d 199 (184, [l0, l1, l2, l3, l4, l5, l6, l7, l8, l9, l10, l11, l12, l13, l14, l15, l16, l17, l18, l19, l20, l21, l22, l23, l24, l25, l26], [.int (hI h k2 23), .long j1, .long j0], h) Q) := t_gd k_199_181 rfl
theorem k_199_184 : lk 199 184 = some (.i2l, 185, 0, 0, .null) := by decide +kernel
theorem x_199_184 : Tr sc d 199 (184, [l0, l1, l2, l3, l4, l5, l6, l7, l8, l9, l10, l11, l12, l13, l14, l15, l16, l17, l18, l19, l20, l21, l22, l23, l24, l25, l26], [.int i2, .long j1, .long j0], h) Q = Tr sc d 199 (185, [l0, l1, l2, l3, l4, l5, l6, l7, l8, l9, l10, l11, l12, l13, l14, l15, l16, l17, l18, l19, l20, l21, l22, l23, l24, l25, l26], [.long i2.toInt64, .long j1, .long j0], h) Q := t_go k_199_184 rfl
theorem k_199_185 : lk 199 185 = some (.lmul, 186, 0, 0, .null) := by decide +kernel
theorem x_199_185 : Tr sc d 199 (185, [l0, l1, l2, l3, l4, l5, l6, l7, l8, l9, l10, l11, l12, l13, l14, l15, l16, l17, l18, l19, l20, l21, l22, l23, l24, l25, l26], [.long j2, .long j1, .long j0], h) Q = Tr sc d 199 (186, [l0, l1, l2, l3, l4, l5, l6, l7, l8, l9, l10, l11, l12, l13, l14, l15, l16, l17, l18, l19, l20, l21, l22, l23, l24, l25, l26], [.long (j1 * j2), .long j0], h) Q := t_go k_199_185 rfl
theorem k_199_186 : lk 199 186 = some (.ladd, 187, 0, 0, .null) := by decide +kernel
theorem x_199_186 : Tr sc d 199 (186, [l0, l1, l2, l3, l4, l5, l6, l7, l8, l9, l10, l11, l12, l13, l14, l15, l16, l17, l18, l19, l20, l21, l22, l23, l24, l25, l26], [.long j1, .long j0], h) Q = Tr sc d 199 (187, [l0, l1, l2, l3, l4, l5, l6, l7, l8, l9, l10, l11, l12, l13, l14, l15, l16, l17, l18, l19, l20, l21, l22, l23, l24, l25, l26], [.long (j0 + j1)], h) Q := t_go k_199_186 rfl
theorem k_199_187 : lk 199 187 = some (.lstore 23, 189, 23, 0, .null) := by decide +kernel
theorem x_199_187 : Tr sc d 199 (187, [l0, l1, l2, l3, l4, l5, l6, l7, l8, l9, l10, l11, l12, l13, l14, l15, l16, l17, l18, l19, l20, l21, l22, l23, l24, l25, l26], [.long j0], h) Q = Tr sc d 199 (189, [l0, l1, l2, l3, l4, l5, l6, l7, l8, l9, l10, l11, l12, l13, l14, l15, l16, l17, l18, l19, l20, l21, cl2 l22, some (.long j0), none, l25, l26], [], h) Q := t_lstore k_199_187 (Nat.le_of_ble_eq_true rfl)
theorem k_199_189 : lk 199 189 = some (.aload_n 0, 190, 0, 0, .null) := by decide +kernel
theorem x_199_189 : Tr sc d 199 (189, [some (.ref xk), l1, l2, l3, l4, l5, l6, l7, l8, l9, l10, l11, l12, l13, l14, l15, l16, l17, l18, l19, l20, l21, l22, l23, l24, l25, l26], [], h) Q = Tr sc d 199 (190, [some (.ref xk), l1, l2, l3, l4, l5, l6, l7, l8, l9, l10, l11, l12, l13, l14, l15, l16, l17, l18, l19, l20, l21, l22, l23, l24, l25, l26], [.ref xk], h) Q := t_aload_n k_199_189 rfl
theorem k_199_190 : lk 199 190 = some (.getfield 238, 193, 10, 26, .int 0) := by decide +kernel
theorem x_199_190 : Tr sc d 199 (190, [l0, l1, l2, l3, l4, l5, l6, l7, l8, l9, l10, l11, l12, l13, l14, l15, l16, l17, l18, l19, l20, l21, l22, l23, l24, l25, l26], [.ref k0], h) Q = (okp h k0 10 = true ∧ Tr sc d 199 (193, [l0, l1, l2, l3, l4, l5, l6, l7, l8, l9, l10, l11, l12, l13, l14, l15, l16, l17, l18, l19, l20, l21, l22, l23, l24, l25, l26], [.int (hI h k0 26)], h) Q) := t_gd k_199_190 rfl
theorem k_199_193 : lk 199 193 = some (.i2l, 194, 0, 0, .null) := by decide +kernel
theorem x_199_193 : Tr sc d 199 (193, [l0, l1, l2, l3, l4, l5, l6, l7, l8, l9, l10, l11, l12, l13, l14, l15, l16, l17, l18, l19, l20, l21, l22, l23, l24, l25, l26], [.int i0], h) Q = Tr sc d 199 (194, [l0, l1, l2, l3, l4, l5, l6, l7, l8, l9, l10, l11, l12, l13, l14, l15, l16, l17, l18, l19, l20, l21, l22, l23, l24, l25, l26], [.long i0.toInt64], h) Q := t_go k_199_193 rfl
theorem k_199_194 : lk 199 194 = some (.lload 19, 196, 19, 0, .null) := by decide +kernel
theorem x_199_194 : Tr sc d 199 (194, [l0, l1, l2, l3, l4, l5, l6, l7, l8, l9, l10, l11, l12, l13, l14, l15, l16, l17, l18, some (.long xl), l20, l21, l22, l23, l24, l25, l26], [.long j0], h) Q = Tr sc d 199 (196, [l0, l1, l2, l3, l4, l5, l6, l7, l8, l9, l10, l11, l12, l13, l14, l15, l16, l17, l18, some (.long xl), l20, l21, l22, l23, l24, l25, l26], [.long xl, .long j0], h) Q := t_lload k_199_194 rfl
theorem k_199_196 : lk 199 196 = some (.lmul, 197, 0, 0, .null) := by decide +kernel
theorem x_199_196 : Tr sc d 199 (196, [l0, l1, l2, l3, l4, l5, l6, l7, l8, l9, l10, l11, l12, l13, l14, l15, l16, l17, l18, l19, l20, l21, l22, l23, l24, l25, l26], [.long j1, .long j0], h) Q = Tr sc d 199 (197, [l0, l1, l2, l3, l4, l5, l6, l7, l8, l9, l10, l11, l12, l13, l14, l15, l16, l17, l18, l19, l20, l21, l22, l23, l24, l25, l26], [.long (j0 * j1)], h) Q := t_go k_199_196 rfl
theorem k_199_197 : lk 199 197 = some (.aload_n 0, 198, 0, 0, .null) := by decide +kernel
theorem x_199_197 : Tr sc d 199 (197, [some (.ref xk), l1, l2, l3, l4, l5, l6, l7, l8, l9, l10, l11, l12, l13, l14, l15, l16, l17, l18, l19, l20, l21, l22, l23, l24, l25, l26], [.long j0], h) Q = Tr sc d 199 (198, [some (.ref xk), l1, l2, l3, l4, l5, l6, l7, l8, l9, l10, l11, l12, l13, l14, l15, l16, l17, l18, l19, l20, l21, l22, l23, l24, l25, l26], [.ref xk, .long j0], h) Q := t_aload_n k_199_197 rfl
theorem k_199_198 : lk 199 198 = some (.getfield 244, 201, 10, 28, .int 0) := by decide +kernel
theorem x_199_198 : Tr sc d 199 (198, [l0, l1, l2, l3, l4, l5, l6, l7, l8, l9, l10, l11, l12, l13, l14, l15, l16, l17, l18, l19, l20, l21, l22, l23, l24, l25, l26], [.ref k1, .long j0], h) Q = (okp h k1 10 = true ∧ Tr sc d 199 (201, [l0, l1, l2, l3, l4, l5, l6, l7, l8, l9, l10, l11, l12, l13, l14, l15, l16, l17, l18, l19, l20, l21, l22, l23, l24, l25, l26], [.int (hI h k1 28), .long j0], h) Q) := t_gd k_199_198 rfl
theorem k_199_201 : lk 199 201 = some (.i2l, 202, 0, 0, .null) := by decide +kernel
theorem x_199_201 : Tr sc d 199 (201, [l0, l1, l2, l3, l4, l5, l6, l7, l8, l9, l10, l11, l12, l13, l14, l15, l16, l17, l18, l19, l20, l21, l22, l23, l24, l25, l26], [.int i1, .long j0], h) Q = Tr sc d 199 (202, [l0, l1, l2, l3, l4, l5, l6, l7, l8, l9, l10, l11, l12, l13, l14, l15, l16, l17, l18, l19, l20, l21, l22, l23, l24, l25, l26], [.long i1.toInt64, .long j0], h) Q := t_go k_199_201 rfl
theorem k_199_202 : lk 199 202 = some (.lload 21, 204, 21, 0, .null) := by decide +kernel
theorem x_199_202 : Tr sc d 199 (202, [l0, l1, l2, l3, l4, l5, l6, l7, l8, l9, l10, l11, l12, l13, l14, l15, l16, l17, l18, l19, l20, some (.long xl), l22, l23, l24, l25, l26], [.long j1, .long j0], h) Q = Tr sc d 199 (204, [l0, l1, l2, l3, l4, l5, l6, l7, l8, l9, l10, l11, l12, l13, l14, l15, l16, l17, l18, l19, l20, some (.long xl), l22, l23, l24, l25, l26], [.long xl, .long j1, .long j0], h) Q := t_lload k_199_202 rfl
theorem k_199_204 : lk 199 204 = some (.lmul, 205, 0, 0, .null) := by decide +kernel
theorem x_199_204 : Tr sc d 199 (204, [l0, l1, l2, l3, l4, l5, l6, l7, l8, l9, l10, l11, l12, l13, l14, l15, l16, l17, l18, l19, l20, l21, l22, l23, l24, l25, l26], [.long j2, .long j1, .long j0], h) Q = Tr sc d 199 (205, [l0, l1, l2, l3, l4, l5, l6, l7, l8, l9, l10, l11, l12, l13, l14, l15, l16, l17, l18, l19, l20, l21, l22, l23, l24, l25, l26], [.long (j1 * j2), .long j0], h) Q := t_go k_199_204 rfl
theorem k_199_205 : lk 199 205 = some (.ladd, 206, 0, 0, .null) := by decide +kernel
theorem x_199_205 : Tr sc d 199 (205, [l0, l1, l2, l3, l4, l5, l6, l7, l8, l9, l10, l11, l12, l13, l14, l15, l16, l17, l18, l19, l20, l21, l22, l23, l24, l25, l26], [.long j1, .long j0], h) Q = Tr sc d 199 (206, [l0, l1, l2, l3, l4, l5, l6, l7, l8, l9, l10, l11, l12, l13, l14, l15, l16, l17, l18, l19, l20, l21, l22, l23, l24, l25, l26], [.long (j0 + j1)], h) Q := t_go k_199_205 rfl
theorem k_199_206 : lk 199 206 = some (.lload 17, 208, 17, 0, .null) := by decide +kernel
theorem x_199_206 : Tr sc d 199 (206, [l0, l1, l2, l3, l4, l5, l6, l7, l8, l9, l10, l11, l12, l13, l14, l15, l16, some (.long xl), l18, l19, l20, l21, l22, l23, l24, l25, l26], [.long j0], h) Q = Tr sc d 199 (208, [l0, l1, l2, l3, l4, l5, l6, l7, l8, l9, l10, l11, l12, l13, l14, l15, l16, some (.long xl), l18, l19, l20, l21, l22, l23, l24, l25, l26], [.long xl, .long j0], h) Q := t_lload k_199_206 rfl
theorem k_199_208 : lk 199 208 = some (.aload_n 0, 209, 0, 0, .null) := by decide +kernel
theorem x_199_208 : Tr sc d 199 (208, [some (.ref xk), l1, l2, l3, l4, l5, l6, l7, l8, l9, l10, l11, l12, l13, l14, l15, l16, l17, l18, l19, l20, l21, l22, l23, l24, l25, l26], [.long j1, .long j0], h) Q = Tr sc d 199 (209, [some (.ref xk), l1, l2, l3, l4, l5, l6, l7, l8, l9, l10, l11, l12, l13, l14, l15, l16, l17, l18, l19, l20, l21, l22, l23, l24, l25, l26], [.ref xk, .long j1, .long j0], h) Q := t_aload_n k_199_208 rfl
theorem k_199_209 : lk 199 209 = some (.getfield 232, 212, 10, 24, .int 0) := by decide +kernel
theorem x_199_209 : Tr sc d 199 (209, [l0, l1, l2, l3, l4, l5, l6, l7, l8, l9, l10, l11, l12, l13, l14, l15, l16, l17, l18, l19, l20, l21, l22, l23, l24, l25, l26], [.ref k2, .long j1, .long j0], h) Q = (okp h k2 10 = true ∧ Tr sc d 199 (212, [l0, l1, l2, l3, l4, l5, l6, l7, l8, l9, l10, l11, l12, l13, l14, l15, l16, l17, l18, l19, l20, l21, l22, l23, l24, l25, l26], [.int (hI h k2 24), .long j1, .long j0], h) Q) := t_gd k_199_209 rfl
theorem k_199_212 : lk 199 212 = some (.i2l, 213, 0, 0, .null) := by decide +kernel
theorem x_199_212 : Tr sc d 199 (212, [l0, l1, l2, l3, l4, l5, l6, l7, l8, l9, l10, l11, l12, l13, l14, l15, l16, l17, l18, l19, l20, l21, l22, l23, l24, l25, l26], [.int i2, .long j1, .long j0], h) Q = Tr sc d 199 (213, [l0, l1, l2, l3, l4, l5, l6, l7, l8, l9, l10, l11, l12, l13, l14, l15, l16, l17, l18, l19, l20, l21, l22, l23, l24, l25, l26], [.long i2.toInt64, .long j1, .long j0], h) Q := t_go k_199_212 rfl
theorem k_199_213 : lk 199 213 = some (.lmul, 214, 0, 0, .null) := by decide +kernel
theorem x_199_213 : Tr sc d 199 (213, [l0, l1, l2, l3, l4, l5, l6, l7, l8, l9, l10, l11, l12, l13, l14, l15, l16, l17, l18, l19, l20, l21, l22, l23, l24, l25, l26], [.long j2, .long j1, .long j0], h) Q = Tr sc d 199 (214, [l0, l1, l2, l3, l4, l5, l6, l7, l8, l9, l10, l11, l12, l13, l14, l15, l16, l17, l18, l19, l20, l21, l22, l23, l24, l25, l26], [.long (j1 * j2), .long j0], h) Q := t_go k_199_213 rfl
theorem k_199_214 : lk 199 214 = some (.ladd, 215, 0, 0, .null) := by decide +kernel
theorem x_199_214 : Tr sc d 199 (214, [l0, l1, l2, l3, l4, l5, l6, l7, l8, l9, l10, l11, l12, l13, l14, l15, l16, l17, l18, l19, l20, l21, l22, l23, l24, l25, l26], [.long j1, .long j0], h) Q = Tr sc d 199 (215, [l0, l1, l2, l3, l4, l5, l6, l7, l8, l9, l10, l11, l12, l13, l14, l15, l16, l17, l18, l19, l20, l21, l22, l23, l24, l25, l26], [.long (j0 + j1)], h) Q := t_go k_199_214 rfl
theorem k_199_215 : lk 199 215 = some (.lstore 25, 217, 25, 0, .null) := by decide +kernel
theorem x_199_215 : Tr sc d 199 (215, [l0, l1, l2, l3, l4, l5, l6, l7, l8, l9, l10, l11, l12, l13, l14, l15, l16, l17, l18, l19, l20, l21, l22, l23, l24, l25, l26], [.long j0], h) Q = Tr sc d 199 (217, [l0, l1, l2, l3, l4, l5, l6, l7, l8, l9, l10, l11, l12, l13, l14, l15, l16, l17, l18, l19, l20, l21, l22, l23, cl2 l24, some (.long j0), none], [], h) Q := t_lstore k_199_215 (Nat.le_of_ble_eq_true rfl)
theorem k_199_217 : lk 199 217 = some (.aload_n 0, 218, 0, 0, .null) := by decide +kernel
theorem x_199_217 : Tr sc d 199 (217, [some (.ref xk), l1, l2, l3, l4, l5, l6, l7, l8, l9, l10, l11, l12, l13, l14, l15, l16, l17, l18, l19, l20, l21, l22, l23, l24, l25, l26], [], h) Q = Tr sc d 199 (218, [some (.ref xk), l1, l2, l3, l4, l5, l6, l7, l8, l9, l10, l11, l12, l13, l14, l15, l16, l17, l18, l19, l20, l21, l22, l23, l24, l25, l26], [.ref xk], h) Q := t_aload_n k_199_217 rfl
theorem k_199_218 : lk 199 218 = some (.iload 5, 220, 5, 0, .null) := by decide +kernel
theorem x_199_218 : Tr sc d 199 (218, [l0, l1, l2, l3, l4, some (.int x), l6, l7, l8, l9, l10, l11, l12, l13, l14, l15, l16, l17, l18, l19, l20, l21, l22, l23, l24, l25, l26], [.ref k0], h) Q = Tr sc d 199 (220, [l0, l1, l2, l3, l4, some (.int x), l6, l7, l8, l9, l10, l11, l12, l13, l14, l15, l16, l17, l18, l19, l20, l21, l22, l23, l24, l25, l26], [.int x, .ref k0], h) Q := t_iload k_199_218 rfl
theorem k_199_220 : lk 199 220 = some (.ifCond .eq 8, 223, 228, 0, .null) := by decide +kernel
theorem x_199_220 : Tr sc d 199 (220, [l0, l1, l2, l3, l4, l5, l6, l7, l8, l9, l10, l11, l12, l13, l14, l15, l16, l17, l18, l19, l20, l21, l22, l23, l24, l25, l26], [.int i1, .ref k0], h) Q = if i1 = 0 then Tr sc d 199 (228, [l0, l1, l2, l3, l4, l5, l6, l7, l8, l9, l10, l11, l12, l13, l14, l15, l16, l17, l18, l19, l20, l21, l22, l23, l24, l25, l26], [.ref k0], h) Q else Tr sc d 199 (223, [l0, l1, l2, l3, l4, l5, l6, l7, l8, l9, l10, l11, l12, l13, l14, l15, l16, l17, l18, l19, l20, l21, l22, l23, l24, l25, l26], [.ref k0], h) Q := t_if k_199_220 rfl
theorem k_199_223 : lk 199 223 = some (.lload 25, 225, 25, 0, .null) := by decide +kernel
theorem x_199_223 : Tr sc d 199 (223, [l0, l1, l2, l3, l4, l5, l6, l7, l8, l9, l10, l11, l12, l13, l14, l15, l16, l17, l18, l19, l20, l21, l22, l23, l24, some (.long xl), l26], [.ref k0], h) Q = Tr sc d 199 (225, [l0, l1, l2, l3, l4, l5, l6, l7, l8, l9, l10, l11, l12, l13, l14, l15, l16, l17, l18, l19, l20, l21, l22, l23, l24, some (.long xl), l26], [.long xl, .ref k0], h) Q := t_lload k_199_223 rfl
theorem k_199_225 : lk 199 225 = some (.goto 5, 228, 230, 0, .null) := by decide +kernel
theorem x_199_225 : Tr sc d 199 (225, [l0, l1, l2, l3, l4, l5, l6, l7, l8, l9, l10, l11, l12, l13, l14, l15, l16, l17, l18, l19, l20, l21, l22, l23, l24, l25, l26], [.long j1, .ref k0], h) Q = Tr sc d 199 (230, [l0, l1, l2, l3, l4, l5, l6, l7, l8, l9, l10, l11, l12, l13, l14, l15, l16, l17, l18, l19, l20, l21, l22, l23, l24, l25, l26], [.long j1, .ref k0], h) Q := t_go k_199_225 rfl
theorem k_199_228 : lk 199 228 = some (.lload 23, 230, 23, 0, .null) := by decide +kernel
theorem x_199_228 : Tr sc d 199 (228, [l0, l1, l2, l3, l4, l5, l6, l7, l8, l9, l10, l11, l12, l13, l14, l15, l16, l17, l18, l19, l20, l21, l22, some (.long xl), l24, l25, l26], [.ref k0], h) Q = Tr sc d 199 (230, [l0, l1, l2, l3, l4, l5, l6, l7, l8, l9, l10, l11, l12, l13, l14, l15, l16, l17, l18, l19, l20, l21, l22, some (.long xl), l24, l25, l26], [.long xl, .ref k0], h) Q := t_lload k_199_228 rfl
theorem k_199_230 : lk 199 230 = some (.lload 17, 232, 17, 0, .null) := by decide +kernel
theorem x_199_230 : Tr sc d 199 (230, [l0, l1, l2, l3, l4, l5, l6, l7, l8, l9, l10, l11, l12, l13, l14, l15, l16, some (.long xl), l18, l19, l20, l21, l22, l23, l24, l25, l26], [.long j1, .ref k0], h) Q = Tr sc d 199 (232, [l0, l1, l2, l3, l4, l5, l6, l7, l8, l9, l10, l11, l12, l13, l14, l15, l16, some (.long xl), l18, l19, l20, l21, l22, l23, l24, l25, l26], [.long xl, .long j1, .ref k0], h) Q := t_lload k_199_230 rfl
theorem k_199_232 : lk 199 232 = some (.aload_n 0, 233, 0, 0, .null) := by decide +kernel
theorem x_199_232 : Tr sc d 199 (232, [some (.ref xk), l1, l2, l3, l4, l5, l6, l7, l8, l9, l10, l11, l12, l13, l14, l15, l16, l17, l18, l19, l20, l21, l22, l23, l24, l25, l26], [.long j2, .long j1, .ref k0], h) Q = Tr sc d 199 (233, [some (.ref xk), l1, l2, l3, l4, l5, l6, l7, l8, l9, l10, l11, l12, l13, l14, l15, l16, l17, l18, l19, l20, l21, l22, l23, l24, l25, l26], [.ref xk, .long j2, .long j1, .ref k0], h) Q := t_aload_n k_199_232 rfl
theorem k_199_233 : lk 199 233 = some (.getfield 38, 236, 10, 17, .null) := by decide +kernel
theorem x_199_233 : Tr sc d 199 (233, [l0, l1, l2, l3, l4, l5, l6, l7, l8, l9, l10, l11, l12, l13, l14, l15, l16, l17, l18, l19, l20, l21, l22, l23, l24, l25, l26], [.ref k3, .long j2, .long j1, .ref k0], h) Q = (okp h k3 10 = true ∧ ∃ q, hR h k3 17 = some q ∧ Tr sc d 199 (236, [l0, l1, l2, l3, l4, l5, l6, l7, l8, l9, l10, l11, l12, l13, l14, l15, l16, l17, l18, l19, l20, l21, l22, l23, l24, l25, l26], [.ref q, .long j2, .long j1, .ref k0], h) Q) := t_getr k_199_233
theorem k_199_236 : lk 199 236 = some (.iload_n 1, 237, 1, 0, .null) := by decide +kernel
theorem x_199_236 : Tr sc d 199 (236, [l0, some (.int x), l2, l3, l4, l5, l6, l7, l8, l9, l10, l11, l12, l13, l14, l15, l16, l17, l18, l19, l20, l21, l22, l23, l24, l25, l26], [.ref k3, .long j2, .long j1, .ref k0], h) Q = Tr sc d 199 (237, [l0, some (.int x), l2, l3, l4, l5, l6, l7, l8, l9, l10, l11, l12, l13, l14, l15, l16, l17, l18, l19, l20, l21, l22, l23, l24, l25, l26], [.int x, .ref k3, .long j2, .long j1, .ref k0], h) Q := t_iload_n k_199_236 rfl
theorem k_199_237 : lk 199 237 = some (.iaload, 238, 0, 0, .null) := by decide +kernel
theorem x_199_237 : Tr sc d 199 (237, [l0, l1, l2, l3, l4, l5, l6, l7, l8, l9, l10, l11, l12, l13, l14, l15, l16, l17, l18, l19, l20, l21, l22, l23, l24, l25, l26], [.int i4, .ref k3, .long j2, .long j1, .ref k0], h) Q = (iOk sc h k3 i4 ∧ Tr sc d 199 (238, [l0, l1, l2, l3, l4, l5, l6, l7, l8, l9, l10, l11, l12, l13, l14, l15, l16, l17, l18, l19, l20, l21, l22, l23, l24, l25, l26], [.int (iRd sc h k3 i4), .long j2, .long j1, .ref k0], h) Q) := t_iald k_199_237
theorem k_199_238 : lk 199 238 = some (.iload_n 3, 239, 3, 0, .null) := by decide +kernel
theorem x_199_238 : Tr sc d 199 (238, [l0, l1, l2, some (.int x), l4, l5, l6, l7, l8, l9, l10, l11, l12, l13, l14, l15, l16, l17, l18, l19, l20, l21, l22, l23, l24, l25, l26], [.int i3, .long j2, .long j1, .ref k0], h) Q = Tr sc d 199 (239, [l0, l1, l2, some (.int x), l4, l5, l6, l7, l8, l9, l10, l11, l12, l13, l14, l15, l16, l17, l18, l19, l20, l21, l22, l23, l24, l25, l26], [.int x, .int i3, .long j2, .long j1, .ref k0], h) Q := t_iload_n k_199_238 rfl
theorem k_199_239 : lk 199 239 = some (.invokestatic 247, 242, 195, 2, .null) := by decide +kernel
theorem x_199_239 : Tr sc (d + 1) 199 (239, [l0, l1, l2, l3, l4, l5, l6, l7, l8, l9, l10, l11, l12, l13, l14, l15, l16, l17, l18, l19, l20, l21, l22, l23, l24, l25, l26], [.int i4, .int i3, .long j2, .long j1, .ref k0], h) Q = Tr sc d 195 (ent0 195 [.int i3, .int i4] h) (fun z => Tr sc (d + 1) 199 (242, [l0, l1, l2, l3, l4, l5, l6, l7, l8, l9, l10, l11, l12, l13, l14, l15, l16, l17, l18, l19, l20, l21, l22, l23, l24, l25, l26], z.1.toList ++ [.long j2, .long j1, .ref k0], z.2) Q) := t_cs (as := [.int i3, .int i4]) (r := [.long j2, .long j1, .ref k0]) k_199_239 (by decide) rfl rfl (Nat.le_of_ble_eq_true rfl) (Nat.le_of_ble_eq_true rfl)
theorem k_199_242 : lk 199 242 = some (.i2l, 243, 0, 0, .null) := by decide +kernel
theorem x_199_242 : Tr sc d 199 (242, [l0, l1, l2, l3, l4, l5, l6, l7, l8, l9, l10, l11, l12, l13, l14, l15, l16, l17, l18, l19, l20, l21, l22, l23, l24, l25, l26], [.int i3, .long j2, .long j1, .ref k0], h) Q = Tr sc d 199 (243, [l0, l1, l2, l3, l4, l5, l6, l7, l8, l9, l10, l11, l12, l13, l14, l15, l16, l17, l18, l19, l20, l21, l22, l23, l24, l25, l26], [.long i3.toInt64, .long j2, .long j1, .ref k0], h) Q := t_go k_199_242 rfl
theorem k_199_243 : lk 199 243 = some (.lmul, 244, 0, 0, .null) := by decide +kernel
theorem x_199_243 : Tr sc d 199 (243, [l0, l1, l2, l3, l4, l5, l6, l7, l8, l9, l10, l11, l12, l13, l14, l15, l16, l17, l18, l19, l20, l21, l22, l23, l24, l25, l26], [.long j3, .long j2, .long j1, .ref k0], h) Q = Tr sc d 199 (244, [l0, l1, l2, l3, l4, l5, l6, l7, l8, l9, l10, l11, l12, l13, l14, l15, l16, l17, l18, l19, l20, l21, l22, l23, l24, l25, l26], [.long (j2 * j3), .long j1, .ref k0], h) Q := t_go k_199_243 rfl
theorem k_199_244 : lk 199 244 = some (.invokevirtual 263, 247, 159, 2, .null) := by decide +kernel
theorem x_199_244 : Tr sc (d + 1) 199 (244, [l0, l1, l2, l3, l4, l5, l6, l7, l8, l9, l10, l11, l12, l13, l14, l15, l16, l17, l18, l19, l20, l21, l22, l23, l24, l25, l26], [.long j2, .long j1, .ref k0], h) Q = (okp h k0 10 = true ∧ Tr sc d 159 (ent0 159 [.ref k0, .long j1, .long j2] h) (fun z => Tr sc (d + 1) 199 (247, [l0, l1, l2, l3, l4, l5, l6, l7, l8, l9, l10, l11, l12, l13, l14, l15, l16, l17, l18, l19, l20, l21, l22, l23, l24, l25, l26], z.1.toList ++ [], z.2) Q)) := t_cv (as := [.long j1, .long j2]) (r := []) k_199_244 rfl rfl (Nat.le_of_ble_eq_true rfl) (Nat.le_of_ble_eq_true rfl) (Nat.le_of_ble_eq_true rfl)
theorem k_199_247 : lk 199 247 = some (.ireturn, 248, 0, 0, .null) := by decide +kernel
theorem x_199_247 : Tr sc d 199 (247, [l0, l1, l2, l3, l4, l5, l6, l7, l8, l9, l10, l11, l12, l13, l14, l15, l16, l17, l18, l19, l20, l21, l22, l23, l24, l25, l26], [.int i0], h) Q = Q (some (.int i0), h) := t_ret k_199_247 (by rw [r_199]; rfl)
theorem e_199 : Tr sc d 199 (ent0 199 [.ref k0, .int i1, .int i2, .int i3, .int i4, .int i5] h) Q = Tr sc d 199 (0, [some (.ref k0), some (.int i1), some (.int i2), some (.int i3), some (.int i4), some (.int i5), none, none, none, none, none, none, none, none, none, none, none, none, none, none, none, none, none, none, none, none, none], [], h) Q := by
  have e : mL 199 = 27 := by decide +kernel
  unfold ent0
  rw [e]
  rfl
theorem r_200 : mR 200 = some .int := by decide +kernel
theorem k_200_0 : lk 200 0 = some (.iload_n 2, 1, 2, 0, .null) := by decide +kernel
theorem x_200_0 : Tr sc d 200 (0, [l0, l1, some (.int x), l3, l4, l5, l6], [], h) Q = Tr sc d 200 (1, [l0, l1, some (.int x), l3, l4, l5, l6], [.int x], h) Q := t_iload_n k_200_0 rfl
theorem k_200_1 : lk 200 1 = some (.iconst 0, 2, 0, 0, .int 0) := by decide +kernel
theorem x_200_1 : Tr sc d 200 (1, [l0, l1, l2, l3, l4, l5, l6], [.int i0], h) Q = Tr sc d 200 (2, [l0, l1, l2, l3, l4, l5, l6], [.int 0, .int i0], h) Q := t_go k_200_1 rfl
theorem k_200_2 : lk 200 2 = some (.bipush 6, 4, 0, 0, .int 6) := by decide +kernel
theorem x_200_2 : Tr sc d 200 (2, [l0, l1, l2, l3, l4, l5, l6], [.int i1, .int i0], h) Q = Tr sc d 200 (4, [l0, l1, l2, l3, l4, l5, l6], [.int 6, .int i1, .int i0], h) Q := t_go k_200_2 rfl
theorem k_200_4 : lk 200 4 = some (.invokestatic 144, 7, 156, 3, .null) := by decide +kernel
theorem x_200_4 : Tr sc (d + 1) 200 (4, [l0, l1, l2, l3, l4, l5, l6], [.int i2, .int i1, .int i0], h) Q = Tr sc d 156 (ent0 156 [.int i0, .int i1, .int i2] h) (fun z => Tr sc (d + 1) 200 (7, [l0, l1, l2, l3, l4, l5, l6], z.1.toList ++ [], z.2) Q) := t_cs (as := [.int i0, .int i1, .int i2]) (r := []) k_200_4 (by decide) rfl rfl (Nat.le_of_ble_eq_true rfl) (Nat.le_of_ble_eq_true rfl)
theorem k_200_7 : lk 200 7 = some (.ifCond .ne 5, 10, 12, 0, .null) := by decide +kernel
theorem x_200_7 : Tr sc d 200 (7, [l0, l1, l2, l3, l4, l5, l6], [.int i0], h) Q = if i0 = 0 then Tr sc d 200 (10, [l0, l1, l2, l3, l4, l5, l6], [], h) Q else Tr sc d 200 (12, [l0, l1, l2, l3, l4, l5, l6], [], h) Q := t_if k_200_7 rfl
theorem k_200_10 : lk 200 10 = some (.iconst (-1), 11, 0, 0, .int (-1)) := by decide +kernel
theorem x_200_10 : Tr sc d 200 (10, [l0, l1, l2, l3, l4, l5, l6], [], h) Q = Tr sc d 200 (11, [l0, l1, l2, l3, l4, l5, l6], [.int (-1)], h) Q := t_go k_200_10 rfl
theorem k_200_11 : lk 200 11 = some (.ireturn, 12, 0, 0, .null) := by decide +kernel
theorem x_200_11 : Tr sc d 200 (11, [l0, l1, l2, l3, l4, l5, l6], [.int i0], h) Q = Q (some (.int i0), h) := t_ret k_200_11 (by rw [r_200]; rfl)
theorem k_200_12 : lk 200 12 = some (.aload_n 0, 13, 0, 0, .null) := by decide +kernel
theorem x_200_12 : Tr sc d 200 (12, [some (.ref xk), l1, l2, l3, l4, l5, l6], [], h) Q = Tr sc d 200 (13, [some (.ref xk), l1, l2, l3, l4, l5, l6], [.ref xk], h) Q := t_aload_n k_200_12 rfl
theorem k_200_13 : lk 200 13 = some (.iload_n 1, 14, 1, 0, .null) := by decide +kernel
theorem x_200_13 : Tr sc d 200 (13, [l0, some (.int x), l2, l3, l4, l5, l6], [.ref k0], h) Q = Tr sc d 200 (14, [l0, some (.int x), l2, l3, l4, l5, l6], [.int x, .ref k0], h) Q := t_iload_n k_200_13 rfl
theorem k_200_14 : lk 200 14 = some (.invokevirtual 220, 17, 176, 1, .null) := by decide +kernel
theorem x_200_14 : Tr sc (d + 1) 200 (14, [l0, l1, l2, l3, l4, l5, l6], [.int i1, .ref k0], h) Q = (okp h k0 10 = true ∧ Tr sc d 176 (ent0 176 [.ref k0, .int i1] h) (fun z => Tr sc (d + 1) 200 (17, [l0, l1, l2, l3, l4, l5, l6], z.1.toList ++ [], z.2) Q)) := t_cv (as := [.int i1]) (r := []) k_200_14 rfl rfl (Nat.le_of_ble_eq_true rfl) (Nat.le_of_ble_eq_true rfl) (Nat.le_of_ble_eq_true rfl)
theorem k_200_17 : lk 200 17 = some (.istore_n 3, 18, 3, 0, .null) := by decide +kernel
theorem x_200_17 : Tr sc d 200 (17, [l0, l1, l2, l3, l4, l5, l6], [.int i0], h) Q = Tr sc d 200 (18, [l0, l1, cl2 l2, some (.int i0), l4, l5, l6], [], h) Q := t_istore_n k_200_17 (Nat.le_of_ble_eq_true rfl)
theorem k_200_18 : lk 200 18 = some (.iload_n 3, 19, 3, 0, .null) := by decide +kernel
theorem x_200_18 : Tr sc d 200 (18, [l0, l1, l2, some (.int x), l4, l5, l6], [], h) Q = Tr sc d 200 (19, [l0, l1, l2, some (.int x), l4, l5, l6], [.int x], h) Q := t_iload_n k_200_18 rfl
theorem k_200_19 : lk 200 19 = some (.ifCond .ge 5, 22, 24, 0, .null) := by decide +kernel
theorem x_200_19 : Tr sc d 200 (19, [l0, l1, l2, l3, l4, l5, l6], [.int i0], h) Q = if 0 ≤ i0 then Tr sc d 200 (24, [l0, l1, l2, l3, l4, l5, l6], [], h) Q else Tr sc d 200 (22, [l0, l1, l2, l3, l4, l5, l6], [], h) Q := t_if k_200_19 rfl
theorem k_200_22 : lk 200 22 = some (.iload_n 3, 23, 3, 0, .null) := by decide +kernel
theorem x_200_22 : Tr sc d 200 (22, [l0, l1, l2, some (.int x), l4, l5, l6], [], h) Q = Tr sc d 200 (23, [l0, l1, l2, some (.int x), l4, l5, l6], [.int x], h) Q := t_iload_n k_200_22 rfl
theorem k_200_23 : lk 200 23 = some (.ireturn, 24, 0, 0, .null) := by decide +kernel
theorem x_200_23 : Tr sc d 200 (23, [l0, l1, l2, l3, l4, l5, l6], [.int i0], h) Q = Q (some (.int i0), h) := t_ret k_200_23 (by rw [r_200]; rfl)
theorem k_200_24 : lk 200 24 = some (.aload_n 0, 25, 0, 0, .null) := by decide +kernel
theorem x_200_24 : Tr sc d 200 (24, [some (.ref xk), l1, l2, l3, l4, l5, l6], [], h) Q = Tr sc d 200 (25, [some (.ref xk), l1, l2, l3, l4, l5, l6], [.ref xk], h) Q := t_aload_n k_200_24 rfl
theorem k_200_25 : lk 200 25 = some (.lconst 1, 26, 0, 0, .long 1) := by decide +kernel
theorem x_200_25 : Tr sc d 200 (25, [l0, l1, l2, l3, l4, l5, l6], [.ref k0], h) Q = Tr sc d 200 (26, [l0, l1, l2, l3, l4, l5, l6], [.long 1, .ref k0], h) Q := t_go k_200_25 rfl
theorem k_200_26 : lk 200 26 = some (.putfield 267, 29, 10, 3, .long 0) := by decide +kernel
theorem x_200_26 : Tr sc d 200 (26, [l0, l1, l2, l3, l4, l5, l6], [.long j1, .ref k0], h) Q = (okp h k0 10 = true ∧ Tr sc d 200 (29, [l0, l1, l2, l3, l4, l5, l6], [], (sL h k0 3 j1)) Q) := t_gd k_200_26 rfl
theorem k_200_29 : lk 200 29 = some (.iconst 0, 30, 0, 0, .int 0) := by decide +kernel
theorem x_200_29 : Tr sc d 200 (29, [l0, l1, l2, l3, l4, l5, l6], [], h) Q = Tr sc d 200 (30, [l0, l1, l2, l3, l4, l5, l6], [.int 0], h) Q := t_go k_200_29 rfl
theorem k_200_30 : lk 200 30 = some (.istore 4, 32, 4, 0, .null) := by decide +kernel
theorem x_200_30 : Tr sc d 200 (30, [l0, l1, l2, l3, l4, l5, l6], [.int i0], h) Q = Tr sc d 200 (32, [l0, l1, l2, cl2 l3, some (.int i0), l5, l6], [], h) Q := t_istore k_200_30 (Nat.le_of_ble_eq_true rfl)
theorem k_200_32 : lk 200 32 = some (.iload 4, 34, 4, 0, .null) := by decide +kernel
theorem x_200_32 : Tr sc d 200 (32, [l0, l1, l2, l3, some (.int x), l5, l6], [], h) Q = Tr sc d 200 (34, [l0, l1, l2, l3, some (.int x), l5, l6], [.int x], h) Q := t_iload k_200_32 rfl
theorem k_200_34 : lk 200 34 = some (.aload_n 0, 35, 0, 0, .null) := by decide +kernel
theorem x_200_34 : Tr sc d 200 (34, [some (.ref xk), l1, l2, l3, l4, l5, l6], [.int i0], h) Q = Tr sc d 200 (35, [some (.ref xk), l1, l2, l3, l4, l5, l6], [.ref xk, .int i0], h) Q := t_aload_n k_200_34 rfl
theorem k_200_35 : lk 200 35 = some (.getfield 41, 38, 10, 18, .null) := by decide +kernel
theorem x_200_35 : Tr sc d 200 (35, [l0, l1, l2, l3, l4, l5, l6], [.ref k1, .int i0], h) Q = (okp h k1 10 = true ∧ ∃ q, hR h k1 18 = some q ∧ Tr sc d 200 (38, [l0, l1, l2, l3, l4, l5, l6], [.ref q, .int i0], h) Q) := t_getr k_200_35
theorem k_200_38 : lk 200 38 = some (.iload_n 1, 39, 1, 0, .null) := by decide +kernel
theorem x_200_38 : Tr sc d 200 (38, [l0, some (.int x), l2, l3, l4, l5, l6], [.ref k1, .int i0], h) Q = Tr sc d 200 (39, [l0, some (.int x), l2, l3, l4, l5, l6], [.int x, .ref k1, .int i0], h) Q := t_iload_n k_200_38 rfl
theorem k_200_39 : lk 200 39 = some (.iaload, 40, 0, 0, .null) := by decide +kernel
theorem x_200_39 : Tr sc d 200 (39, [l0, l1, l2, l3, l4, l5, l6], [.int i2, .ref k1, .int i0], h) Q = (iOk sc h k1 i2 ∧ Tr sc d 200 (40, [l0, l1, l2, l3, l4, l5, l6], [.int (iRd sc h k1 i2), .int i0], h) Q) := t_iald k_200_39
theorem k_200_40 : lk 200 40 = some (.if_icmp .ge 17, 43, 57, 0, .null) := by decide +kernel
theorem x_200_40 : Tr sc d 200 (40, [l0, l1, l2, l3, l4, l5, l6], [.int i1, .int i0], h) Q = if i1 ≤ i0 then Tr sc d 200 (57, [l0, l1, l2, l3, l4, l5, l6], [], h) Q else Tr sc d 200 (43, [l0, l1, l2, l3, l4, l5, l6], [], h) Q := t_if k_200_40 rfl
theorem k_200_43 : lk 200 43 = some (.aload_n 0, 44, 0, 0, .null) := by decide +kernel
theorem x_200_43 : Tr sc d 200 (43, [some (.ref xk), l1, l2, l3, l4, l5, l6], [], h) Q = Tr sc d 200 (44, [some (.ref xk), l1, l2, l3, l4, l5, l6], [.ref xk], h) Q := t_aload_n k_200_43 rfl
theorem k_200_44 : lk 200 44 = some (.getfield 56, 47, 10, 29, .null) := by decide +kernel
theorem x_200_44 : Tr sc d 200 (44, [l0, l1, l2, l3, l4, l5, l6], [.ref k0], h) Q = (okp h k0 10 = true ∧ ∃ q, hR h k0 29 = some q ∧ Tr sc d 200 (47, [l0, l1, l2, l3, l4, l5, l6], [.ref q], h) Q) := t_getr k_200_44
theorem k_200_47 : lk 200 47 = some (.iload 4, 49, 4, 0, .null) := by decide +kernel
theorem x_200_47 : Tr sc d 200 (47, [l0, l1, l2, l3, some (.int x), l5, l6], [.ref k0], h) Q = Tr sc d 200 (49, [l0, l1, l2, l3, some (.int x), l5, l6], [.int x, .ref k0], h) Q := t_iload k_200_47 rfl
theorem k_200_49 : lk 200 49 = some (.lconst 1, 50, 0, 0, .long 1) := by decide +kernel
theorem x_200_49 : Tr sc d 200 (49, [l0, l1, l2, l3, l4, l5, l6], [.int i1, .ref k0], h) Q = Tr sc d 200 (50, [l0, l1, l2, l3, l4, l5, l6], [.long 1, .int i1, .ref k0], h) Q := t_go k_200_49 rfl
theorem k_200_50 : lk 200 50 = some (.lastore, 51, 0, 0, .null) := by decide +kernel
theorem x_200_50 : Tr sc d 200 (50, [l0, l1, l2, l3, l4, l5, l6], [.long j2, .int i1, .ref k0], h) Q = ((okp h k0 12 && inb i1 (LN k0)) = true ∧ Tr sc d 200 (51, [l0, l1, l2, l3, l4, l5, l6], [], (sL h k0 i1.toNatClampNeg j2)) Q) := t_gd k_200_50 rfl
theorem k_200_51 : lk 200 51 = some (.iinc 4 1, 54, 4, 0, .int 1) := by decide +kernel
theorem x_200_51 : Tr sc d 200 (51, [l0, l1, l2, l3, some (.int x), l5, l6], [], h) Q = Tr sc d 200 (54, [l0, l1, l2, cl2 l3, some (.int (x + 1)), l5, l6], [], h) Q := t_inc k_200_51 rfl (Nat.le_of_ble_eq_true rfl)
theorem k_200_54 : lk 200 54 = some (.goto (-22), 57, 32, 0, .null) := by decide +kernel
theorem x_200_54 : Tr sc d 200 (54, [l0, l1, l2, l3, l4, l5, l6], [], h) Q = Tr sc d 200 (32, [l0, l1, l2, l3, l4, l5, l6], [], h) Q := t_go k_200_54 rfl
theorem k_200_57 : lk 200 57 = some (.iconst 1, 58, 0, 0, .int 1) := by decide +kernel
theorem x_200_57 : Tr sc d 200 (57, [l0, l1, l2, l3, l4, l5, l6], [], h) Q = Tr sc d 200 (58, [l0, l1, l2, l3, l4, l5, l6], [.int 1], h) Q := t_go k_200_57 rfl
theorem k_200_58 : lk 200 58 = some (.istore 4, 60, 4, 0, .null) := by decide +kernel
theorem x_200_58 : Tr sc d 200 (58, [l0, l1, l2, l3, l4, l5, l6], [.int i0], h) Q = Tr sc d 200 (60, [l0, l1, l2, cl2 l3, some (.int i0), l5, l6], [], h) Q := t_istore k_200_58 (Nat.le_of_ble_eq_true rfl)
theorem k_200_60 : lk 200 60 = some (.iload 4, 62, 4, 0, .null) := by decide +kernel
theorem x_200_60 : Tr sc d 200 (60, [l0, l1, l2, l3, some (.int x), l5, l6], [], h) Q = Tr sc d 200 (62, [l0, l1, l2, l3, some (.int x), l5, l6], [.int x], h) Q := t_iload k_200_60 rfl
theorem k_200_62 : lk 200 62 = some (.iload_n 2, 63, 2, 0, .null) := by decide +kernel
theorem x_200_62 : Tr sc d 200 (62, [l0, l1, some (.int x), l3, l4, l5, l6], [.int i0], h) Q = Tr sc d 200 (63, [l0, l1, some (.int x), l3, l4, l5, l6], [.int x, .int i0], h) Q := t_iload_n k_200_62 rfl
theorem k_200_63 : lk 200 63 = some (.if_icmp .gt 145, 66, 208, 0, .null) := by decide +kernel
theorem x_200_63 : Tr sc d 200 (63, [l0, l1, l2, l3, l4, l5, l6], [.int i1, .int i0], h) Q = if i1 < i0 then Tr sc d 200 (208, [l0, l1, l2, l3, l4, l5, l6], [], h) Q else Tr sc d 200 (66, [l0, l1, l2, l3, l4, l5, l6], [], h) Q := t_if k_200_63 rfl
theorem k_200_66 : lk 200 66 = some (.aload_n 0, 67, 0, 0, .null) := by decide +kernel
theorem x_200_66 : Tr sc d 200 (66, [some (.ref xk), l1, l2, l3, l4, l5, l6], [], h) Q = Tr sc d 200 (67, [some (.ref xk), l1, l2, l3, l4, l5, l6], [.ref xk], h) Q := t_aload_n k_200_66 rfl
theorem k_200_67 : lk 200 67 = some (.lconst 0, 68, 0, 0, .long 0) := by decide +kernel
theorem x_200_67 : Tr sc d 200 (67, [l0, l1, l2, l3, l4, l5, l6], [.ref k0], h) Q = Tr sc d 200 (68, [l0, l1, l2, l3, l4, l5, l6], [.long 0, .ref k0], h) Q := t_go k_200_67 rfl
theorem k_200_68 : lk 200 68 = some (.putfield 267, 71, 10, 3, .long 0) := by decide +kernel
theorem x_200_68 : Tr sc d 200 (68, [l0, l1, l2, l3, l4, l5, l6], [.long j1, .ref k0], h) Q = (okp h k0 10 = true ∧ Tr sc d 200 (71, [l0, l1, l2, l3, l4, l5, l6], [], (sL h k0 3 j1)) Q) := t_gd k_200_68 rfl
theorem k_200_71 : lk 200 71 = some (.iconst 0, 72, 0, 0, .int 0) := by decide +kernel
theorem x_200_71 : Tr sc d 200 (71, [l0, l1, l2, l3, l4, l5, l6], [], h) Q = Tr sc d 200 (72, [l0, l1, l2, l3, l4, l5, l6], [.int 0], h) Q := t_go k_200_71 rfl
theorem k_200_72 : lk 200 72 = some (.istore 5, 74, 5, 0, .null) := by decide +kernel
theorem x_200_72 : Tr sc d 200 (72, [l0, l1, l2, l3, l4, l5, l6], [.int i0], h) Q = Tr sc d 200 (74, [l0, l1, l2, l3, cl2 l4, some (.int i0), l6], [], h) Q := t_istore k_200_72 (Nat.le_of_ble_eq_true rfl)
theorem k_200_74 : lk 200 74 = some (.iload 5, 76, 5, 0, .null) := by decide +kernel
theorem x_200_74 : Tr sc d 200 (74, [l0, l1, l2, l3, l4, some (.int x), l6], [], h) Q = Tr sc d 200 (76, [l0, l1, l2, l3, l4, some (.int x), l6], [.int x], h) Q := t_iload k_200_74 rfl
theorem k_200_76 : lk 200 76 = some (.aload_n 0, 77, 0, 0, .null) := by decide +kernel
theorem x_200_76 : Tr sc d 200 (76, [some (.ref xk), l1, l2, l3, l4, l5, l6], [.int i0], h) Q = Tr sc d 200 (77, [some (.ref xk), l1, l2, l3, l4, l5, l6], [.ref xk, .int i0], h) Q := t_aload_n k_200_76 rfl
theorem k_200_77 : lk 200 77 = some (.getfield 41, 80, 10, 18, .null) := by decide +kernel
theorem x_200_77 : Tr sc d 200 (77, [l0, l1, l2, l3, l4, l5, l6], [.ref k1, .int i0], h) Q = (okp h k1 10 = true ∧ ∃ q, hR h k1 18 = some q ∧ Tr sc d 200 (80, [l0, l1, l2, l3, l4, l5, l6], [.ref q, .int i0], h) Q) := t_getr k_200_77
theorem k_200_80 : lk 200 80 = some (.iload_n 1, 81, 1, 0, .null) := by decide +kernel
theorem x_200_80 : Tr sc d 200 (80, [l0, some (.int x), l2, l3, l4, l5, l6], [.ref k1, .int i0], h) Q = Tr sc d 200 (81, [l0, some (.int x), l2, l3, l4, l5, l6], [.int x, .ref k1, .int i0], h) Q := t_iload_n k_200_80 rfl
theorem k_200_81 : lk 200 81 = some (.iaload, 82, 0, 0, .null) := by decide +kernel
theorem x_200_81 : Tr sc d 200 (81, [l0, l1, l2, l3, l4, l5, l6], [.int i2, .ref k1, .int i0], h) Q = (iOk sc h k1 i2 ∧ Tr sc d 200 (82, [l0, l1, l2, l3, l4, l5, l6], [.int (iRd sc h k1 i2), .int i0], h) Q) := t_iald k_200_81
theorem k_200_82 : lk 200 82 = some (.if_icmp .ge 86, 85, 168, 0, .null) := by decide +kernel
theorem x_200_82 : Tr sc d 200 (82, [l0, l1, l2, l3, l4, l5, l6], [.int i1, .int i0], h) Q = if i1 ≤ i0 then Tr sc d 200 (168, [l0, l1, l2, l3, l4, l5, l6], [], h) Q else Tr sc d 200 (85, [l0, l1, l2, l3, l4, l5, l6], [], h) Q := t_if k_200_82 rfl
theorem k_200_85 : lk 200 85 = some (.aload_n 0, 86, 0, 0, .null) := by decide +kernel
theorem x_200_85 : Tr sc d 200 (85, [some (.ref xk), l1, l2, l3, l4, l5, l6], [], h) Q = Tr sc d 200 (86, [some (.ref xk), l1, l2, l3, l4, l5, l6], [.ref xk], h) Q := t_aload_n k_200_85 rfl
theorem k_200_86 : lk 200 86 = some (.dup, 87, 0, 0, .null) := by decide +kernel
theorem x_200_86 : Tr sc d 200 (86, [l0, l1, l2, l3, l4, l5, l6], [.ref k0], h) Q = Tr sc d 200 (87, [l0, l1, l2, l3, l4, l5, l6], [.ref k0, .ref k0], h) Q := t_go k_200_86 rfl
theorem k_200_87 : lk 200 87 = some (.getfield 267, 90, 10, 3, .long 0) := by decide +kernel
theorem x_200_87 : Tr sc d 200 (87, [l0, l1, l2, l3, l4, l5, l6], [.ref k1, .ref k0], h) Q = (okp h k1 10 = true ∧ Tr sc d 200 (90, [l0, l1, l2, l3, l4, l5, l6], [.long (hL h k1 3), .ref k0], h) Q) := t_gd k_200_87 rfl
theorem k_200_90 : lk 200 90 = some (.aload_n 0, 91, 0, 0, .null) := by decide +kernel
theorem x_200_90 : Tr sc d 200 (90, [some (.ref xk), l1, l2, l3, l4, l5, l6], [.long j1, .ref k0], h) Q = Tr sc d 200 (91, [some (.ref xk), l1, l2, l3, l4, l5, l6], [.ref xk, .long j1, .ref k0], h) Q := t_aload_n k_200_90 rfl
theorem k_200_91 : lk 200 91 = some (.getfield 56, 94, 10, 29, .null) := by decide +kernel
theorem x_200_91 : Tr sc d 200 (91, [l0, l1, l2, l3, l4, l5, l6], [.ref k2, .long j1, .ref k0], h) Q = (okp h k2 10 = true ∧ ∃ q, hR h k2 29 = some q ∧ Tr sc d 200 (94, [l0, l1, l2, l3, l4, l5, l6], [.ref q, .long j1, .ref k0], h) Q) := t_getr k_200_91
theorem k_200_94 : lk 200 94 = some (.iload 5, 96, 5, 0, .null) := by decide +kernel
theorem x_200_94 : Tr sc d 200 (94, [l0, l1, l2, l3, l4, some (.int x), l6], [.ref k2, .long j1, .ref k0], h) Q = Tr sc d 200 (96, [l0, l1, l2, l3, l4, some (.int x), l6], [.int x, .ref k2, .long j1, .ref k0], h) Q := t_iload k_200_94 rfl
theorem k_200_96 : lk 200 96 = some (.laload, 97, 0, 0, .null) := by decide +kernel
theorem x_200_96 : Tr sc d 200 (96, [l0, l1, l2, l3, l4, l5, l6], [.int i3, .ref k2, .long j1, .ref k0], h) Q = ((okp h k2 12 && inb i3 (LN k2)) = true ∧ Tr sc d 200 (97, [l0, l1, l2, l3, l4, l5, l6], [.long (hL h k2 i3.toNatClampNeg), .long j1, .ref k0], h) Q) := t_gd k_200_96 rfl
theorem k_200_97 : lk 200 97 = some (.ladd, 98, 0, 0, .null) := by decide +kernel
theorem x_200_97 : Tr sc d 200 (97, [l0, l1, l2, l3, l4, l5, l6], [.long j2, .long j1, .ref k0], h) Q = Tr sc d 200 (98, [l0, l1, l2, l3, l4, l5, l6], [.long (j1 + j2), .ref k0], h) Q := t_go k_200_97 rfl
theorem k_200_98 : lk 200 98 = some (.putfield 267, 101, 10, 3, .long 0) := by decide +kernel
theorem x_200_98 : Tr sc d 200 (98, [l0, l1, l2, l3, l4, l5, l6], [.long j1, .ref k0], h) Q = (okp h k0 10 = true ∧ Tr sc d 200 (101, [l0, l1, l2, l3, l4, l5, l6], [], (sL h k0 3 j1)) Q) := t_gd k_200_98 rfl
theorem k_200_101 : lk 200 101 = some (.aload_n 0, 102, 0, 0, .null) := by decide +kernel
theorem x_200_101 : Tr sc d 200 (101, [some (.ref xk), l1, l2, l3, l4, l5, l6], [], h) Q = Tr sc d 200 (102, [some (.ref xk), l1, l2, l3, l4, l5, l6], [.ref xk], h) Q := t_aload_n k_200_101 rfl
theorem k_200_102 : lk 200 102 = some (.getfield 60, 105, 10, 30, .null) := by decide +kernel
theorem x_200_102 : Tr sc d 200 (102, [l0, l1, l2, l3, l4, l5, l6], [.ref k0], h) Q = (okp h k0 10 = true ∧ ∃ q, hR h k0 30 = some q ∧ Tr sc d 200 (105, [l0, l1, l2, l3, l4, l5, l6], [.ref q], h) Q) := t_getr k_200_102
theorem k_200_105 : lk 200 105 = some (.iload 5, 107, 5, 0, .null) := by decide +kernel
theorem x_200_105 : Tr sc d 200 (105, [l0, l1, l2, l3, l4, some (.int x), l6], [.ref k0], h) Q = Tr sc d 200 (107, [l0, l1, l2, l3, l4, some (.int x), l6], [.int x, .ref k0], h) Q := t_iload k_200_105 rfl
theorem k_200_107 : lk 200 107 = some (.lconst 0, 108, 0, 0, .long 0) := by decide +kernel
theorem x_200_107 : Tr sc d 200 (107, [l0, l1, l2, l3, l4, l5, l6], [.int i1, .ref k0], h) Q = Tr sc d 200 (108, [l0, l1, l2, l3, l4, l5, l6], [.long 0, .int i1, .ref k0], h) Q := t_go k_200_107 rfl
theorem k_200_108 : lk 200 108 = some (.lastore, 109, 0, 0, .null) := by decide +kernel
theorem x_200_108 : Tr sc d 200 (108, [l0, l1, l2, l3, l4, l5, l6], [.long j2, .int i1, .ref k0], h) Q = ((okp h k0 12 && inb i1 (LN k0)) = true ∧ Tr sc d 200 (109, [l0, l1, l2, l3, l4, l5, l6], [], (sL h k0 i1.toNatClampNeg j2)) Q) := t_gd k_200_108 rfl
theorem k_200_109 : lk 200 109 = some (.iconst 0, 110, 0, 0, .int 0) := by decide +kernel
theorem x_200_109 : Tr sc d 200 (109, [l0, l1, l2, l3, l4, l5, l6], [], h) Q = Tr sc d 200 (110, [l0, l1, l2, l3, l4, l5, l6], [.int 0], h) Q := t_go k_200_109 rfl
theorem k_200_110 : lk 200 110 = some (.istore 6, 112, 6, 0, .null) := by decide +kernel
theorem x_200_110 : Tr sc d 200 (110, [l0, l1, l2, l3, l4, l5, l6], [.int i0], h) Q = Tr sc d 200 (112, [l0, l1, l2, l3, l4, cl2 l5, some (.int i0)], [], h) Q := t_istore k_200_110 (Nat.le_of_ble_eq_true rfl)
theorem k_200_112 : lk 200 112 = some (.iload 6, 114, 6, 0, .null) := by decide +kernel
theorem x_200_112 : Tr sc d 200 (112, [l0, l1, l2, l3, l4, l5, some (.int x)], [], h) Q = Tr sc d 200 (114, [l0, l1, l2, l3, l4, l5, some (.int x)], [.int x], h) Q := t_iload k_200_112 rfl
theorem k_200_114 : lk 200 114 = some (.aload_n 0, 115, 0, 0, .null) := by decide +kernel
theorem x_200_114 : Tr sc d 200 (114, [some (.ref xk), l1, l2, l3, l4, l5, l6], [.int i0], h) Q = Tr sc d 200 (115, [some (.ref xk), l1, l2, l3, l4, l5, l6], [.ref xk, .int i0], h) Q := t_aload_n k_200_114 rfl
theorem k_200_115 : lk 200 115 = some (.getfield 41, 118, 10, 18, .null) := by decide +kernel
theorem x_200_115 : Tr sc d 200 (115, [l0, l1, l2, l3, l4, l5, l6], [.ref k1, .int i0], h) Q = (okp h k1 10 = true ∧ ∃ q, hR h k1 18 = some q ∧ Tr sc d 200 (118, [l0, l1, l2, l3, l4, l5, l6], [.ref q, .int i0], h) Q) := t_getr k_200_115
theorem k_200_118 : lk 200 118 = some (.iload_n 1, 119, 1, 0, .null) := by decide +kernel
theorem x_200_118 : Tr sc d 200 (118, [l0, some (.int x), l2, l3, l4, l5, l6], [.ref k1, .int i0], h) Q = Tr sc d 200 (119, [l0, some (.int x), l2, l3, l4, l5, l6], [.int x, .ref k1, .int i0], h) Q := t_iload_n k_200_118 rfl
theorem k_200_119 : lk 200 119 = some (.iaload, 120, 0, 0, .null) := by decide +kernel
theorem x_200_119 : Tr sc d 200 (119, [l0, l1, l2, l3, l4, l5, l6], [.int i2, .ref k1, .int i0], h) Q = (iOk sc h k1 i2 ∧ Tr sc d 200 (120, [l0, l1, l2, l3, l4, l5, l6], [.int (iRd sc h k1 i2), .int i0], h) Q) := t_iald k_200_119
theorem k_200_120 : lk 200 120 = some (.if_icmp .ge 42, 123, 162, 0, .null) := by decide +kernel
theorem x_200_120 : Tr sc d 200 (120, [l0, l1, l2, l3, l4, l5, l6], [.int i1, .int i0], h) Q = if i1 ≤ i0 then Tr sc d 200 (162, [l0, l1, l2, l3, l4, l5, l6], [], h) Q else Tr sc d 200 (123, [l0, l1, l2, l3, l4, l5, l6], [], h) Q := t_if k_200_120 rfl
theorem k_200_123 : lk 200 123 = some (.aload_n 0, 124, 0, 0, .null) := by decide +kernel
theorem x_200_123 : Tr sc d 200 (123, [some (.ref xk), l1, l2, l3, l4, l5, l6], [], h) Q = Tr sc d 200 (124, [some (.ref xk), l1, l2, l3, l4, l5, l6], [.ref xk], h) Q := t_aload_n k_200_123 rfl
theorem k_200_124 : lk 200 124 = some (.getfield 60, 127, 10, 30, .null) := by decide +kernel
theorem x_200_124 : Tr sc d 200 (124, [l0, l1, l2, l3, l4, l5, l6], [.ref k0], h) Q = (okp h k0 10 = true ∧ ∃ q, hR h k0 30 = some q ∧ Tr sc d 200 (127, [l0, l1, l2, l3, l4, l5, l6], [.ref q], h) Q) := t_getr k_200_124
theorem k_200_127 : lk 200 127 = some (.iload 5, 129, 5, 0, .null) := by decide +kernel
theorem x_200_127 : Tr sc d 200 (127, [l0, l1, l2, l3, l4, some (.int x), l6], [.ref k0], h) Q = Tr sc d 200 (129, [l0, l1, l2, l3, l4, some (.int x), l6], [.int x, .ref k0], h) Q := t_iload k_200_127 rfl
theorem k_200_129 : lk 200 129 = some (.dup2, 130, 0, 0, .null) := by decide +kernel
theorem x_200_129 : Tr sc d 200 (129, [l0, l1, l2, l3, l4, l5, l6], [.int i1, .ref k0], h) Q = Tr sc d 200 (130, [l0, l1, l2, l3, l4, l5, l6], [.int i1, .ref k0, .int i1, .ref k0], h) Q := t_go k_200_129 rfl
theorem k_200_130 : lk 200 130 = some (.laload, 131, 0, 0, .null) := by decide +kernel
theorem x_200_130 : Tr sc d 200 (130, [l0, l1, l2, l3, l4, l5, l6], [.int i3, .ref k2, .int i1, .ref k0], h) Q = ((okp h k2 12 && inb i3 (LN k2)) = true ∧ Tr sc d 200 (131, [l0, l1, l2, l3, l4, l5, l6], [.long (hL h k2 i3.toNatClampNeg), .int i1, .ref k0], h) Q) := t_gd k_200_130 rfl
theorem k_200_131 : lk 200 131 = some (.aload_n 0, 132, 0, 0, .null) := by decide +kernel
theorem x_200_131 : Tr sc d 200 (131, [some (.ref xk), l1, l2, l3, l4, l5, l6], [.long j2, .int i1, .ref k0], h) Q = Tr sc d 200 (132, [some (.ref xk), l1, l2, l3, l4, l5, l6], [.ref xk, .long j2, .int i1, .ref k0], h) Q := t_aload_n k_200_131 rfl
theorem k_200_132 : lk 200 132 = some (.iload_n 1, 133, 1, 0, .null) := by decide +kernel
theorem x_200_132 : Tr sc d 200 (132, [l0, some (.int x), l2, l3, l4, l5, l6], [.ref k3, .long j2, .int i1, .ref k0], h) Q = Tr sc d 200 (133, [l0, some (.int x), l2, l3, l4, l5, l6], [.int x, .ref k3, .long j2, .int i1, .ref k0], h) Q := t_iload_n k_200_132 rfl
theorem k_200_133 : lk 200 133 = some (.iload 5, 135, 5, 0, .null) := by decide +kernel
theorem x_200_133 : Tr sc d 200 (133, [l0, l1, l2, l3, l4, some (.int x), l6], [.int i4, .ref k3, .long j2, .int i1, .ref k0], h) Q = Tr sc d 200 (135, [l0, l1, l2, l3, l4, some (.int x), l6], [.int x, .int i4, .ref k3, .long j2, .int i1, .ref k0], h) Q := t_iload k_200_133 rfl
theorem k_200_135 : lk 200 135 = some (.iload 6, 137, 6, 0, .null) := by decide +kernel
theorem x_200_135 : Tr sc d 200 (135, [l0, l1, l2, l3, l4, l5, some (.int x)], [.int i5, .int i4, .ref k3, .long j2, .int i1, .ref k0], h) Q = Tr sc d 200 (137, [l0, l1, l2, l3, l4, l5, some (.int x)], [.int x, .int i5, .int i4, .ref k3, .long j2, .int i1, .ref k0], h) Q := t_iload k_200_135 rfl
theorem k_200_137 : lk 200 137 = some (.invokevirtual 203, 140, 186, 3, .null) := by decide +kernel
theorem x_200_137 : Tr sc (d + 1) 200 (137, [l0, l1, l2, l3, l4, l5, l6], [.int i6, .int i5, .int i4, .ref k3, .long j2, .int i1, .ref k0], h) Q = (okp h k3 10 = true ∧ Tr sc d 186 (ent0 186 [.ref k3, .int i4, .int i5, .int i6] h) (fun z => Tr sc (d + 1) 200 (140, [l0, l1, l2, l3, l4, l5, l6], z.1.toList ++ [.long j2, .int i1, .ref k0], z.2) Q)) := t_cv (as := [.int i4, .int i5, .int i6]) (r := [.long j2, .int i1, .ref k0]) k_200_137 rfl rfl (Nat.le_of_ble_eq_true rfl) (Nat.le_of_ble_eq_true rfl) (Nat.le_of_ble_eq_true rfl)
theorem k_200_140 : lk 200 140 = some (.ifCond .eq 7, 143, 147, 0, .null) := by decide +kernel
theorem x_200_140 : Tr sc d 200 (140, [l0, l1, l2, l3, l4, l5, l6], [.int i3, .long j2, .int i1, .ref k0], h) Q = if i3 = 0 then Tr sc d 200 (147, [l0, l1, l2, l3, l4, l5, l6], [.long j2, .int i1, .ref k0], h) Q else Tr sc d 200 (143, [l0, l1, l2, l3, l4, l5, l6], [.long j2, .int i1, .ref k0], h) Q := t_if k_200_140 rfl
theorem k_200_143 : lk 200 143 = some (.lconst 0, 144, 0, 0, .long 0) := by decide +kernel
theorem x_200_143 : Tr sc d 200 (143, [l0, l1, l2, l3, l4, l5, l6], [.long j2, .int i1, .ref k0], h) Q = Tr sc d 200 (144, [l0, l1, l2, l3, l4, l5, l6], [.long 0, .long j2, .int i1, .ref k0], h) Q := t_go k_200_143 rfl
theorem k_200_144 : lk 200 144 = some (.goto 10, 147, 154, 0, .null) := by decide +kernel
theorem x_200_144 : Tr sc d 200 (144, [l0, l1, l2, l3, l4, l5, l6], [.long j3, .long j2, .int i1, .ref k0], h) Q = Tr sc d 200 (154, [l0, l1, l2, l3, l4, l5, l6], [.long j3, .long j2, .int i1, .ref k0], h) Q := t_go k_200_144 rfl
theorem k_200_147 : lk 200 147 = some (.aload_n 0, 148, 0, 0, .null) := by decide +kernel
theorem x_200_147 : Tr sc d 200 (147, [some (.ref xk), l1, l2, l3, l4, l5, l6], [.long j2, .int i1, .ref k0], h) Q = Tr sc d 200 (148, [some (.ref xk), l1, l2, l3, l4, l5, l6], [.ref xk, .long j2, .int i1, .ref k0], h) Q := t_aload_n k_200_147 rfl
theorem k_200_148 : lk 200 148 = some (.getfield 56, 151, 10, 29, .null) := by decide +kernel
theorem x_200_148 : Tr sc d 200 (148, [l0, l1, l2, l3, l4, l5, l6], [.ref k3, .long j2, .int i1, .ref k0], h) Q = (okp h k3 10 = true ∧ ∃ q, hR h k3 29 = some q ∧ Tr sc d 200 (151, [l0, l1, l2, l3, l4, l5, l6], [.ref q, .long j2, .int i1, .ref k0], h) Q) := t_getr k_200_148
theorem k_200_151 : lk 200 151 = some (.iload 6, 153, 6, 0, .null) := by decide +kernel
theorem x_200_151 : Tr sc d 200 (151, [l0, l1, l2, l3, l4, l5, some (.int x)], [.ref k3, .long j2, .int i1, .ref k0], h) Q = Tr sc d 200 (153, [l0, l1, l2, l3, l4, l5, some (.int x)], [.int x, .ref k3, .long j2, .int i1, .ref k0], h) Q := t_iload k_200_151 rfl
theorem k_200_153 : lk 200 153 = some (.laload, 154, 0, 0, .null) := by decide +kernel
theorem x_200_153 : Tr sc d 200 (153, [l0, l1, l2, l3, l4, l5, l6], [.int i4, .ref k3, .long j2, .int i1, .ref k0], h) Q = ((okp h k3 12 && inb i4 (LN k3)) = true ∧ Tr sc d 200 (154, [l0, l1, l2, l3, l4, l5, l6], [.long (hL h k3 i4.toNatClampNeg), .long j2, .int i1, .ref k0], h) Q) := t_gd k_200_153 rfl
theorem k_200_154 : lk 200 154 = some (.ladd, 155, 0, 0, .null) := by decide +kernel
theorem x_200_154 : Tr sc d 200 (154, [l0, l1, l2, l3, l4, l5, l6], [.long j3, .long j2, .int i1, .ref k0], h) Q = Tr sc d 200 (155, [l0, l1, l2, l3, l4, l5, l6], [.long (j2 + j3), .int i1, .ref k0], h) Q := t_go k_200_154 rfl
theorem k_200_155 : lk 200 155 = some (.lastore, 156, 0, 0, .null) := by decide +kernel
theorem x_200_155 : Tr sc d 200 (155, [l0, l1, l2, l3, l4, l5, l6], [.long j2, .int i1, .ref k0], h) Q = ((okp h k0 12 && inb i1 (LN k0)) = true ∧ Tr sc d 200 (156, [l0, l1, l2, l3, l4, l5, l6], [], (sL h k0 i1.toNatClampNeg j2)) Q) := t_gd k_200_155 rfl
theorem k_200_156 : lk 200 156 = some (.iinc 6 1, 159, 6, 0, .int 1) := by decide +kernel
theorem x_200_156 : Tr sc d 200 (156, [l0, l1, l2, l3, l4, l5, some (.int x)], [], h) Q = Tr sc d 200 (159, [l0, l1, l2, l3, l4, cl2 l5, some (.int (x + 1))], [], h) Q := t_inc k_200_156 rfl (Nat.le_of_ble_eq_true rfl)
theorem k_200_159 : lk 200 159 = some (.goto (-47), 162, 112, 0, .null) := by decide +kernel
theorem x_200_159 : Tr sc d 200 (159, [l0, l1, l2, l3, l4, l5, l6], [], h) Q = Tr sc d 200 (112, [l0, l1, l2, l3, l4, l5, l6], [], h) Q := t_go k_200_159 rfl
theorem k_200_162 : lk 200 162 = some (.iinc 5 1, 165, 5, 0, .int 1) := by decide +kernel
theorem x_200_162 : Tr sc d 200 (162, [l0, l1, l2, l3, l4, some (.int x), l6], [], h) Q = Tr sc d 200 (165, [l0, l1, l2, l3, cl2 l4, some (.int (x + 1)), l6], [], h) Q := t_inc k_200_162 rfl (Nat.le_of_ble_eq_true rfl)
theorem k_200_165 : lk 200 165 = some (.goto (-91), 168, 74, 0, .null) := by decide +kernel
theorem x_200_165 : Tr sc d 200 (165, [l0, l1, l2, l3, l4, l5, l6], [], h) Q = Tr sc d 200 (74, [l0, l1, l2, l3, l4, l5, l6], [], h) Q := t_go k_200_165 rfl
theorem k_200_168 : lk 200 168 = some (.iconst 0, 169, 0, 0, .int 0) := by decide +kernel
theorem x_200_168 : Tr sc d 200 (168, [l0, l1, l2, l3, l4, l5, l6], [], h) Q = Tr sc d 200 (169, [l0, l1, l2, l3, l4, l5, l6], [.int 0], h) Q := t_go k_200_168 rfl
theorem k_200_169 : lk 200 169 = some (.istore 5, 171, 5, 0, .null) := by decide +kernel
theorem x_200_169 : Tr sc d 200 (169, [l0, l1, l2, l3, l4, l5, l6], [.int i0], h) Q = Tr sc d 200 (171, [l0, l1, l2, l3, cl2 l4, some (.int i0), l6], [], h) Q := t_istore k_200_169 (Nat.le_of_ble_eq_true rfl)
theorem k_200_171 : lk 200 171 = some (.iload 5, 173, 5, 0, .null) := by decide +kernel
theorem x_200_171 : Tr sc d 200 (171, [l0, l1, l2, l3, l4, some (.int x), l6], [], h) Q = Tr sc d 200 (173, [l0, l1, l2, l3, l4, some (.int x), l6], [.int x], h) Q := t_iload k_200_171 rfl
theorem k_200_173 : lk 200 173 = some (.aload_n 0, 174, 0, 0, .null) := by decide +kernel
theorem x_200_173 : Tr sc d 200 (173, [some (.ref xk), l1, l2, l3, l4, l5, l6], [.int i0], h) Q = Tr sc d 200 (174, [some (.ref xk), l1, l2, l3, l4, l5, l6], [.ref xk, .int i0], h) Q := t_aload_n k_200_173 rfl
theorem k_200_174 : lk 200 174 = some (.getfield 41, 177, 10, 18, .null) := by decide +kernel
theorem x_200_174 : Tr sc d 200 (174, [l0, l1, l2, l3, l4, l5, l6], [.ref k1, .int i0], h) Q = (okp h k1 10 = true ∧ ∃ q, hR h k1 18 = some q ∧ Tr sc d 200 (177, [l0, l1, l2, l3, l4, l5, l6], [.ref q, .int i0], h) Q) := t_getr k_200_174
theorem k_200_177 : lk 200 177 = some (.iload_n 1, 178, 1, 0, .null) := by decide +kernel
theorem x_200_177 : Tr sc d 200 (177, [l0, some (.int x), l2, l3, l4, l5, l6], [.ref k1, .int i0], h) Q = Tr sc d 200 (178, [l0, some (.int x), l2, l3, l4, l5, l6], [.int x, .ref k1, .int i0], h) Q := t_iload_n k_200_177 rfl
theorem k_200_178 : lk 200 178 = some (.iaload, 179, 0, 0, .null) := by decide +kernel
theorem x_200_178 : Tr sc d 200 (178, [l0, l1, l2, l3, l4, l5, l6], [.int i2, .ref k1, .int i0], h) Q = (iOk sc h k1 i2 ∧ Tr sc d 200 (179, [l0, l1, l2, l3, l4, l5, l6], [.int (iRd sc h k1 i2), .int i0], h) Q) := t_iald k_200_178
theorem k_200_179 : lk 200 179 = some (.if_icmp .ge 23, 182, 202, 0, .null) := by decide +kernel
theorem x_200_179 : Tr sc d 200 (179, [l0, l1, l2, l3, l4, l5, l6], [.int i1, .int i0], h) Q = if i1 ≤ i0 then Tr sc d 200 (202, [l0, l1, l2, l3, l4, l5, l6], [], h) Q else Tr sc d 200 (182, [l0, l1, l2, l3, l4, l5, l6], [], h) Q := t_if k_200_179 rfl
theorem k_200_182 : lk 200 182 = some (.aload_n 0, 183, 0, 0, .null) := by decide +kernel
theorem x_200_182 : Tr sc d 200 (182, [some (.ref xk), l1, l2, l3, l4, l5, l6], [], h) Q = Tr sc d 200 (183, [some (.ref xk), l1, l2, l3, l4, l5, l6], [.ref xk], h) Q := t_aload_n k_200_182 rfl
theorem k_200_183 : lk 200 183 = some (.getfield 56, 186, 10, 29, .null) := by decide +kernel
theorem x_200_183 : Tr sc d 200 (183, [l0, l1, l2, l3, l4, l5, l6], [.ref k0], h) Q = (okp h k0 10 = true ∧ ∃ q, hR h k0 29 = some q ∧ Tr sc d 200 (186, [l0, l1, l2, l3, l4, l5, l6], [.ref q], h) Q) := t_getr k_200_183
theorem k_200_186 : lk 200 186 = some (.iload 5, 188, 5, 0, .null) := by decide +kernel
theorem x_200_186 : Tr sc d 200 (186, [l0, l1, l2, l3, l4, some (.int x), l6], [.ref k0], h) Q = Tr sc d 200 (188, [l0, l1, l2, l3, l4, some (.int x), l6], [.int x, .ref k0], h) Q := t_iload k_200_186 rfl
theorem k_200_188 : lk 200 188 = some (.aload_n 0, 189, 0, 0, .null) := by decide +kernel
theorem x_200_188 : Tr sc d 200 (188, [some (.ref xk), l1, l2, l3, l4, l5, l6], [.int i1, .ref k0], h) Q = Tr sc d 200 (189, [some (.ref xk), l1, l2, l3, l4, l5, l6], [.ref xk, .int i1, .ref k0], h) Q := t_aload_n k_200_188 rfl
theorem k_200_189 : lk 200 189 = some (.getfield 60, 192, 10, 30, .null) := by decide +kernel
theorem x_200_189 : Tr sc d 200 (189, [l0, l1, l2, l3, l4, l5, l6], [.ref k2, .int i1, .ref k0], h) Q = (okp h k2 10 = true ∧ ∃ q, hR h k2 30 = some q ∧ Tr sc d 200 (192, [l0, l1, l2, l3, l4, l5, l6], [.ref q, .int i1, .ref k0], h) Q) := t_getr k_200_189
theorem k_200_192 : lk 200 192 = some (.iload 5, 194, 5, 0, .null) := by decide +kernel
theorem x_200_192 : Tr sc d 200 (192, [l0, l1, l2, l3, l4, some (.int x), l6], [.ref k2, .int i1, .ref k0], h) Q = Tr sc d 200 (194, [l0, l1, l2, l3, l4, some (.int x), l6], [.int x, .ref k2, .int i1, .ref k0], h) Q := t_iload k_200_192 rfl
theorem k_200_194 : lk 200 194 = some (.laload, 195, 0, 0, .null) := by decide +kernel
theorem x_200_194 : Tr sc d 200 (194, [l0, l1, l2, l3, l4, l5, l6], [.int i3, .ref k2, .int i1, .ref k0], h) Q = ((okp h k2 12 && inb i3 (LN k2)) = true ∧ Tr sc d 200 (195, [l0, l1, l2, l3, l4, l5, l6], [.long (hL h k2 i3.toNatClampNeg), .int i1, .ref k0], h) Q) := t_gd k_200_194 rfl
theorem k_200_195 : lk 200 195 = some (.lastore, 196, 0, 0, .null) := by decide +kernel
theorem x_200_195 : Tr sc d 200 (195, [l0, l1, l2, l3, l4, l5, l6], [.long j2, .int i1, .ref k0], h) Q = ((okp h k0 12 && inb i1 (LN k0)) = true ∧ Tr sc d 200 (196, [l0, l1, l2, l3, l4, l5, l6], [], (sL h k0 i1.toNatClampNeg j2)) Q) := t_gd k_200_195 rfl
theorem k_200_196 : lk 200 196 = some (.iinc 5 1, 199, 5, 0, .int 1) := by decide +kernel
theorem x_200_196 : Tr sc d 200 (196, [l0, l1, l2, l3, l4, some (.int x), l6], [], h) Q = Tr sc d 200 (199, [l0, l1, l2, l3, cl2 l4, some (.int (x + 1)), l6], [], h) Q := t_inc k_200_196 rfl (Nat.le_of_ble_eq_true rfl)
theorem k_200_199 : lk 200 199 = some (.goto (-28), 202, 171, 0, .null) := by decide +kernel
theorem x_200_199 : Tr sc d 200 (199, [l0, l1, l2, l3, l4, l5, l6], [], h) Q = Tr sc d 200 (171, [l0, l1, l2, l3, l4, l5, l6], [], h) Q := t_go k_200_199 rfl
theorem k_200_202 : lk 200 202 = some (.iinc 4 1, 205, 4, 0, .int 1) := by decide +kernel
theorem x_200_202 : Tr sc d 200 (202, [l0, l1, l2, l3, some (.int x), l5, l6], [], h) Q = Tr sc d 200 (205, [l0, l1, l2, cl2 l3, some (.int (x + 1)), l5, l6], [], h) Q := t_inc k_200_202 rfl (Nat.le_of_ble_eq_true rfl)
theorem k_200_205 : lk 200 205 = some (.goto (-145), 208, 60, 0, .null) := by decide +kernel
theorem x_200_205 : Tr sc d 200 (205, [l0, l1, l2, l3, l4, l5, l6], [], h) Q = Tr sc d 200 (60, [l0, l1, l2, l3, l4, l5, l6], [], h) Q := t_go k_200_205 rfl
theorem k_200_208 : lk 200 208 = some (.iconst 1, 209, 0, 0, .int 1) := by decide +kernel
theorem x_200_208 : Tr sc d 200 (208, [l0, l1, l2, l3, l4, l5, l6], [], h) Q = Tr sc d 200 (209, [l0, l1, l2, l3, l4, l5, l6], [.int 1], h) Q := t_go k_200_208 rfl
theorem k_200_209 : lk 200 209 = some (.ireturn, 210, 0, 0, .null) := by decide +kernel
theorem x_200_209 : Tr sc d 200 (209, [l0, l1, l2, l3, l4, l5, l6], [.int i0], h) Q = Q (some (.int i0), h) := t_ret k_200_209 (by rw [r_200]; rfl)
theorem e_200 : Tr sc d 200 (ent0 200 [.ref k0, .int i1, .int i2] h) Q = Tr sc d 200 (0, [some (.ref k0), some (.int i1), some (.int i2), none, none, none, none], [], h) Q := by
  have e : mL 200 = 7 := by decide +kernel
  unfold ent0
  rw [e]
  rfl
theorem r_201 : mR 201 = none := by decide +kernel
theorem k_201_0 : lk 201 0 = some (.aload_n 0, 1, 0, 0, .null) := by decide +kernel
theorem x_201_0 : Tr sc d 201 (0, [some (.ref xk), l1, l2, l3, l4, l5, l6, l7, l8, l9, l10, l11, l12, l13, l14], [], h) Q = Tr sc d 201 (1, [some (.ref xk), l1, l2, l3, l4, l5, l6, l7, l8, l9, l10, l11, l12, l13, l14], [.ref xk], h) Q := t_aload_n k_201_0 rfl
theorem k_201_1 : lk 201 1 = some (.iconst 1, 2, 0, 0, .int 1) := by decide +kernel
theorem x_201_1 : Tr sc d 201 (1, [l0, l1, l2, l3, l4, l5, l6, l7, l8, l9, l10, l11, l12, l13, l14], [.ref k0], h) Q = Tr sc d 201 (2, [l0, l1, l2, l3, l4, l5, l6, l7, l8, l9, l10, l11, l12, l13, l14], [.int 1, .ref k0], h) Q := t_go k_201_1 rfl
theorem k_201_2 : lk 201 2 = some (.putfield 270, 5, 10, 31, .int 0) := by decide +kernel
theorem x_201_2 : Tr sc d 201 (2, [l0, l1, l2, l3, l4, l5, l6, l7, l8, l9, l10, l11, l12, l13, l14], [.int i1, .ref k0], h) Q = (okp h k0 10 = true ∧ Tr sc d 201 (5, [l0, l1, l2, l3, l4, l5, l6, l7, l8, l9, l10, l11, l12, l13, l14], [], (sI h k0 31 i1)) Q) := t_gd k_201_2 rfl
theorem k_201_5 : lk 201 5 = some (.aload_n 0, 6, 0, 0, .null) := by decide +kernel
theorem x_201_5 : Tr sc d 201 (5, [some (.ref xk), l1, l2, l3, l4, l5, l6, l7, l8, l9, l10, l11, l12, l13, l14], [], h) Q = Tr sc d 201 (6, [some (.ref xk), l1, l2, l3, l4, l5, l6, l7, l8, l9, l10, l11, l12, l13, l14], [.ref xk], h) Q := t_aload_n k_201_5 rfl
theorem k_201_6 : lk 201 6 = some (.getfield 63, 9, 10, 32, .null) := by decide +kernel
theorem x_201_6 : Tr sc d 201 (6, [l0, l1, l2, l3, l4, l5, l6, l7, l8, l9, l10, l11, l12, l13, l14], [.ref k0], h) Q = (okp h k0 10 = true ∧ ∃ q, hR h k0 32 = some q ∧ Tr sc d 201 (9, [l0, l1, l2, l3, l4, l5, l6, l7, l8, l9, l10, l11, l12, l13, l14], [.ref q], h) Q) := t_getr k_201_6
theorem k_201_9 : lk 201 9 = some (.iconst 0, 10, 0, 0, .int 0) := by decide +kernel
theorem x_201_9 : Tr sc d 201 (9, [l0, l1, l2, l3, l4, l5, l6, l7, l8, l9, l10, l11, l12, l13, l14], [.ref k0], h) Q = Tr sc d 201 (10, [l0, l1, l2, l3, l4, l5, l6, l7, l8, l9, l10, l11, l12, l13, l14], [.int 0, .ref k0], h) Q := t_go k_201_9 rfl
theorem k_201_10 : lk 201 10 = some (.iconst 0, 11, 0, 0, .int 0) := by decide +kernel
theorem x_201_10 : Tr sc d 201 (10, [l0, l1, l2, l3, l4, l5, l6, l7, l8, l9, l10, l11, l12, l13, l14], [.int i1, .ref k0], h) Q = Tr sc d 201 (11, [l0, l1, l2, l3, l4, l5, l6, l7, l8, l9, l10, l11, l12, l13, l14], [.int 0, .int i1, .ref k0], h) Q := t_go k_201_10 rfl
theorem k_201_11 : lk 201 11 = some (.iastore, 12, 0, 0, .null) := by decide +kernel
theorem x_201_11 : Tr sc d 201 (11, [l0, l1, l2, l3, l4, l5, l6, l7, l8, l9, l10, l11, l12, l13, l14], [.int i2, .int i1, .ref k0], h) Q = ((okp h k0 11 && inb i1 (LN k0)) = true ∧ Tr sc d 201 (12, [l0, l1, l2, l3, l4, l5, l6, l7, l8, l9, l10, l11, l12, l13, l14], [], (sI h k0 i1.toNatClampNeg i2)) Q) := t_gd k_201_11 rfl
theorem k_201_12 : lk 201 12 = some (.aload_n 0, 13, 0, 0, .null) := by decide +kernel
theorem x_201_12 : Tr sc d 201 (12, [some (.ref xk), l1, l2, l3, l4, l5, l6, l7, l8, l9, l10, l11, l12, l13, l14], [], h) Q = Tr sc d 201 (13, [some (.ref xk), l1, l2, l3, l4, l5, l6, l7, l8, l9, l10, l11, l12, l13, l14], [.ref xk], h) Q := t_aload_n k_201_12 rfl
theorem k_201_13 : lk 201 13 = some (.getfield 66, 16, 10, 33, .null) := by decide +kernel
theorem x_201_13 : Tr sc d 201 (13, [l0, l1, l2, l3, l4, l5, l6, l7, l8, l9, l10, l11, l12, l13, l14], [.ref k0], h) Q = (okp h k0 10 = true ∧ ∃ q, hR h k0 33 = some q ∧ Tr sc d 201 (16, [l0, l1, l2, l3, l4, l5, l6, l7, l8, l9, l10, l11, l12, l13, l14], [.ref q], h) Q) := t_getr k_201_13
theorem k_201_16 : lk 201 16 = some (.iconst 0, 17, 0, 0, .int 0) := by decide +kernel
theorem x_201_16 : Tr sc d 201 (16, [l0, l1, l2, l3, l4, l5, l6, l7, l8, l9, l10, l11, l12, l13, l14], [.ref k0], h) Q = Tr sc d 201 (17, [l0, l1, l2, l3, l4, l5, l6, l7, l8, l9, l10, l11, l12, l13, l14], [.int 0, .ref k0], h) Q := t_go k_201_16 rfl
theorem k_201_17 : lk 201 17 = some (.iconst 0, 18, 0, 0, .int 0) := by decide +kernel
theorem x_201_17 : Tr sc d 201 (17, [l0, l1, l2, l3, l4, l5, l6, l7, l8, l9, l10, l11, l12, l13, l14], [.int i1, .ref k0], h) Q = Tr sc d 201 (18, [l0, l1, l2, l3, l4, l5, l6, l7, l8, l9, l10, l11, l12, l13, l14], [.int 0, .int i1, .ref k0], h) Q := t_go k_201_17 rfl
theorem k_201_18 : lk 201 18 = some (.iastore, 19, 0, 0, .null) := by decide +kernel
theorem x_201_18 : Tr sc d 201 (18, [l0, l1, l2, l3, l4, l5, l6, l7, l8, l9, l10, l11, l12, l13, l14], [.int i2, .int i1, .ref k0], h) Q = ((okp h k0 11 && inb i1 (LN k0)) = true ∧ Tr sc d 201 (19, [l0, l1, l2, l3, l4, l5, l6, l7, l8, l9, l10, l11, l12, l13, l14], [], (sI h k0 i1.toNatClampNeg i2)) Q) := t_gd k_201_18 rfl
theorem k_201_19 : lk 201 19 = some (.aload_n 0, 20, 0, 0, .null) := by decide +kernel
theorem x_201_19 : Tr sc d 201 (19, [some (.ref xk), l1, l2, l3, l4, l5, l6, l7, l8, l9, l10, l11, l12, l13, l14], [], h) Q = Tr sc d 201 (20, [some (.ref xk), l1, l2, l3, l4, l5, l6, l7, l8, l9, l10, l11, l12, l13, l14], [.ref xk], h) Q := t_aload_n k_201_19 rfl
theorem k_201_20 : lk 201 20 = some (.getfield 69, 23, 10, 34, .null) := by decide +kernel
theorem x_201_20 : Tr sc d 201 (20, [l0, l1, l2, l3, l4, l5, l6, l7, l8, l9, l10, l11, l12, l13, l14], [.ref k0], h) Q = (okp h k0 10 = true ∧ ∃ q, hR h k0 34 = some q ∧ Tr sc d 201 (23, [l0, l1, l2, l3, l4, l5, l6, l7, l8, l9, l10, l11, l12, l13, l14], [.ref q], h) Q) := t_getr k_201_20
theorem k_201_23 : lk 201 23 = some (.iconst 0, 24, 0, 0, .int 0) := by decide +kernel
theorem x_201_23 : Tr sc d 201 (23, [l0, l1, l2, l3, l4, l5, l6, l7, l8, l9, l10, l11, l12, l13, l14], [.ref k0], h) Q = Tr sc d 201 (24, [l0, l1, l2, l3, l4, l5, l6, l7, l8, l9, l10, l11, l12, l13, l14], [.int 0, .ref k0], h) Q := t_go k_201_23 rfl
theorem k_201_24 : lk 201 24 = some (.bipush (-9), 26, 0, 0, .int (-9)) := by decide +kernel
theorem x_201_24 : Tr sc d 201 (24, [l0, l1, l2, l3, l4, l5, l6, l7, l8, l9, l10, l11, l12, l13, l14], [.int i1, .ref k0], h) Q = Tr sc d 201 (26, [l0, l1, l2, l3, l4, l5, l6, l7, l8, l9, l10, l11, l12, l13, l14], [.int (-9), .int i1, .ref k0], h) Q := t_go k_201_24 rfl
theorem k_201_26 : lk 201 26 = some (.iastore, 27, 0, 0, .null) := by decide +kernel
theorem x_201_26 : Tr sc d 201 (26, [l0, l1, l2, l3, l4, l5, l6, l7, l8, l9, l10, l11, l12, l13, l14], [.int i2, .int i1, .ref k0], h) Q = ((okp h k0 11 && inb i1 (LN k0)) = true ∧ Tr sc d 201 (27, [l0, l1, l2, l3, l4, l5, l6, l7, l8, l9, l10, l11, l12, l13, l14], [], (sI h k0 i1.toNatClampNeg i2)) Q) := t_gd k_201_26 rfl
theorem k_201_27 : lk 201 27 = some (.aload_n 0, 28, 0, 0, .null) := by decide +kernel
theorem x_201_27 : Tr sc d 201 (27, [some (.ref xk), l1, l2, l3, l4, l5, l6, l7, l8, l9, l10, l11, l12, l13, l14], [], h) Q = Tr sc d 201 (28, [some (.ref xk), l1, l2, l3, l4, l5, l6, l7, l8, l9, l10, l11, l12, l13, l14], [.ref xk], h) Q := t_aload_n k_201_27 rfl
theorem k_201_28 : lk 201 28 = some (.getfield 72, 31, 10, 35, .null) := by decide +kernel
theorem x_201_28 : Tr sc d 201 (28, [l0, l1, l2, l3, l4, l5, l6, l7, l8, l9, l10, l11, l12, l13, l14], [.ref k0], h) Q = (okp h k0 10 = true ∧ ∃ q, hR h k0 35 = some q ∧ Tr sc d 201 (31, [l0, l1, l2, l3, l4, l5, l6, l7, l8, l9, l10, l11, l12, l13, l14], [.ref q], h) Q) := t_getr k_201_28
theorem k_201_31 : lk 201 31 = some (.iconst 0, 32, 0, 0, .int 0) := by decide +kernel
theorem x_201_31 : Tr sc d 201 (31, [l0, l1, l2, l3, l4, l5, l6, l7, l8, l9, l10, l11, l12, l13, l14], [.ref k0], h) Q = Tr sc d 201 (32, [l0, l1, l2, l3, l4, l5, l6, l7, l8, l9, l10, l11, l12, l13, l14], [.int 0, .ref k0], h) Q := t_go k_201_31 rfl
theorem k_201_32 : lk 201 32 = some (.lconst 1, 33, 0, 0, .long 1) := by decide +kernel
theorem x_201_32 : Tr sc d 201 (32, [l0, l1, l2, l3, l4, l5, l6, l7, l8, l9, l10, l11, l12, l13, l14], [.int i1, .ref k0], h) Q = Tr sc d 201 (33, [l0, l1, l2, l3, l4, l5, l6, l7, l8, l9, l10, l11, l12, l13, l14], [.long 1, .int i1, .ref k0], h) Q := t_go k_201_32 rfl
theorem k_201_33 : lk 201 33 = some (.lastore, 34, 0, 0, .null) := by decide +kernel
theorem x_201_33 : Tr sc d 201 (33, [l0, l1, l2, l3, l4, l5, l6, l7, l8, l9, l10, l11, l12, l13, l14], [.long j2, .int i1, .ref k0], h) Q = ((okp h k0 12 && inb i1 (LN k0)) = true ∧ Tr sc d 201 (34, [l0, l1, l2, l3, l4, l5, l6, l7, l8, l9, l10, l11, l12, l13, l14], [], (sL h k0 i1.toNatClampNeg j2)) Q) := t_gd k_201_33 rfl
theorem k_201_34 : lk 201 34 = some (.iconst 1, 35, 0, 0, .int 1) := by decide +kernel
theorem x_201_34 : Tr sc d 201 (34, [l0, l1, l2, l3, l4, l5, l6, l7, l8, l9, l10, l11, l12, l13, l14], [], h) Q = Tr sc d 201 (35, [l0, l1, l2, l3, l4, l5, l6, l7, l8, l9, l10, l11, l12, l13, l14], [.int 1], h) Q := t_go k_201_34 rfl
theorem k_201_35 : lk 201 35 = some (.istore_n 3, 36, 3, 0, .null) := by decide +kernel
theorem x_201_35 : Tr sc d 201 (35, [l0, l1, l2, l3, l4, l5, l6, l7, l8, l9, l10, l11, l12, l13, l14], [.int i0], h) Q = Tr sc d 201 (36, [l0, l1, cl2 l2, some (.int i0), l4, l5, l6, l7, l8, l9, l10, l11, l12, l13, l14], [], h) Q := t_istore_n k_201_35 (Nat.le_of_ble_eq_true rfl)
theorem k_201_36 : lk 201 36 = some (.iconst 0, 37, 0, 0, .int 0) := by decide +kernel
theorem x_201_36 : Tr sc d 201 (36, [l0, l1, l2, l3, l4, l5, l6, l7, l8, l9, l10, l11, l12, l13, l14], [], h) Q = Tr sc d 201 (37, [l0, l1, l2, l3, l4, l5, l6, l7, l8, l9, l10, l11, l12, l13, l14], [.int 0], h) Q := t_go k_201_36 rfl
theorem k_201_37 : lk 201 37 = some (.istore 4, 39, 4, 0, .null) := by decide +kernel
theorem x_201_37 : Tr sc d 201 (37, [l0, l1, l2, l3, l4, l5, l6, l7, l8, l9, l10, l11, l12, l13, l14], [.int i0], h) Q = Tr sc d 201 (39, [l0, l1, l2, cl2 l3, some (.int i0), l5, l6, l7, l8, l9, l10, l11, l12, l13, l14], [], h) Q := t_istore k_201_37 (Nat.le_of_ble_eq_true rfl)
theorem k_201_39 : lk 201 39 = some (.iload 4, 41, 4, 0, .null) := by decide +kernel
theorem x_201_39 : Tr sc d 201 (39, [l0, l1, l2, l3, some (.int x), l5, l6, l7, l8, l9, l10, l11, l12, l13, l14], [], h) Q = Tr sc d 201 (41, [l0, l1, l2, l3, some (.int x), l5, l6, l7, l8, l9, l10, l11, l12, l13, l14], [.int x], h) Q := t_iload k_201_39 rfl
theorem k_201_41 : lk 201 41 = some (.iload_n 2, 42, 2, 0, .null) := by decide +kernel
theorem x_201_41 : Tr sc d 201 (41, [l0, l1, some (.int x), l3, l4, l5, l6, l7, l8, l9, l10, l11, l12, l13, l14], [.int i0], h) Q = Tr sc d 201 (42, [l0, l1, some (.int x), l3, l4, l5, l6, l7, l8, l9, l10, l11, l12, l13, l14], [.int x, .int i0], h) Q := t_iload_n k_201_41 rfl
theorem k_201_42 : lk 201 42 = some (.if_icmp .ge 360, 45, 402, 0, .null) := by decide +kernel
theorem x_201_42 : Tr sc d 201 (42, [l0, l1, l2, l3, l4, l5, l6, l7, l8, l9, l10, l11, l12, l13, l14], [.int i1, .int i0], h) Q = if i1 ≤ i0 then Tr sc d 201 (402, [l0, l1, l2, l3, l4, l5, l6, l7, l8, l9, l10, l11, l12, l13, l14], [], h) Q else Tr sc d 201 (45, [l0, l1, l2, l3, l4, l5, l6, l7, l8, l9, l10, l11, l12, l13, l14], [], h) Q := t_if k_201_42 rfl
theorem k_201_45 : lk 201 45 = some (.aload_n 0, 46, 0, 0, .null) := by decide +kernel
theorem x_201_45 : Tr sc d 201 (45, [some (.ref xk), l1, l2, l3, l4, l5, l6, l7, l8, l9, l10, l11, l12, l13, l14], [], h) Q = Tr sc d 201 (46, [some (.ref xk), l1, l2, l3, l4, l5, l6, l7, l8, l9, l10, l11, l12, l13, l14], [.ref xk], h) Q := t_aload_n k_201_45 rfl
theorem k_201_46 : lk 201 46 = some (.getfield 270, 49, 10, 31, .int 0) := by decide +kernel
theorem x_201_46 : Tr sc d 201 (46, [l0, l1, l2, l3, l4, l5, l6, l7, l8, l9, l10, l11, l12, l13, l14], [.ref k0], h) Q = (okp h k0 10 = true ∧ Tr sc d 201 (49, [l0, l1, l2, l3, l4, l5, l6, l7, l8, l9, l10, l11, l12, l13, l14], [.int (hI h k0 31)], h) Q) := t_gd k_201_46 rfl
theorem k_201_49 : lk 201 49 = some (.istore 5, 51, 5, 0, .null) := by decide +kernel
theorem x_201_49 : Tr sc d 201 (49, [l0, l1, l2, l3, l4, l5, l6, l7, l8, l9, l10, l11, l12, l13, l14], [.int i0], h) Q = Tr sc d 201 (51, [l0, l1, l2, l3, cl2 l4, some (.int i0), l6, l7, l8, l9, l10, l11, l12, l13, l14], [], h) Q := t_istore k_201_49 (Nat.le_of_ble_eq_true rfl)
theorem k_201_51 : lk 201 51 = some (.iload 5, 53, 5, 0, .null) := by decide +kernel
theorem x_201_51 : Tr sc d 201 (51, [l0, l1, l2, l3, l4, some (.int x), l6, l7, l8, l9, l10, l11, l12, l13, l14], [], h) Q = Tr sc d 201 (53, [l0, l1, l2, l3, l4, some (.int x), l6, l7, l8, l9, l10, l11, l12, l13, l14], [.int x], h) Q := t_iload k_201_51 rfl
theorem k_201_53 : lk 201 53 = some (.aload_n 0, 54, 0, 0, .null) := by decide +kernel
theorem x_201_53 : Tr sc d 201 (53, [some (.ref xk), l1, l2, l3, l4, l5, l6, l7, l8, l9, l10, l11, l12, l13, l14], [.int i0], h) Q = Tr sc d 201 (54, [some (.ref xk), l1, l2, l3, l4, l5, l6, l7, l8, l9, l10, l11, l12, l13, l14], [.ref xk, .int i0], h) Q := t_aload_n k_201_53 rfl
theorem k_201_54 : lk 201 54 = some (.getfield 41, 57, 10, 18, .null) := by decide +kernel
theorem x_201_54 : Tr sc d 201 (54, [l0, l1, l2, l3, l4, l5, l6, l7, l8, l9, l10, l11, l12, l13, l14], [.ref k1, .int i0], h) Q = (okp h k1 10 = true ∧ ∃ q, hR h k1 18 = some q ∧ Tr sc d 201 (57, [l0, l1, l2, l3, l4, l5, l6, l7, l8, l9, l10, l11, l12, l13, l14], [.ref q, .int i0], h) Q) := t_getr k_201_54
theorem k_201_57 : lk 201 57 = some (.iload_n 1, 58, 1, 0, .null) := by decide +kernel
theorem x_201_57 : Tr sc d 201 (57, [l0, some (.int x), l2, l3, l4, l5, l6, l7, l8, l9, l10, l11, l12, l13, l14], [.ref k1, .int i0], h) Q = Tr sc d 201 (58, [l0, some (.int x), l2, l3, l4, l5, l6, l7, l8, l9, l10, l11, l12, l13, l14], [.int x, .ref k1, .int i0], h) Q := t_iload_n k_201_57 rfl
theorem k_201_58 : lk 201 58 = some (.iaload, 59, 0, 0, .null) := by decide +kernel
theorem x_201_58 : Tr sc d 201 (58, [l0, l1, l2, l3, l4, l5, l6, l7, l8, l9, l10, l11, l12, l13, l14], [.int i2, .ref k1, .int i0], h) Q = (iOk sc h k1 i2 ∧ Tr sc d 201 (59, [l0, l1, l2, l3, l4, l5, l6, l7, l8, l9, l10, l11, l12, l13, l14], [.int (iRd sc h k1 i2), .int i0], h) Q) := t_iald k_201_58
theorem k_201_59 : lk 201 59 = some (.imul, 60, 0, 0, .null) := by decide +kernel
theorem x_201_59 : Tr sc d 201 (59, [l0, l1, l2, l3, l4, l5, l6, l7, l8, l9, l10, l11, l12, l13, l14], [.int i1, .int i0], h) Q = Tr sc d 201 (60, [l0, l1, l2, l3, l4, l5, l6, l7, l8, l9, l10, l11, l12, l13, l14], [.int (i0 * i1)], h) Q := t_go k_201_59 rfl
theorem k_201_60 : lk 201 60 = some (.istore 6, 62, 6, 0, .null) := by decide +kernel
theorem x_201_60 : Tr sc d 201 (60, [l0, l1, l2, l3, l4, l5, l6, l7, l8, l9, l10, l11, l12, l13, l14], [.int i0], h) Q = Tr sc d 201 (62, [l0, l1, l2, l3, l4, cl2 l5, some (.int i0), l7, l8, l9, l10, l11, l12, l13, l14], [], h) Q := t_istore k_201_60 (Nat.le_of_ble_eq_true rfl)
theorem k_201_62 : lk 201 62 = some (.iload 5, 64, 5, 0, .null) := by decide +kernel
theorem x_201_62 : Tr sc d 201 (62, [l0, l1, l2, l3, l4, some (.int x), l6, l7, l8, l9, l10, l11, l12, l13, l14], [], h) Q = Tr sc d 201 (64, [l0, l1, l2, l3, l4, some (.int x), l6, l7, l8, l9, l10, l11, l12, l13, l14], [.int x], h) Q := t_iload k_201_62 rfl
theorem k_201_64 : lk 201 64 = some (.iconst 1, 65, 0, 0, .int 1) := by decide +kernel
theorem x_201_64 : Tr sc d 201 (64, [l0, l1, l2, l3, l4, l5, l6, l7, l8, l9, l10, l11, l12, l13, l14], [.int i0], h) Q = Tr sc d 201 (65, [l0, l1, l2, l3, l4, l5, l6, l7, l8, l9, l10, l11, l12, l13, l14], [.int 1, .int i0], h) Q := t_go k_201_64 rfl
theorem k_201_65 : lk 201 65 = some (.isub, 66, 0, 0, .null) := by decide +kernel
theorem x_201_65 : Tr sc d 201 (65, [l0, l1, l2, l3, l4, l5, l6, l7, l8, l9, l10, l11, l12, l13, l14], [.int i1, .int i0], h) Q = Tr sc d 201 (66, [l0, l1, l2, l3, l4, l5, l6, l7, l8, l9, l10, l11, l12, l13, l14], [.int (i0 - i1)], h) Q := t_go k_201_65 rfl
theorem k_201_66 : lk 201 66 = some (.istore 7, 68, 7, 0, .null) := by decide +kernel
theorem x_201_66 : Tr sc d 201 (66, [l0, l1, l2, l3, l4, l5, l6, l7, l8, l9, l10, l11, l12, l13, l14], [.int i0], h) Q = Tr sc d 201 (68, [l0, l1, l2, l3, l4, l5, cl2 l6, some (.int i0), l8, l9, l10, l11, l12, l13, l14], [], h) Q := t_istore k_201_66 (Nat.le_of_ble_eq_true rfl)
theorem k_201_68 : lk 201 68 = some (.iload 7, 70, 7, 0, .null) := by decide +kernel
theorem x_201_68 : Tr sc d 201 (68, [l0, l1, l2, l3, l4, l5, l6, some (.int x), l8, l9, l10, l11, l12, l13, l14], [], h) Q = Tr sc d 201 (70, [l0, l1, l2, l3, l4, l5, l6, some (.int x), l8, l9, l10, l11, l12, l13, l14], [.int x], h) Q := t_iload k_201_68 rfl
theorem k_201_70 : lk 201 70 = some (.ifCond .lt 203, 73, 273, 0, .null) := by decide +kernel
theorem x_201_70 : Tr sc d 201 (70, [l0, l1, l2, l3, l4, l5, l6, l7, l8, l9, l10, l11, l12, l13, l14], [.int i0], h) Q = if i0 < 0 then Tr sc d 201 (273, [l0, l1, l2, l3, l4, l5, l6, l7, l8, l9, l10, l11, l12, l13, l14], [], h) Q else Tr sc d 201 (73, [l0, l1, l2, l3, l4, l5, l6, l7, l8, l9, l10, l11, l12, l13, l14], [], h) Q := t_if k_201_70 rfl
theorem k_201_73 : lk 201 73 = some (.aload_n 0, 74, 0, 0, .null) := by decide +kernel
theorem x_201_73 : Tr sc d 201 (73, [some (.ref xk), l1, l2, l3, l4, l5, l6, l7, l8, l9, l10, l11, l12, l13, l14], [], h) Q = Tr sc d 201 (74, [some (.ref xk), l1, l2, l3, l4, l5, l6, l7, l8, l9, l10, l11, l12, l13, l14], [.ref xk], h) Q := t_aload_n k_201_73 rfl
theorem k_201_74 : lk 201 74 = some (.getfield 63, 77, 10, 32, .null) := by decide +kernel
theorem x_201_74 : Tr sc d 201 (74, [l0, l1, l2, l3, l4, l5, l6, l7, l8, l9, l10, l11, l12, l13, l14], [.ref k0], h) Q = (okp h k0 10 = true ∧ ∃ q, hR h k0 32 = some q ∧ Tr sc d 201 (77, [l0, l1, l2, l3, l4, l5, l6, l7, l8, l9, l10, l11, l12, l13, l14], [.ref q], h) Q) := t_getr k_201_74
theorem k_201_77 : lk 201 77 = some (.iload 7, 79, 7, 0, .null) := by decide +kernel
theorem x_201_77 : Tr sc d 201 (77, [l0, l1, l2, l3, l4, l5, l6, some (.int x), l8, l9, l10, l11, l12, l13, l14], [.ref k0], h) Q = Tr sc d 201 (79, [l0, l1, l2, l3, l4, l5, l6, some (.int x), l8, l9, l10, l11, l12, l13, l14], [.int x, .ref k0], h) Q := t_iload k_201_77 rfl
theorem k_201_79 : lk 201 79 = some (.iaload, 80, 0, 0, .null) := by decide +kernel
theorem x_201_79 : Tr sc d 201 (79, [l0, l1, l2, l3, l4, l5, l6, l7, l8, l9, l10, l11, l12, l13, l14], [.int i1, .ref k0], h) Q = (iOk sc h k0 i1 ∧ Tr sc d 201 (80, [l0, l1, l2, l3, l4, l5, l6, l7, l8, l9, l10, l11, l12, l13, l14], [.int (iRd sc h k0 i1)], h) Q) := t_iald k_201_79
theorem k_201_80 : lk 201 80 = some (.istore 8, 82, 8, 0, .null) := by decide +kernel
theorem x_201_80 : Tr sc d 201 (80, [l0, l1, l2, l3, l4, l5, l6, l7, l8, l9, l10, l11, l12, l13, l14], [.int i0], h) Q = Tr sc d 201 (82, [l0, l1, l2, l3, l4, l5, l6, cl2 l7, some (.int i0), l9, l10, l11, l12, l13, l14], [], h) Q := t_istore k_201_80 (Nat.le_of_ble_eq_true rfl)
theorem k_201_82 : lk 201 82 = some (.aload_n 0, 83, 0, 0, .null) := by decide +kernel
theorem x_201_82 : Tr sc d 201 (82, [some (.ref xk), l1, l2, l3, l4, l5, l6, l7, l8, l9, l10, l11, l12, l13, l14], [], h) Q = Tr sc d 201 (83, [some (.ref xk), l1, l2, l3, l4, l5, l6, l7, l8, l9, l10, l11, l12, l13, l14], [.ref xk], h) Q := t_aload_n k_201_82 rfl
theorem k_201_83 : lk 201 83 = some (.getfield 66, 86, 10, 33, .null) := by decide +kernel
theorem x_201_83 : Tr sc d 201 (83, [l0, l1, l2, l3, l4, l5, l6, l7, l8, l9, l10, l11, l12, l13, l14], [.ref k0], h) Q = (okp h k0 10 = true ∧ ∃ q, hR h k0 33 = some q ∧ Tr sc d 201 (86, [l0, l1, l2, l3, l4, l5, l6, l7, l8, l9, l10, l11, l12, l13, l14], [.ref q], h) Q) := t_getr k_201_83
theorem k_201_86 : lk 201 86 = some (.iload 7, 88, 7, 0, .null) := by decide +kernel
theorem x_201_86 : Tr sc d 201 (86, [l0, l1, l2, l3, l4, l5, l6, some (.int x), l8, l9, l10, l11, l12, l13, l14], [.ref k0], h) Q = Tr sc d 201 (88, [l0, l1, l2, l3, l4, l5, l6, some (.int x), l8, l9, l10, l11, l12, l13, l14], [.int x, .ref k0], h) Q := t_iload k_201_86 rfl
theorem k_201_88 : lk 201 88 = some (.iaload, 89, 0, 0, .null) := by decide +kernel
theorem x_201_88 : Tr sc d 201 (88, [l0, l1, l2, l3, l4, l5, l6, l7, l8, l9, l10, l11, l12, l13, l14], [.int i1, .ref k0], h) Q = (iOk sc h k0 i1 ∧ Tr sc d 201 (89, [l0, l1, l2, l3, l4, l5, l6, l7, l8, l9, l10, l11, l12, l13, l14], [.int (iRd sc h k0 i1)], h) Q) := t_iald k_201_88
theorem k_201_89 : lk 201 89 = some (.istore 9, 91, 9, 0, .null) := by decide +kernel
theorem x_201_89 : Tr sc d 201 (89, [l0, l1, l2, l3, l4, l5, l6, l7, l8, l9, l10, l11, l12, l13, l14], [.int i0], h) Q = Tr sc d 201 (91, [l0, l1, l2, l3, l4, l5, l6, l7, cl2 l8, some (.int i0), l10, l11, l12, l13, l14], [], h) Q := t_istore k_201_89 (Nat.le_of_ble_eq_true rfl)
theorem k_201_91 : lk 201 91 = some (.aload_n 0, 92, 0, 0, .null) := by decide +kernel
theorem x_201_91 : Tr sc d 201 (91, [some (.ref xk), l1, l2, l3, l4, l5, l6, l7, l8, l9, l10, l11, l12, l13, l14], [], h) Q = Tr sc d 201 (92, [some (.ref xk), l1, l2, l3, l4, l5, l6, l7, l8, l9, l10, l11, l12, l13, l14], [.ref xk], h) Q := t_aload_n k_201_91 rfl
theorem k_201_92 : lk 201 92 = some (.getfield 69, 95, 10, 34, .null) := by decide +kernel
theorem x_201_92 : Tr sc d 201 (92, [l0, l1, l2, l3, l4, l5, l6, l7, l8, l9, l10, l11, l12, l13, l14], [.ref k0], h) Q = (okp h k0 10 = true ∧ ∃ q, hR h k0 34 = some q ∧ Tr sc d 201 (95, [l0, l1, l2, l3, l4, l5, l6, l7, l8, l9, l10, l11, l12, l13, l14], [.ref q], h) Q) := t_getr k_201_92
theorem k_201_95 : lk 201 95 = some (.iload 7, 97, 7, 0, .null) := by decide +kernel
theorem x_201_95 : Tr sc d 201 (95, [l0, l1, l2, l3, l4, l5, l6, some (.int x), l8, l9, l10, l11, l12, l13, l14], [.ref k0], h) Q = Tr sc d 201 (97, [l0, l1, l2, l3, l4, l5, l6, some (.int x), l8, l9, l10, l11, l12, l13, l14], [.int x, .ref k0], h) Q := t_iload k_201_95 rfl
theorem k_201_97 : lk 201 97 = some (.iaload, 98, 0, 0, .null) := by decide +kernel
theorem x_201_97 : Tr sc d 201 (97, [l0, l1, l2, l3, l4, l5, l6, l7, l8, l9, l10, l11, l12, l13, l14], [.int i1, .ref k0], h) Q = (iOk sc h k0 i1 ∧ Tr sc d 201 (98, [l0, l1, l2, l3, l4, l5, l6, l7, l8, l9, l10, l11, l12, l13, l14], [.int (iRd sc h k0 i1)], h) Q) := t_iald k_201_97
theorem k_201_98 : lk 201 98 = some (.istore 10, 100, 10, 0, .null) := by decide +kernel
theorem x_201_98 : Tr sc d 201 (98, [l0, l1, l2, l3, l4, l5, l6, l7, l8, l9, l10, l11, l12, l13, l14], [.int i0], h) Q = Tr sc d 201 (100, [l0, l1, l2, l3, l4, l5, l6, l7, l8, cl2 l9, some (.int i0), l11, l12, l13, l14], [], h) Q := t_istore k_201_98 (Nat.le_of_ble_eq_true rfl)
theorem k_201_100 : lk 201 100 = some (.aload_n 0, 101, 0, 0, .null) := by decide +kernel
theorem x_201_100 : Tr sc d 201 (100, [some (.ref xk), l1, l2, l3, l4, l5, l6, l7, l8, l9, l10, l11, l12, l13, l14], [], h) Q = Tr sc d 201 (101, [some (.ref xk), l1, l2, l3, l4, l5, l6, l7, l8, l9, l10, l11, l12, l13, l14], [.ref xk], h) Q := t_aload_n k_201_100 rfl
theorem k_201_101 : lk 201 101 = some (.getfield 72, 104, 10, 35, .null) := by decide +kernel
theorem x_201_101 : Tr sc d 201 (101, [l0, l1, l2, l3, l4, l5, l6, l7, l8, l9, l10, l11, l12, l13, l14], [.ref k0], h) Q = (okp h k0 10 = true ∧ ∃ q, hR h k0 35 = some q ∧ Tr sc d 201 (104, [l0, l1, l2, l3, l4, l5, l6, l7, l8, l9, l10, l11, l12, l13, l14], [.ref q], h) Q) := t_getr k_201_101
theorem k_201_104 : lk 201 104 = some (.iload 7, 106, 7, 0, .null) := by decide +kernel
theorem x_201_104 : Tr sc d 201 (104, [l0, l1, l2, l3, l4, l5, l6, some (.int x), l8, l9, l10, l11, l12, l13, l14], [.ref k0], h) Q = Tr sc d 201 (106, [l0, l1, l2, l3, l4, l5, l6, some (.int x), l8, l9, l10, l11, l12, l13, l14], [.int x, .ref k0], h) Q := t_iload k_201_104 rfl
theorem k_201_106 : lk 201 106 = some (.laload, 107, 0, 0, .null) := by decide +kernel
theorem x_201_106 : Tr sc d 201 (106, [l0, l1, l2, l3, l4, l5, l6, l7, l8, l9, l10, l11, l12, l13, l14], [.int i1, .ref k0], h) Q = ((okp h k0 12 && inb i1 (LN k0)) = true ∧ Tr sc d 201 (107, [l0, l1, l2, l3, l4, l5, l6, l7, l8, l9, l10, l11, l12, l13, l14], [.long (hL h k0 i1.toNatClampNeg)], h) Q) := t_gd k_201_106 rfl
theorem k_201_107 : lk 201 107 = some (.lstore 11, 109, 11, 0, .null) := by decide +kernel
theorem x_201_107 : Tr sc d 201 (107, [l0, l1, l2, l3, l4, l5, l6, l7, l8, l9, l10, l11, l12, l13, l14], [.long j0], h) Q = Tr sc d 201 (109, [l0, l1, l2, l3, l4, l5, l6, l7, l8, l9, cl2 l10, some (.long j0), none, l13, l14], [], h) Q := t_lstore k_201_107 (Nat.le_of_ble_eq_true rfl)
theorem k_201_109 : lk 201 109 = some (.aload_n 0, 110, 0, 0, .null) := by decide +kernel
theorem x_201_109 : Tr sc d 201 (109, [some (.ref xk), l1, l2, l3, l4, l5, l6, l7, l8, l9, l10, l11, l12, l13, l14], [], h) Q = Tr sc d 201 (110, [some (.ref xk), l1, l2, l3, l4, l5, l6, l7, l8, l9, l10, l11, l12, l13, l14], [.ref xk], h) Q := t_aload_n k_201_109 rfl
theorem k_201_110 : lk 201 110 = some (.getfield 41, 113, 10, 18, .null) := by decide +kernel
theorem x_201_110 : Tr sc d 201 (110, [l0, l1, l2, l3, l4, l5, l6, l7, l8, l9, l10, l11, l12, l13, l14], [.ref k0], h) Q = (okp h k0 10 = true ∧ ∃ q, hR h k0 18 = some q ∧ Tr sc d 201 (113, [l0, l1, l2, l3, l4, l5, l6, l7, l8, l9, l10, l11, l12, l13, l14], [.ref q], h) Q) := t_getr k_201_110
theorem k_201_113 : lk 201 113 = some (.iload_n 1, 114, 1, 0, .null) := by decide +kernel
theorem x_201_113 : Tr sc d 201 (113, [l0, some (.int x), l2, l3, l4, l5, l6, l7, l8, l9, l10, l11, l12, l13, l14], [.ref k0], h) Q = Tr sc d 201 (114, [l0, some (.int x), l2, l3, l4, l5, l6, l7, l8, l9, l10, l11, l12, l13, l14], [.int x, .ref k0], h) Q := t_iload_n k_201_113 rfl
theorem k_201_114 : lk 201 114 = some (.iaload, 115, 0, 0, .null) := by decide +kernel
theorem x_201_114 : Tr sc d 201 (114, [l0, l1, l2, l3, l4, l5, l6, l7, l8, l9, l10, l11, l12, l13, l14], [.int i1, .ref k0], h) Q = (iOk sc h k0 i1 ∧ Tr sc d 201 (115, [l0, l1, l2, l3, l4, l5, l6, l7, l8, l9, l10, l11, l12, l13, l14], [.int (iRd sc h k0 i1)], h) Q) := t_iald k_201_114
theorem k_201_115 : lk 201 115 = some (.iconst 1, 116, 0, 0, .int 1) := by decide +kernel
theorem x_201_115 : Tr sc d 201 (115, [l0, l1, l2, l3, l4, l5, l6, l7, l8, l9, l10, l11, l12, l13, l14], [.int i0], h) Q = Tr sc d 201 (116, [l0, l1, l2, l3, l4, l5, l6, l7, l8, l9, l10, l11, l12, l13, l14], [.int 1, .int i0], h) Q := t_go k_201_115 rfl
theorem k_201_116 : lk 201 116 = some (.isub, 117, 0, 0, .null) := by decide +kernel
theorem x_201_116 : Tr sc d 201 (116, [l0, l1, l2, l3, l4, l5, l6, l7, l8, l9, l10, l11, l12, l13, l14], [.int i1, .int i0], h) Q = Tr sc d 201 (117, [l0, l1, l2, l3, l4, l5, l6, l7, l8, l9, l10, l11, l12, l13, l14], [.int (i0 - i1)], h) Q := t_go k_201_116 rfl
theorem k_201_117 : lk 201 117 = some (.istore 13, 119, 13, 0, .null) := by decide +kernel
theorem x_201_117 : Tr sc d 201 (117, [l0, l1, l2, l3, l4, l5, l6, l7, l8, l9, l10, l11, l12, l13, l14], [.int i0], h) Q = Tr sc d 201 (119, [l0, l1, l2, l3, l4, l5, l6, l7, l8, l9, l10, l11, cl2 l12, some (.int i0), l14], [], h) Q := t_istore k_201_117 (Nat.le_of_ble_eq_true rfl)
theorem k_201_119 : lk 201 119 = some (.iload 13, 121, 13, 0, .null) := by decide +kernel
theorem x_201_119 : Tr sc d 201 (119, [l0, l1, l2, l3, l4, l5, l6, l7, l8, l9, l10, l11, l12, some (.int x), l14], [], h) Q = Tr sc d 201 (121, [l0, l1, l2, l3, l4, l5, l6, l7, l8, l9, l10, l11, l12, some (.int x), l14], [.int x], h) Q := t_iload k_201_119 rfl
theorem k_201_121 : lk 201 121 = some (.ifCond .lt 146, 124, 267, 0, .null) := by decide +kernel
theorem x_201_121 : Tr sc d 201 (121, [l0, l1, l2, l3, l4, l5, l6, l7, l8, l9, l10, l11, l12, l13, l14], [.int i0], h) Q = if i0 < 0 then Tr sc d 201 (267, [l0, l1, l2, l3, l4, l5, l6, l7, l8, l9, l10, l11, l12, l13, l14], [], h) Q else Tr sc d 201 (124, [l0, l1, l2, l3, l4, l5, l6, l7, l8, l9, l10, l11, l12, l13, l14], [], h) Q := t_if k_201_121 rfl
theorem k_201_124 : lk 201 124 = some (.iinc 6 (-1), 127, 6, 0, .int (-1)) := by decide +kernel
theorem x_201_124 : Tr sc d 201 (124, [l0, l1, l2, l3, l4, l5, some (.int x), l7, l8, l9, l10, l11, l12, l13, l14], [], h) Q = Tr sc d 201 (127, [l0, l1, l2, l3, l4, cl2 l5, some (.int (x + (-1))), l7, l8, l9, l10, l11, l12, l13, l14], [], h) Q := t_inc k_201_124 rfl (Nat.le_of_ble_eq_true rfl)
theorem k_201_127 : lk 201 127 = some (.bipush 6, 129, 0, 0, .int 6) := by decide +kernel
theorem x_201_127 : Tr sc d 201 (127, [l0, l1, l2, l3, l4, l5, l6, l7, l8, l9, l10, l11, l12, l13, l14], [], h) Q = Tr sc d 201 (129, [l0, l1, l2, l3, l4, l5, l6, l7, l8, l9, l10, l11, l12, l13, l14], [.int 6], h) Q := t_go k_201_127 rfl
theorem k_201_129 : lk 201 129 = some (.iload_n 1, 130, 1, 0, .null) := by decide +kernel
theorem x_201_129 : Tr sc d 201 (129, [l0, some (.int x), l2, l3, l4, l5, l6, l7, l8, l9, l10, l11, l12, l13, l14], [.int i0], h) Q = Tr sc d 201 (130, [l0, some (.int x), l2, l3, l4, l5, l6, l7, l8, l9, l10, l11, l12, l13, l14], [.int x, .int i0], h) Q := t_iload_n k_201_129 rfl
theorem k_201_130 : lk 201 130 = some (.imul, 131, 0, 0, .null) := by decide +kernel
theorem x_201_130 : Tr sc d 201 (130, [l0, l1, l2, l3, l4, l5, l6, l7, l8, l9, l10, l11, l12, l13, l14], [.int i1, .int i0], h) Q = Tr sc d 201 (131, [l0, l1, l2, l3, l4, l5, l6, l7, l8, l9, l10, l11, l12, l13, l14], [.int (i0 * i1)], h) Q := t_go k_201_130 rfl
theorem k_201_131 : lk 201 131 = some (.iload 13, 133, 13, 0, .null) := by decide +kernel
theorem x_201_131 : Tr sc d 201 (131, [l0, l1, l2, l3, l4, l5, l6, l7, l8, l9, l10, l11, l12, some (.int x), l14], [.int i0], h) Q = Tr sc d 201 (133, [l0, l1, l2, l3, l4, l5, l6, l7, l8, l9, l10, l11, l12, some (.int x), l14], [.int x, .int i0], h) Q := t_iload k_201_131 rfl
theorem k_201_133 : lk 201 133 = some (.iadd, 134, 0, 0, .null) := by decide +kernel
theorem x_201_133 : Tr sc d 201 (133, [l0, l1, l2, l3, l4, l5, l6, l7, l8, l9, l10, l11, l12, l13, l14], [.int i1, .int i0], h) Q = Tr sc d 201 (134, [l0, l1, l2, l3, l4, l5, l6, l7, l8, l9, l10, l11, l12, l13, l14], [.int (i0 + i1)], h) Q := t_go k_201_133 rfl
theorem k_201_134 : lk 201 134 = some (.istore 14, 136, 14, 0, .null) := by decide +kernel
theorem x_201_134 : Tr sc d 201 (134, [l0, l1, l2, l3, l4, l5, l6, l7, l8, l9, l10, l11, l12, l13, l14], [.int i0], h) Q = Tr sc d 201 (136, [l0, l1, l2, l3, l4, l5, l6, l7, l8, l9, l10, l11, l12, cl2 l13, some (.int i0)], [], h) Q := t_istore k_201_134 (Nat.le_of_ble_eq_true rfl)
theorem k_201_136 : lk 201 136 = some (.aload_n 0, 137, 0, 0, .null) := by decide +kernel
theorem x_201_136 : Tr sc d 201 (136, [some (.ref xk), l1, l2, l3, l4, l5, l6, l7, l8, l9, l10, l11, l12, l13, l14], [], h) Q = Tr sc d 201 (137, [some (.ref xk), l1, l2, l3, l4, l5, l6, l7, l8, l9, l10, l11, l12, l13, l14], [.ref xk], h) Q := t_aload_n k_201_136 rfl
theorem k_201_137 : lk 201 137 = some (.getfield 63, 140, 10, 32, .null) := by decide +kernel
theorem x_201_137 : Tr sc d 201 (137, [l0, l1, l2, l3, l4, l5, l6, l7, l8, l9, l10, l11, l12, l13, l14], [.ref k0], h) Q = (okp h k0 10 = true ∧ ∃ q, hR h k0 32 = some q ∧ Tr sc d 201 (140, [l0, l1, l2, l3, l4, l5, l6, l7, l8, l9, l10, l11, l12, l13, l14], [.ref q], h) Q) := t_getr k_201_137
theorem k_201_140 : lk 201 140 = some (.iload 6, 142, 6, 0, .null) := by decide +kernel
theorem x_201_140 : Tr sc d 201 (140, [l0, l1, l2, l3, l4, l5, some (.int x), l7, l8, l9, l10, l11, l12, l13, l14], [.ref k0], h) Q = Tr sc d 201 (142, [l0, l1, l2, l3, l4, l5, some (.int x), l7, l8, l9, l10, l11, l12, l13, l14], [.int x, .ref k0], h) Q := t_iload k_201_140 rfl
theorem k_201_142 : lk 201 142 = some (.aload_n 0, 143, 0, 0, .null) := by decide +kernel
theorem x_201_142 : Tr sc d 201 (142, [some (.ref xk), l1, l2, l3, l4, l5, l6, l7, l8, l9, l10, l11, l12, l13, l14], [.int i1, .ref k0], h) Q = Tr sc d 201 (143, [some (.ref xk), l1, l2, l3, l4, l5, l6, l7, l8, l9, l10, l11, l12, l13, l14], [.ref xk, .int i1, .ref k0], h) Q := t_aload_n k_201_142 rfl
theorem k_201_143 : lk 201 143 = some (.getfield 44, 146, 10, 19, .null) := by decide +kernel
theorem x_201_143 : Tr sc d 201 (143, [l0, l1, l2, l3, l4, l5, l6, l7, l8, l9, l10, l11, l12, l13, l14], [.ref k2, .int i1, .ref k0], h) Q = (okp h k2 10 = true ∧ ∃ q, hR h k2 19 = some q ∧ Tr sc d 201 (146, [l0, l1, l2, l3, l4, l5, l6, l7, l8, l9, l10, l11, l12, l13, l14], [.ref q, .int i1, .ref k0], h) Q) := t_getr k_201_143
theorem k_201_146 : lk 201 146 = some (.iload 14, 148, 14, 0, .null) := by decide +kernel
theorem x_201_146 : Tr sc d 201 (146, [l0, l1, l2, l3, l4, l5, l6, l7, l8, l9, l10, l11, l12, l13, some (.int x)], [.ref k2, .int i1, .ref k0], h) Q = Tr sc d 201 (148, [l0, l1, l2, l3, l4, l5, l6, l7, l8, l9, l10, l11, l12, l13, some (.int x)], [.int x, .ref k2, .int i1, .ref k0], h) Q := t_iload k_201_146 rfl
theorem k_201_148 : lk 201 148 = some (.iaload, 149, 0, 0, .null) := by decide +kernel
theorem x_201_148 : Tr sc d 201 (148, [l0, l1, l2, l3, l4, l5, l6, l7, l8, l9, l10, l11, l12, l13, l14], [.int i3, .ref k2, .int i1, .ref k0], h) Q = (iOk sc h k2 i3 ∧ Tr sc d 201 (149, [l0, l1, l2, l3, l4, l5, l6, l7, l8, l9, l10, l11, l12, l13, l14], [.int (iRd sc h k2 i3), .int i1, .ref k0], h) Q) := t_iald k_201_148
theorem k_201_149 : lk 201 149 = some (.iload 8, 151, 8, 0, .null) := by decide +kernel
theorem x_201_149 : Tr sc d 201 (149, [l0, l1, l2, l3, l4, l5, l6, l7, some (.int x), l9, l10, l11, l12, l13, l14], [.int i2, .int i1, .ref k0], h) Q = Tr sc d 201 (151, [l0, l1, l2, l3, l4, l5, l6, l7, some (.int x), l9, l10, l11, l12, l13, l14], [.int x, .int i2, .int i1, .ref k0], h) Q := t_iload k_201_149 rfl
theorem k_201_151 : lk 201 151 = some (.iload 9, 153, 9, 0, .null) := by decide +kernel
theorem x_201_151 : Tr sc d 201 (151, [l0, l1, l2, l3, l4, l5, l6, l7, l8, some (.int x), l10, l11, l12, l13, l14], [.int i3, .int i2, .int i1, .ref k0], h) Q = Tr sc d 201 (153, [l0, l1, l2, l3, l4, l5, l6, l7, l8, some (.int x), l10, l11, l12, l13, l14], [.int x, .int i3, .int i2, .int i1, .ref k0], h) Q := t_iload k_201_151 rfl
theorem k_201_153 : lk 201 153 = some (.invokestatic 250, 156, 177, 3, .null) := by decide +kernel
theorem x_201_153 : Tr sc (d + 1) 201 (153, [l0, l1, l2, l3, l4, l5, l6, l7, l8, l9, l10, l11, l12, l13, l14], [.int i4, .int i3, .int i2, .int i1, .ref k0], h) Q = Tr sc d 177 (ent0 177 [.int i2, .int i3, .int i4] h) (fun z => Tr sc (d + 1) 201 (156, [l0, l1, l2, l3, l4, l5, l6, l7, l8, l9, l10, l11, l12, l13, l14], z.1.toList ++ [.int i1, .ref k0], z.2) Q) := t_cs (as := [.int i2, .int i3, .int i4]) (r := [.int i1, .ref k0]) k_201_153 (by decide) rfl rfl (Nat.le_of_ble_eq_true rfl) (Nat.le_of_ble_eq_true rfl)
theorem k_201_156 : lk 201 156 = some (.iload_n 3, 157, 3, 0, .null) := by decide +kernel
theorem x_201_156 : Tr sc d 201 (156, [l0, l1, l2, some (.int x), l4, l5, l6, l7, l8, l9, l10, l11, l12, l13, l14], [.int i2, .int i1, .ref k0], h) Q = Tr sc d 201 (157, [l0, l1, l2, some (.int x), l4, l5, l6, l7, l8, l9, l10, l11, l12, l13, l14], [.int x, .int i2, .int i1, .ref k0], h) Q := t_iload_n k_201_156 rfl
theorem k_201_157 : lk 201 157 = some (.aload_n 0, 158, 0, 0, .null) := by decide +kernel
theorem x_201_157 : Tr sc d 201 (157, [some (.ref xk), l1, l2, l3, l4, l5, l6, l7, l8, l9, l10, l11, l12, l13, l14], [.int i3, .int i2, .int i1, .ref k0], h) Q = Tr sc d 201 (158, [some (.ref xk), l1, l2, l3, l4, l5, l6, l7, l8, l9, l10, l11, l12, l13, l14], [.ref xk, .int i3, .int i2, .int i1, .ref k0], h) Q := t_aload_n k_201_157 rfl
theorem k_201_158 : lk 201 158 = some (.getfield 47, 161, 10, 20, .null) := by decide +kernel
theorem x_201_158 : Tr sc d 201 (158, [l0, l1, l2, l3, l4, l5, l6, l7, l8, l9, l10, l11, l12, l13, l14], [.ref k4, .int i3, .int i2, .int i1, .ref k0], h) Q = (okp h k4 10 = true ∧ ∃ q, hR h k4 20 = some q ∧ Tr sc d 201 (161, [l0, l1, l2, l3, l4, l5, l6, l7, l8, l9, l10, l11, l12, l13, l14], [.ref q, .int i3, .int i2, .int i1, .ref k0], h) Q) := t_getr k_201_158
theorem k_201_161 : lk 201 161 = some (.iload 14, 163, 14, 0, .null) := by decide +kernel
theorem x_201_161 : Tr sc d 201 (161, [l0, l1, l2, l3, l4, l5, l6, l7, l8, l9, l10, l11, l12, l13, some (.int x)], [.ref k4, .int i3, .int i2, .int i1, .ref k0], h) Q = Tr sc d 201 (163, [l0, l1, l2, l3, l4, l5, l6, l7, l8, l9, l10, l11, l12, l13, some (.int x)], [.int x, .ref k4, .int i3, .int i2, .int i1, .ref k0], h) Q := t_iload k_201_161 rfl
theorem k_201_163 : lk 201 163 = some (.iaload, 164, 0, 0, .null) := by decide +kernel
theorem x_201_163 : Tr sc d 201 (163, [l0, l1, l2, l3, l4, l5, l6, l7, l8, l9, l10, l11, l12, l13, l14], [.int i5, .ref k4, .int i3, .int i2, .int i1, .ref k0], h) Q = (iOk sc h k4 i5 ∧ Tr sc d 201 (164, [l0, l1, l2, l3, l4, l5, l6, l7, l8, l9, l10, l11, l12, l13, l14], [.int (iRd sc h k4 i5), .int i3, .int i2, .int i1, .ref k0], h) Q) := t_iald k_201_163
theorem k_201_164 : lk 201 164 = some (.imul, 165, 0, 0, .null) := by decide +kernel
theorem x_201_164 : Tr sc d 201 (164, [l0, l1, l2, l3, l4, l5, l6, l7, l8, l9, l10, l11, l12, l13, l14], [.int i4, .int i3, .int i2, .int i1, .ref k0], h) Q = Tr sc d 201 (165, [l0, l1, l2, l3, l4, l5, l6, l7, l8, l9, l10, l11, l12, l13, l14], [.int (i3 * i4), .int i2, .int i1, .ref k0], h) Q := t_go k_201_164 rfl
theorem k_201_165 : lk 201 165 = some (.iadd, 166, 0, 0, .null) := by decide +kernel
theorem x_201_165 : Tr sc d 201 (165, [l0, l1, l2, l3, l4, l5, l6, l7, l8, l9, l10, l11, l12, l13, l14], [.int i3, .int i2, .int i1, .ref k0], h) Q = Tr sc d 201 (166, [l0, l1, l2, l3, l4, l5, l6, l7, l8, l9, l10, l11, l12, l13, l14], [.int (i2 + i3), .int i1, .ref k0], h) Q := t_go k_201_165 rfl
theorem k_201_166 : lk 201 166 = some (.iastore, 167, 0, 0, .null) := by decide +kernel
theorem x_201_166 : Tr sc d 201 (166, [l0, l1, l2, l3, l4, l5, l6, l7, l8, l9, l10, l11, l12, l13, l14], [.int i2, .int i1, .ref k0], h) Q = ((okp h k0 11 && inb i1 (LN k0)) = true ∧ Tr sc d 201 (167, [l0, l1, l2, l3, l4, l5, l6, l7, l8, l9, l10, l11, l12, l13, l14], [], (sI h k0 i1.toNatClampNeg i2)) Q) := t_gd k_201_166 rfl
theorem k_201_167 : lk 201 167 = some (.aload_n 0, 168, 0, 0, .null) := by decide +kernel
theorem x_201_167 : Tr sc d 201 (167, [some (.ref xk), l1, l2, l3, l4, l5, l6, l7, l8, l9, l10, l11, l12, l13, l14], [], h) Q = Tr sc d 201 (168, [some (.ref xk), l1, l2, l3, l4, l5, l6, l7, l8, l9, l10, l11, l12, l13, l14], [.ref xk], h) Q := t_aload_n k_201_167 rfl
theorem k_201_168 : lk 201 168 = some (.getfield 66, 171, 10, 33, .null) := by decide +kernel
theorem x_201_168 : Tr sc d 201 (168, [l0, l1, l2, l3, l4, l5, l6, l7, l8, l9, l10, l11, l12, l13, l14], [.ref k0], h) Q = (okp h k0 10 = true ∧ ∃ q, hR h k0 33 = some q ∧ Tr sc d 201 (171, [l0, l1, l2, l3, l4, l5, l6, l7, l8, l9, l10, l11, l12, l13, l14], [.ref q], h) Q) := t_getr k_201_168
theorem k_201_171 : lk 201 171 = some (.iload 6, 173, 6, 0, .null) := by decide +kernel
theorem x_201_171 : Tr sc d 201 (171, [l0, l1, l2, l3, l4, l5, some (.int x), l7, l8, l9, l10, l11, l12, l13, l14], [.ref k0], h) Q = Tr sc d 201 (173, [l0, l1, l2, l3, l4, l5, some (.int x), l7, l8, l9, l10, l11, l12, l13, l14], [.int x, .ref k0], h) Q := t_iload k_201_171 rfl
theorem k_201_173 : lk 201 173 = some (.aload_n 0, 174, 0, 0, .null) := by decide +kernel
theorem x_201_173 : Tr sc d 201 (173, [some (.ref xk), l1, l2, l3, l4, l5, l6, l7, l8, l9, l10, l11, l12, l13, l14], [.int i1, .ref k0], h) Q = Tr sc d 201 (174, [some (.ref xk), l1, l2, l3, l4, l5, l6, l7, l8, l9, l10, l11, l12, l13, l14], [.ref xk, .int i1, .ref k0], h) Q := t_aload_n k_201_173 rfl
theorem k_201_174 : lk 201 174 = some (.getfield 44, 177, 10, 19, .null) := by decide +kernel
theorem x_201_174 : Tr sc d 201 (174, [l0, l1, l2, l3, l4, l5, l6, l7, l8, l9, l10, l11, l12, l13, l14], [.ref k2, .int i1, .ref k0], h) Q = (okp h k2 10 = true ∧ ∃ q, hR h k2 19 = some q ∧ Tr sc d 201 (177, [l0, l1, l2, l3, l4, l5, l6, l7, l8, l9, l10, l11, l12, l13, l14], [.ref q, .int i1, .ref k0], h) Q) := t_getr k_201_174
theorem k_201_177 : lk 201 177 = some (.iload 14, 179, 14, 0, .null) := by decide +kernel
theorem x_201_177 : Tr sc d 201 (177, [l0, l1, l2, l3, l4, l5, l6, l7, l8, l9, l10, l11, l12, l13, some (.int x)], [.ref k2, .int i1, .ref k0], h) Q = Tr sc d 201 (179, [l0, l1, l2, l3, l4, l5, l6, l7, l8, l9, l10, l11, l12, l13, some (.int x)], [.int x, .ref k2, .int i1, .ref k0], h) Q := t_iload k_201_177 rfl
theorem k_201_179 : lk 201 179 = some (.iaload, 180, 0, 0, .null) := by decide +kernel
theorem x_201_179 : Tr sc d 201 (179, [l0, l1, l2, l3, l4, l5, l6, l7, l8, l9, l10, l11, l12, l13, l14], [.int i3, .ref k2, .int i1, .ref k0], h) Q = (iOk sc h k2 i3 ∧ Tr sc d 201 (180, [l0, l1, l2, l3, l4, l5, l6, l7, l8, l9, l10, l11, l12, l13, l14], [.int (iRd sc h k2 i3), .int i1, .ref k0], h) Q) := t_iald k_201_179
theorem k_201_180 : lk 201 180 = some (.iload 8, 182, 8, 0, .null) := by decide +kernel
theorem x_201_180 : Tr sc d 201 (180, [l0, l1, l2, l3, l4, l5, l6, l7, some (.int x), l9, l10, l11, l12, l13, l14], [.int i2, .int i1, .ref k0], h) Q = Tr sc d 201 (182, [l0, l1, l2, l3, l4, l5, l6, l7, some (.int x), l9, l10, l11, l12, l13, l14], [.int x, .int i2, .int i1, .ref k0], h) Q := t_iload k_201_180 rfl
theorem k_201_182 : lk 201 182 = some (.iload 9, 184, 9, 0, .null) := by decide +kernel
theorem x_201_182 : Tr sc d 201 (182, [l0, l1, l2, l3, l4, l5, l6, l7, l8, some (.int x), l10, l11, l12, l13, l14], [.int i3, .int i2, .int i1, .ref k0], h) Q = Tr sc d 201 (184, [l0, l1, l2, l3, l4, l5, l6, l7, l8, some (.int x), l10, l11, l12, l13, l14], [.int x, .int i3, .int i2, .int i1, .ref k0], h) Q := t_iload k_201_182 rfl
theorem k_201_184 : lk 201 184 = some (.invokestatic 254, 187, 178, 3, .null) := by decide +kernel
theorem x_201_184 : Tr sc (d + 1) 201 (184, [l0, l1, l2, l3, l4, l5, l6, l7, l8, l9, l10, l11, l12, l13, l14], [.int i4, .int i3, .int i2, .int i1, .ref k0], h) Q = Tr sc d 178 (ent0 178 [.int i2, .int i3, .int i4] h) (fun z => Tr sc (d + 1) 201 (187, [l0, l1, l2, l3, l4, l5, l6, l7, l8, l9, l10, l11, l12, l13, l14], z.1.toList ++ [.int i1, .ref k0], z.2) Q) := t_cs (as := [.int i2, .int i3, .int i4]) (r := [.int i1, .ref k0]) k_201_184 (by decide) rfl rfl (Nat.le_of_ble_eq_true rfl) (Nat.le_of_ble_eq_true rfl)
theorem k_201_187 : lk 201 187 = some (.iload_n 3, 188, 3, 0, .null) := by decide +kernel
theorem x_201_187 : Tr sc d 201 (187, [l0, l1, l2, some (.int x), l4, l5, l6, l7, l8, l9, l10, l11, l12, l13, l14], [.int i2, .int i1, .ref k0], h) Q = Tr sc d 201 (188, [l0, l1, l2, some (.int x), l4, l5, l6, l7, l8, l9, l10, l11, l12, l13, l14], [.int x, .int i2, .int i1, .ref k0], h) Q := t_iload_n k_201_187 rfl
theorem k_201_188 : lk 201 188 = some (.aload_n 0, 189, 0, 0, .null) := by decide +kernel
theorem x_201_188 : Tr sc d 201 (188, [some (.ref xk), l1, l2, l3, l4, l5, l6, l7, l8, l9, l10, l11, l12, l13, l14], [.int i3, .int i2, .int i1, .ref k0], h) Q = Tr sc d 201 (189, [some (.ref xk), l1, l2, l3, l4, l5, l6, l7, l8, l9, l10, l11, l12, l13, l14], [.ref xk, .int i3, .int i2, .int i1, .ref k0], h) Q := t_aload_n k_201_188 rfl
theorem k_201_189 : lk 201 189 = some (.getfield 50, 192, 10, 21, .null) := by decide +kernel
theorem x_201_189 : Tr sc d 201 (189, [l0, l1, l2, l3, l4, l5, l6, l7, l8, l9, l10, l11, l12, l13, l14], [.ref k4, .int i3, .int i2, .int i1, .ref k0], h) Q = (okp h k4 10 = true ∧ ∃ q, hR h k4 21 = some q ∧ Tr sc d 201 (192, [l0, l1, l2, l3, l4, l5, l6, l7, l8, l9, l10, l11, l12, l13, l14], [.ref q, .int i3, .int i2, .int i1, .ref k0], h) Q) := t_getr k_201_189
theorem k_201_192 : lk 201 192 = some (.iload 14, 194, 14, 0, .null) := by decide +kernel
theorem x_201_192 : Tr sc d 201 (192, [l0, l1, l2, l3, l4, l5, l6, l7, l8, l9, l10, l11, l12, l13, some (.int x)], [.ref k4, .int i3, .int i2, .int i1, .ref k0], h) Q = Tr sc d 201 (194, [l0, l1, l2, l3, l4, l5, l6, l7, l8, l9, l10, l11, l12, l13, some (.int x)], [.int x, .ref k4, .int i3, .int i2, .int i1, .ref k0], h) Q := t_iload k_201_192 rfl
theorem k_201_194 : lk 201 194 = some (.iaload, 195, 0, 0, .null) := by decide +kernel
theorem x_201_194 : Tr sc d 201 (194, [l0, l1, l2, l3, l4, l5, l6, l7, l8, l9, l10, l11, l12, l13, l14], [.int i5, .ref k4, .int i3, .int i2, .int i1, .ref k0], h) Q = (iOk sc h k4 i5 ∧ Tr sc d 201 (195, [l0, l1, l2, l3, l4, l5, l6, l7, l8, l9, l10, l11, l12, l13, l14], [.int (iRd sc h k4 i5), .int i3, .int i2, .int i1, .ref k0], h) Q) := t_iald k_201_194
theorem k_201_195 : lk 201 195 = some (.imul, 196, 0, 0, .null) := by decide +kernel
theorem x_201_195 : Tr sc d 201 (195, [l0, l1, l2, l3, l4, l5, l6, l7, l8, l9, l10, l11, l12, l13, l14], [.int i4, .int i3, .int i2, .int i1, .ref k0], h) Q = Tr sc d 201 (196, [l0, l1, l2, l3, l4, l5, l6, l7, l8, l9, l10, l11, l12, l13, l14], [.int (i3 * i4), .int i2, .int i1, .ref k0], h) Q := t_go k_201_195 rfl
theorem k_201_196 : lk 201 196 = some (.iadd, 197, 0, 0, .null) := by decide +kernel
theorem x_201_196 : Tr sc d 201 (196, [l0, l1, l2, l3, l4, l5, l6, l7, l8, l9, l10, l11, l12, l13, l14], [.int i3, .int i2, .int i1, .ref k0], h) Q = Tr sc d 201 (197, [l0, l1, l2, l3, l4, l5, l6, l7, l8, l9, l10, l11, l12, l13, l14], [.int (i2 + i3), .int i1, .ref k0], h) Q := t_go k_201_196 rfl
theorem k_201_197 : lk 201 197 = some (.iastore, 198, 0, 0, .null) := by decide +kernel
theorem x_201_197 : Tr sc d 201 (197, [l0, l1, l2, l3, l4, l5, l6, l7, l8, l9, l10, l11, l12, l13, l14], [.int i2, .int i1, .ref k0], h) Q = ((okp h k0 11 && inb i1 (LN k0)) = true ∧ Tr sc d 201 (198, [l0, l1, l2, l3, l4, l5, l6, l7, l8, l9, l10, l11, l12, l13, l14], [], (sI h k0 i1.toNatClampNeg i2)) Q) := t_gd k_201_197 rfl
theorem k_201_198 : lk 201 198 = some (.aload_n 0, 199, 0, 0, .null) := by decide +kernel
theorem x_201_198 : Tr sc d 201 (198, [some (.ref xk), l1, l2, l3, l4, l5, l6, l7, l8, l9, l10, l11, l12, l13, l14], [], h) Q = Tr sc d 201 (199, [some (.ref xk), l1, l2, l3, l4, l5, l6, l7, l8, l9, l10, l11, l12, l13, l14], [.ref xk], h) Q := t_aload_n k_201_198 rfl
theorem k_201_199 : lk 201 199 = some (.getfield 69, 202, 10, 34, .null) := by decide +kernel
theorem x_201_199 : Tr sc d 201 (199, [l0, l1, l2, l3, l4, l5, l6, l7, l8, l9, l10, l11, l12, l13, l14], [.ref k0], h) Q = (okp h k0 10 = true ∧ ∃ q, hR h k0 34 = some q ∧ Tr sc d 201 (202, [l0, l1, l2, l3, l4, l5, l6, l7, l8, l9, l10, l11, l12, l13, l14], [.ref q], h) Q) := t_getr k_201_199
theorem k_201_202 : lk 201 202 = some (.iload 6, 204, 6, 0, .null) := by decide +kernel
theorem x_201_202 : Tr sc d 201 (202, [l0, l1, l2, l3, l4, l5, some (.int x), l7, l8, l9, l10, l11, l12, l13, l14], [.ref k0], h) Q = Tr sc d 201 (204, [l0, l1, l2, l3, l4, l5, some (.int x), l7, l8, l9, l10, l11, l12, l13, l14], [.int x, .ref k0], h) Q := t_iload k_201_202 rfl
theorem k_201_204 : lk 201 204 = some (.iload 10, 206, 10, 0, .null) := by decide +kernel
theorem x_201_204 : Tr sc d 201 (204, [l0, l1, l2, l3, l4, l5, l6, l7, l8, l9, some (.int x), l11, l12, l13, l14], [.int i1, .ref k0], h) Q = Tr sc d 201 (206, [l0, l1, l2, l3, l4, l5, l6, l7, l8, l9, some (.int x), l11, l12, l13, l14], [.int x, .int i1, .ref k0], h) Q := t_iload k_201_204 rfl
theorem k_201_206 : lk 201 206 = some (.ifCond .lt 20, 209, 226, 0, .null) := by decide +kernel
theorem x_201_206 : Tr sc d 201 (206, [l0, l1, l2, l3, l4, l5, l6, l7, l8, l9, l10, l11, l12, l13, l14], [.int i2, .int i1, .ref k0], h) Q = if i2 < 0 then Tr sc d 201 (226, [l0, l1, l2, l3, l4, l5, l6, l7, l8, l9, l10, l11, l12, l13, l14], [.int i1, .ref k0], h) Q else Tr sc d 201 (209, [l0, l1, l2, l3, l4, l5, l6, l7, l8, l9, l10, l11, l12, l13, l14], [.int i1, .ref k0], h) Q := t_if k_201_206 rfl
theorem k_201_209 : lk 201 209 = some (.aload_n 0, 210, 0, 0, .null) := by decide +kernel
theorem x_201_209 : Tr sc d 201 (209, [some (.ref xk), l1, l2, l3, l4, l5, l6, l7, l8, l9, l10, l11, l12, l13, l14], [.int i1, .ref k0], h) Q = Tr sc d 201 (210, [some (.ref xk), l1, l2, l3, l4, l5, l6, l7, l8, l9, l10, l11, l12, l13, l14], [.ref xk, .int i1, .ref k0], h) Q := t_aload_n k_201_209 rfl
theorem k_201_210 : lk 201 210 = some (.iload_n 1, 211, 1, 0, .null) := by decide +kernel
theorem x_201_210 : Tr sc d 201 (210, [l0, some (.int x), l2, l3, l4, l5, l6, l7, l8, l9, l10, l11, l12, l13, l14], [.ref k2, .int i1, .ref k0], h) Q = Tr sc d 201 (211, [l0, some (.int x), l2, l3, l4, l5, l6, l7, l8, l9, l10, l11, l12, l13, l14], [.int x, .ref k2, .int i1, .ref k0], h) Q := t_iload_n k_201_210 rfl
theorem k_201_211 : lk 201 211 = some (.iload 13, 213, 13, 0, .null) := by decide +kernel
theorem x_201_211 : Tr sc d 201 (211, [l0, l1, l2, l3, l4, l5, l6, l7, l8, l9, l10, l11, l12, some (.int x), l14], [.int i3, .ref k2, .int i1, .ref k0], h) Q = Tr sc d 201 (213, [l0, l1, l2, l3, l4, l5, l6, l7, l8, l9, l10, l11, l12, some (.int x), l14], [.int x, .int i3, .ref k2, .int i1, .ref k0], h) Q := t_iload k_201_211 rfl
theorem k_201_213 : lk 201 213 = some (.iload 10, 215, 10, 0, .null) := by decide +kernel
theorem x_201_213 : Tr sc d 201 (213, [l0, l1, l2, l3, l4, l5, l6, l7, l8, l9, some (.int x), l11, l12, l13, l14], [.int i4, .int i3, .ref k2, .int i1, .ref k0], h) Q = Tr sc d 201 (215, [l0, l1, l2, l3, l4, l5, l6, l7, l8, l9, some (.int x), l11, l12, l13, l14], [.int x, .int i4, .int i3, .ref k2, .int i1, .ref k0], h) Q := t_iload k_201_213 rfl
theorem k_201_215 : lk 201 215 = some (.invokevirtual 203, 218, 186, 3, .null) := by decide +kernel
theorem x_201_215 : Tr sc (d + 1) 201 (215, [l0, l1, l2, l3, l4, l5, l6, l7, l8, l9, l10, l11, l12, l13, l14], [.int i5, .int i4, .int i3, .ref k2, .int i1, .ref k0], h) Q = (okp h k2 10 = true ∧ Tr sc d 186 (ent0 186 [.ref k2, .int i3, .int i4, .int i5] h) (fun z => Tr sc (d + 1) 201 (218, [l0, l1, l2, l3, l4, l5, l6, l7, l8, l9, l10, l11, l12, l13, l14], z.1.toList ++ [.int i1, .ref k0], z.2) Q)) := t_cv (as := [.int i3, .int i4, .int i5]) (r := [.int i1, .ref k0]) k_201_215 rfl rfl (Nat.le_of_ble_eq_true rfl) (Nat.le_of_ble_eq_true rfl) (Nat.le_of_ble_eq_true rfl)
theorem k_201_218 : lk 201 218 = some (.ifCond .eq 8, 221, 226, 0, .null) := by decide +kernel
theorem x_201_218 : Tr sc d 201 (218, [l0, l1, l2, l3, l4, l5, l6, l7, l8, l9, l10, l11, l12, l13, l14], [.int i2, .int i1, .ref k0], h) Q = if i2 = 0 then Tr sc d 201 (226, [l0, l1, l2, l3, l4, l5, l6, l7, l8, l9, l10, l11, l12, l13, l14], [.int i1, .ref k0], h) Q else Tr sc d 201 (221, [l0, l1, l2, l3, l4, l5, l6, l7, l8, l9, l10, l11, l12, l13, l14], [.int i1, .ref k0], h) Q := t_if k_201_218 rfl
theorem k_201_221 : lk 201 221 = some (.bipush 6, 223, 0, 0, .int 6) := by decide +kernel
theorem x_201_221 : Tr sc d 201 (221, [l0, l1, l2, l3, l4, l5, l6, l7, l8, l9, l10, l11, l12, l13, l14], [.int i1, .ref k0], h) Q = Tr sc d 201 (223, [l0, l1, l2, l3, l4, l5, l6, l7, l8, l9, l10, l11, l12, l13, l14], [.int 6, .int i1, .ref k0], h) Q := t_go k_201_221 rfl
theorem k_201_223 : lk 201 223 = some (.goto 5, 226, 228, 0, .null) := by decide +kernel
theorem x_201_223 : Tr sc d 201 (223, [l0, l1, l2, l3, l4, l5, l6, l7, l8, l9, l10, l11, l12, l13, l14], [.int i2, .int i1, .ref k0], h) Q = Tr sc d 201 (228, [l0, l1, l2, l3, l4, l5, l6, l7, l8, l9, l10, l11, l12, l13, l14], [.int i2, .int i1, .ref k0], h) Q := t_go k_201_223 rfl
theorem k_201_226 : lk 201 226 = some (.iload 13, 228, 13, 0, .null) := by decide +kernel
theorem x_201_226 : Tr sc d 201 (226, [l0, l1, l2, l3, l4, l5, l6, l7, l8, l9, l10, l11, l12, some (.int x), l14], [.int i1, .ref k0], h) Q = Tr sc d 201 (228, [l0, l1, l2, l3, l4, l5, l6, l7, l8, l9, l10, l11, l12, some (.int x), l14], [.int x, .int i1, .ref k0], h) Q := t_iload k_201_226 rfl
theorem k_201_228 : lk 201 228 = some (.iastore, 229, 0, 0, .null) := by decide +kernel
theorem x_201_228 : Tr sc d 201 (228, [l0, l1, l2, l3, l4, l5, l6, l7, l8, l9, l10, l11, l12, l13, l14], [.int i2, .int i1, .ref k0], h) Q = ((okp h k0 11 && inb i1 (LN k0)) = true ∧ Tr sc d 201 (229, [l0, l1, l2, l3, l4, l5, l6, l7, l8, l9, l10, l11, l12, l13, l14], [], (sI h k0 i1.toNatClampNeg i2)) Q) := t_gd k_201_228 rfl
theorem k_201_229 : lk 201 229 = some (.aload_n 0, 230, 0, 0, .null) := by decide +kernel
theorem x_201_229 : Tr sc d 201 (229, [some (.ref xk), l1, l2, l3, l4, l5, l6, l7, l8, l9, l10, l11, l12, l13, l14], [], h) Q = Tr sc d 201 (230, [some (.ref xk), l1, l2, l3, l4, l5, l6, l7, l8, l9, l10, l11, l12, l13, l14], [.ref xk], h) Q := t_aload_n k_201_229 rfl
theorem k_201_230 : lk 201 230 = some (.getfield 72, 233, 10, 35, .null) := by decide +kernel
theorem x_201_230 : Tr sc d 201 (230, [l0, l1, l2, l3, l4, l5, l6, l7, l8, l9, l10, l11, l12, l13, l14], [.ref k0], h) Q = (okp h k0 10 = true ∧ ∃ q, hR h k0 35 = some q ∧ Tr sc d 201 (233, [l0, l1, l2, l3, l4, l5, l6, l7, l8, l9, l10, l11, l12, l13, l14], [.ref q], h) Q) := t_getr k_201_230
theorem k_201_233 : lk 201 233 = some (.iload 6, 235, 6, 0, .null) := by decide +kernel
theorem x_201_233 : Tr sc d 201 (233, [l0, l1, l2, l3, l4, l5, some (.int x), l7, l8, l9, l10, l11, l12, l13, l14], [.ref k0], h) Q = Tr sc d 201 (235, [l0, l1, l2, l3, l4, l5, some (.int x), l7, l8, l9, l10, l11, l12, l13, l14], [.int x, .ref k0], h) Q := t_iload k_201_233 rfl
theorem k_201_235 : lk 201 235 = some (.lload 11, 237, 11, 0, .null) := by decide +kernel
theorem x_201_235 : Tr sc d 201 (235, [l0, l1, l2, l3, l4, l5, l6, l7, l8, l9, l10, some (.long xl), l12, l13, l14], [.int i1, .ref k0], h) Q = Tr sc d 201 (237, [l0, l1, l2, l3, l4, l5, l6, l7, l8, l9, l10, some (.long xl), l12, l13, l14], [.long xl, .int i1, .ref k0], h) Q := t_lload k_201_235 rfl
theorem k_201_237 : lk 201 237 = some (.aload_n 0, 238, 0, 0, .null) := by decide +kernel
theorem x_201_237 : Tr sc d 201 (237, [some (.ref xk), l1, l2, l3, l4, l5, l6, l7, l8, l9, l10, l11, l12, l13, l14], [.long j2, .int i1, .ref k0], h) Q = Tr sc d 201 (238, [some (.ref xk), l1, l2, l3, l4, l5, l6, l7, l8, l9, l10, l11, l12, l13, l14], [.ref xk, .long j2, .int i1, .ref k0], h) Q := t_aload_n k_201_237 rfl
theorem k_201_238 : lk 201 238 = some (.getfield 35, 241, 10, 16, .null) := by decide +kernel
theorem x_201_238 : Tr sc d 201 (238, [l0, l1, l2, l3, l4, l5, l6, l7, l8, l9, l10, l11, l12, l13, l14], [.ref k3, .long j2, .int i1, .ref k0], h) Q = (okp h k3 10 = true ∧ ∃ q, hR h k3 16 = some q ∧ Tr sc d 201 (241, [l0, l1, l2, l3, l4, l5, l6, l7, l8, l9, l10, l11, l12, l13, l14], [.ref q, .long j2, .int i1, .ref k0], h) Q) := t_getr k_201_238
theorem k_201_241 : lk 201 241 = some (.iload_n 1, 242, 1, 0, .null) := by decide +kernel
theorem x_201_241 : Tr sc d 201 (241, [l0, some (.int x), l2, l3, l4, l5, l6, l7, l8, l9, l10, l11, l12, l13, l14], [.ref k3, .long j2, .int i1, .ref k0], h) Q = Tr sc d 201 (242, [l0, some (.int x), l2, l3, l4, l5, l6, l7, l8, l9, l10, l11, l12, l13, l14], [.int x, .ref k3, .long j2, .int i1, .ref k0], h) Q := t_iload_n k_201_241 rfl
theorem k_201_242 : lk 201 242 = some (.iaload, 243, 0, 0, .null) := by decide +kernel
theorem x_201_242 : Tr sc d 201 (242, [l0, l1, l2, l3, l4, l5, l6, l7, l8, l9, l10, l11, l12, l13, l14], [.int i4, .ref k3, .long j2, .int i1, .ref k0], h) Q = (iOk sc h k3 i4 ∧ Tr sc d 201 (243, [l0, l1, l2, l3, l4, l5, l6, l7, l8, l9, l10, l11, l12, l13, l14], [.int (iRd sc h k3 i4), .long j2, .int i1, .ref k0], h) Q) := t_iald k_201_242
theorem k_201_243 : lk 201 243 = some (.iconst 3, 244, 0, 0, .int 3) := by decide +kernel
theorem x_201_243 : Tr sc d 201 (243, [l0, l1, l2, l3, l4, l5, l6, l7, l8, l9, l10, l11, l12, l13, l14], [.int i3, .long j2, .int i1, .ref k0], h) Q = Tr sc d 201 (244, [l0, l1, l2, l3, l4, l5, l6, l7, l8, l9, l10, l11, l12, l13, l14], [.int 3, .int i3, .long j2, .int i1, .ref k0], h) Q := t_go k_201_243 rfl
theorem k_201_244 : lk 201 244 = some (.if_icmp .ne 13, 247, 257, 0, .null) := by decide +kernel
theorem x_201_244 : Tr sc d 201 (244, [l0, l1, l2, l3, l4, l5, l6, l7, l8, l9, l10, l11, l12, l13, l14], [.int i4, .int i3, .long j2, .int i1, .ref k0], h) Q = if i3 = i4 then Tr sc d 201 (247, [l0, l1, l2, l3, l4, l5, l6, l7, l8, l9, l10, l11, l12, l13, l14], [.long j2, .int i1, .ref k0], h) Q else Tr sc d 201 (257, [l0, l1, l2, l3, l4, l5, l6, l7, l8, l9, l10, l11, l12, l13, l14], [.long j2, .int i1, .ref k0], h) Q := t_if k_201_244 rfl
theorem k_201_247 : lk 201 247 = some (.aload_n 0, 248, 0, 0, .null) := by decide +kernel
theorem x_201_247 : Tr sc d 201 (247, [some (.ref xk), l1, l2, l3, l4, l5, l6, l7, l8, l9, l10, l11, l12, l13, l14], [.long j2, .int i1, .ref k0], h) Q = Tr sc d 201 (248, [some (.ref xk), l1, l2, l3, l4, l5, l6, l7, l8, l9, l10, l11, l12, l13, l14], [.ref xk, .long j2, .int i1, .ref k0], h) Q := t_aload_n k_201_247 rfl
theorem k_201_248 : lk 201 248 = some (.getfield 53, 251, 10, 22, .null) := by decide +kernel
theorem x_201_248 : Tr sc d 201 (248, [l0, l1, l2, l3, l4, l5, l6, l7, l8, l9, l10, l11, l12, l13, l14], [.ref k3, .long j2, .int i1, .ref k0], h) Q = (okp h k3 10 = true ∧ ∃ q, hR h k3 22 = some q ∧ Tr sc d 201 (251, [l0, l1, l2, l3, l4, l5, l6, l7, l8, l9, l10, l11, l12, l13, l14], [.ref q, .long j2, .int i1, .ref k0], h) Q) := t_getr k_201_248
theorem k_201_251 : lk 201 251 = some (.iload 14, 253, 14, 0, .null) := by decide +kernel
theorem x_201_251 : Tr sc d 201 (251, [l0, l1, l2, l3, l4, l5, l6, l7, l8, l9, l10, l11, l12, l13, some (.int x)], [.ref k3, .long j2, .int i1, .ref k0], h) Q = Tr sc d 201 (253, [l0, l1, l2, l3, l4, l5, l6, l7, l8, l9, l10, l11, l12, l13, some (.int x)], [.int x, .ref k3, .long j2, .int i1, .ref k0], h) Q := t_iload k_201_251 rfl
theorem k_201_253 : lk 201 253 = some (.iaload, 254, 0, 0, .null) := by decide +kernel
theorem x_201_253 : Tr sc d 201 (253, [l0, l1, l2, l3, l4, l5, l6, l7, l8, l9, l10, l11, l12, l13, l14], [.int i4, .ref k3, .long j2, .int i1, .ref k0], h) Q = (iOk sc h k3 i4 ∧ Tr sc d 201 (254, [l0, l1, l2, l3, l4, l5, l6, l7, l8, l9, l10, l11, l12, l13, l14], [.int (iRd sc h k3 i4), .long j2, .int i1, .ref k0], h) Q) := t_iald k_201_253
theorem k_201_254 : lk 201 254 = some (.goto 4, 257, 258, 0, .null) := by decide +kernel
theorem x_201_254 : Tr sc d 201 (254, [l0, l1, l2, l3, l4, l5, l6, l7, l8, l9, l10, l11, l12, l13, l14], [.int i3, .long j2, .int i1, .ref k0], h) Q = Tr sc d 201 (258, [l0, l1, l2, l3, l4, l5, l6, l7, l8, l9, l10, l11, l12, l13, l14], [.int i3, .long j2, .int i1, .ref k0], h) Q := t_go k_201_254 rfl
theorem k_201_257 : lk 201 257 = some (.iconst 1, 258, 0, 0, .int 1) := by decide +kernel
theorem x_201_257 : Tr sc d 201 (257, [l0, l1, l2, l3, l4, l5, l6, l7, l8, l9, l10, l11, l12, l13, l14], [.long j2, .int i1, .ref k0], h) Q = Tr sc d 201 (258, [l0, l1, l2, l3, l4, l5, l6, l7, l8, l9, l10, l11, l12, l13, l14], [.int 1, .long j2, .int i1, .ref k0], h) Q := t_go k_201_257 rfl
theorem k_201_258 : lk 201 258 = some (.i2l, 259, 0, 0, .null) := by decide +kernel
theorem x_201_258 : Tr sc d 201 (258, [l0, l1, l2, l3, l4, l5, l6, l7, l8, l9, l10, l11, l12, l13, l14], [.int i3, .long j2, .int i1, .ref k0], h) Q = Tr sc d 201 (259, [l0, l1, l2, l3, l4, l5, l6, l7, l8, l9, l10, l11, l12, l13, l14], [.long i3.toInt64, .long j2, .int i1, .ref k0], h) Q := t_go k_201_258 rfl
theorem k_201_259 : lk 201 259 = some (.lmul, 260, 0, 0, .null) := by decide +kernel
theorem x_201_259 : Tr sc d 201 (259, [l0, l1, l2, l3, l4, l5, l6, l7, l8, l9, l10, l11, l12, l13, l14], [.long j3, .long j2, .int i1, .ref k0], h) Q = Tr sc d 201 (260, [l0, l1, l2, l3, l4, l5, l6, l7, l8, l9, l10, l11, l12, l13, l14], [.long (j2 * j3), .int i1, .ref k0], h) Q := t_go k_201_259 rfl
theorem k_201_260 : lk 201 260 = some (.lastore, 261, 0, 0, .null) := by decide +kernel
theorem x_201_260 : Tr sc d 201 (260, [l0, l1, l2, l3, l4, l5, l6, l7, l8, l9, l10, l11, l12, l13, l14], [.long j2, .int i1, .ref k0], h) Q = ((okp h k0 12 && inb i1 (LN k0)) = true ∧ Tr sc d 201 (261, [l0, l1, l2, l3, l4, l5, l6, l7, l8, l9, l10, l11, l12, l13, l14], [], (sL h k0 i1.toNatClampNeg j2)) Q) := t_gd k_201_260 rfl
theorem k_201_261 : lk 201 261 = some (.iinc 13 (-1), 264, 13, 0, .int (-1)) := by decide +kernel
theorem x_201_261 : Tr sc d 201 (261, [l0, l1, l2, l3, l4, l5, l6, l7, l8, l9, l10, l11, l12, some (.int x), l14], [], h) Q = Tr sc d 201 (264, [l0, l1, l2, l3, l4, l5, l6, l7, l8, l9, l10, l11, cl2 l12, some (.int (x + (-1))), l14], [], h) Q := t_inc k_201_261 rfl (Nat.le_of_ble_eq_true rfl)
theorem k_201_264 : lk 201 264 = some (.goto (-145), 267, 119, 0, .null) := by decide +kernel
theorem x_201_264 : Tr sc d 201 (264, [l0, l1, l2, l3, l4, l5, l6, l7, l8, l9, l10, l11, l12, l13, l14], [], h) Q = Tr sc d 201 (119, [l0, l1, l2, l3, l4, l5, l6, l7, l8, l9, l10, l11, l12, l13, l14], [], h) Q := t_go k_201_264 rfl
theorem k_201_267 : lk 201 267 = some (.iinc 7 (-1), 270, 7, 0, .int (-1)) := by decide +kernel
theorem x_201_267 : Tr sc d 201 (267, [l0, l1, l2, l3, l4, l5, l6, some (.int x), l8, l9, l10, l11, l12, l13, l14], [], h) Q = Tr sc d 201 (270, [l0, l1, l2, l3, l4, l5, cl2 l6, some (.int (x + (-1))), l8, l9, l10, l11, l12, l13, l14], [], h) Q := t_inc k_201_267 rfl (Nat.le_of_ble_eq_true rfl)
theorem k_201_270 : lk 201 270 = some (.goto (-202), 273, 68, 0, .null) := by decide +kernel
theorem x_201_270 : Tr sc d 201 (270, [l0, l1, l2, l3, l4, l5, l6, l7, l8, l9, l10, l11, l12, l13, l14], [], h) Q = Tr sc d 201 (68, [l0, l1, l2, l3, l4, l5, l6, l7, l8, l9, l10, l11, l12, l13, l14], [], h) Q := t_go k_201_270 rfl
theorem k_201_273 : lk 201 273 = some (.aload_n 0, 274, 0, 0, .null) := by decide +kernel
theorem x_201_273 : Tr sc d 201 (273, [some (.ref xk), l1, l2, l3, l4, l5, l6, l7, l8, l9, l10, l11, l12, l13, l14], [], h) Q = Tr sc d 201 (274, [some (.ref xk), l1, l2, l3, l4, l5, l6, l7, l8, l9, l10, l11, l12, l13, l14], [.ref xk], h) Q := t_aload_n k_201_273 rfl
theorem k_201_274 : lk 201 274 = some (.iconst 0, 275, 0, 0, .int 0) := by decide +kernel
theorem x_201_274 : Tr sc d 201 (274, [l0, l1, l2, l3, l4, l5, l6, l7, l8, l9, l10, l11, l12, l13, l14], [.ref k0], h) Q = Tr sc d 201 (275, [l0, l1, l2, l3, l4, l5, l6, l7, l8, l9, l10, l11, l12, l13, l14], [.int 0, .ref k0], h) Q := t_go k_201_274 rfl
theorem k_201_275 : lk 201 275 = some (.putfield 270, 278, 10, 31, .int 0) := by decide +kernel
theorem x_201_275 : Tr sc d 201 (275, [l0, l1, l2, l3, l4, l5, l6, l7, l8, l9, l10, l11, l12, l13, l14], [.int i1, .ref k0], h) Q = (okp h k0 10 = true ∧ Tr sc d 201 (278, [l0, l1, l2, l3, l4, l5, l6, l7, l8, l9, l10, l11, l12, l13, l14], [], (sI h k0 31 i1)) Q) := t_gd k_201_275 rfl
theorem k_201_278 : lk 201 278 = some (.iconst 0, 279, 0, 0, .int 0) := by decide +kernel
theorem x_201_278 : Tr sc d 201 (278, [l0, l1, l2, l3, l4, l5, l6, l7, l8, l9, l10, l11, l12, l13, l14], [], h) Q = Tr sc d 201 (279, [l0, l1, l2, l3, l4, l5, l6, l7, l8, l9, l10, l11, l12, l13, l14], [.int 0], h) Q := t_go k_201_278 rfl
theorem k_201_279 : lk 201 279 = some (.istore 7, 281, 7, 0, .null) := by decide +kernel
theorem x_201_279 : Tr sc d 201 (279, [l0, l1, l2, l3, l4, l5, l6, l7, l8, l9, l10, l11, l12, l13, l14], [.int i0], h) Q = Tr sc d 201 (281, [l0, l1, l2, l3, l4, l5, cl2 l6, some (.int i0), l8, l9, l10, l11, l12, l13, l14], [], h) Q := t_istore k_201_279 (Nat.le_of_ble_eq_true rfl)
theorem k_201_281 : lk 201 281 = some (.iload 7, 283, 7, 0, .null) := by decide +kernel
theorem x_201_281 : Tr sc d 201 (281, [l0, l1, l2, l3, l4, l5, l6, some (.int x), l8, l9, l10, l11, l12, l13, l14], [], h) Q = Tr sc d 201 (283, [l0, l1, l2, l3, l4, l5, l6, some (.int x), l8, l9, l10, l11, l12, l13, l14], [.int x], h) Q := t_iload k_201_281 rfl
theorem k_201_283 : lk 201 283 = some (.iload 5, 285, 5, 0, .null) := by decide +kernel
theorem x_201_283 : Tr sc d 201 (283, [l0, l1, l2, l3, l4, some (.int x), l6, l7, l8, l9, l10, l11, l12, l13, l14], [.int i0], h) Q = Tr sc d 201 (285, [l0, l1, l2, l3, l4, some (.int x), l6, l7, l8, l9, l10, l11, l12, l13, l14], [.int x, .int i0], h) Q := t_iload k_201_283 rfl
theorem k_201_285 : lk 201 285 = some (.aload_n 0, 286, 0, 0, .null) := by decide +kernel
theorem x_201_285 : Tr sc d 201 (285, [some (.ref xk), l1, l2, l3, l4, l5, l6, l7, l8, l9, l10, l11, l12, l13, l14], [.int i1, .int i0], h) Q = Tr sc d 201 (286, [some (.ref xk), l1, l2, l3, l4, l5, l6, l7, l8, l9, l10, l11, l12, l13, l14], [.ref xk, .int i1, .int i0], h) Q := t_aload_n k_201_285 rfl
theorem k_201_286 : lk 201 286 = some (.getfield 41, 289, 10, 18, .null) := by decide +kernel
theorem x_201_286 : Tr sc d 201 (286, [l0, l1, l2, l3, l4, l5, l6, l7, l8, l9, l10, l11, l12, l13, l14], [.ref k2, .int i1, .int i0], h) Q = (okp h k2 10 = true ∧ ∃ q, hR h k2 18 = some q ∧ Tr sc d 201 (289, [l0, l1, l2, l3, l4, l5, l6, l7, l8, l9, l10, l11, l12, l13, l14], [.ref q, .int i1, .int i0], h) Q) := t_getr k_201_286
theorem k_201_289 : lk 201 289 = some (.iload_n 1, 290, 1, 0, .null) := by decide +kernel
theorem x_201_289 : Tr sc d 201 (289, [l0, some (.int x), l2, l3, l4, l5, l6, l7, l8, l9, l10, l11, l12, l13, l14], [.ref k2, .int i1, .int i0], h) Q = Tr sc d 201 (290, [l0, some (.int x), l2, l3, l4, l5, l6, l7, l8, l9, l10, l11, l12, l13, l14], [.int x, .ref k2, .int i1, .int i0], h) Q := t_iload_n k_201_289 rfl
theorem k_201_290 : lk 201 290 = some (.iaload, 291, 0, 0, .null) := by decide +kernel
theorem x_201_290 : Tr sc d 201 (290, [l0, l1, l2, l3, l4, l5, l6, l7, l8, l9, l10, l11, l12, l13, l14], [.int i3, .ref k2, .int i1, .int i0], h) Q = (iOk sc h k2 i3 ∧ Tr sc d 201 (291, [l0, l1, l2, l3, l4, l5, l6, l7, l8, l9, l10, l11, l12, l13, l14], [.int (iRd sc h k2 i3), .int i1, .int i0], h) Q) := t_iald k_201_290
theorem k_201_291 : lk 201 291 = some (.imul, 292, 0, 0, .null) := by decide +kernel
theorem x_201_291 : Tr sc d 201 (291, [l0, l1, l2, l3, l4, l5, l6, l7, l8, l9, l10, l11, l12, l13, l14], [.int i2, .int i1, .int i0], h) Q = Tr sc d 201 (292, [l0, l1, l2, l3, l4, l5, l6, l7, l8, l9, l10, l11, l12, l13, l14], [.int (i1 * i2), .int i0], h) Q := t_go k_201_291 rfl
theorem k_201_292 : lk 201 292 = some (.if_icmp .ge 95, 295, 387, 0, .null) := by decide +kernel
theorem x_201_292 : Tr sc d 201 (292, [l0, l1, l2, l3, l4, l5, l6, l7, l8, l9, l10, l11, l12, l13, l14], [.int i1, .int i0], h) Q = if i1 ≤ i0 then Tr sc d 201 (387, [l0, l1, l2, l3, l4, l5, l6, l7, l8, l9, l10, l11, l12, l13, l14], [], h) Q else Tr sc d 201 (295, [l0, l1, l2, l3, l4, l5, l6, l7, l8, l9, l10, l11, l12, l13, l14], [], h) Q := t_if k_201_292 rfl
theorem k_201_295 : lk 201 295 = some (.aload_n 0, 296, 0, 0, .null) := by decide +kernel
theorem x_201_295 : Tr sc d 201 (295, [some (.ref xk), l1, l2, l3, l4, l5, l6, l7, l8, l9, l10, l11, l12, l13, l14], [], h) Q = Tr sc d 201 (296, [some (.ref xk), l1, l2, l3, l4, l5, l6, l7, l8, l9, l10, l11, l12, l13, l14], [.ref xk], h) Q := t_aload_n k_201_295 rfl
theorem k_201_296 : lk 201 296 = some (.getfield 69, 299, 10, 34, .null) := by decide +kernel
theorem x_201_296 : Tr sc d 201 (296, [l0, l1, l2, l3, l4, l5, l6, l7, l8, l9, l10, l11, l12, l13, l14], [.ref k0], h) Q = (okp h k0 10 = true ∧ ∃ q, hR h k0 34 = some q ∧ Tr sc d 201 (299, [l0, l1, l2, l3, l4, l5, l6, l7, l8, l9, l10, l11, l12, l13, l14], [.ref q], h) Q) := t_getr k_201_296
theorem k_201_299 : lk 201 299 = some (.iload 7, 301, 7, 0, .null) := by decide +kernel
theorem x_201_299 : Tr sc d 201 (299, [l0, l1, l2, l3, l4, l5, l6, some (.int x), l8, l9, l10, l11, l12, l13, l14], [.ref k0], h) Q = Tr sc d 201 (301, [l0, l1, l2, l3, l4, l5, l6, some (.int x), l8, l9, l10, l11, l12, l13, l14], [.int x, .ref k0], h) Q := t_iload k_201_299 rfl
theorem k_201_301 : lk 201 301 = some (.iaload, 302, 0, 0, .null) := by decide +kernel
theorem x_201_301 : Tr sc d 201 (301, [l0, l1, l2, l3, l4, l5, l6, l7, l8, l9, l10, l11, l12, l13, l14], [.int i1, .ref k0], h) Q = (iOk sc h k0 i1 ∧ Tr sc d 201 (302, [l0, l1, l2, l3, l4, l5, l6, l7, l8, l9, l10, l11, l12, l13, l14], [.int (iRd sc h k0 i1)], h) Q) := t_iald k_201_301
theorem k_201_302 : lk 201 302 = some (.bipush 6, 304, 0, 0, .int 6) := by decide +kernel
theorem x_201_302 : Tr sc d 201 (302, [l0, l1, l2, l3, l4, l5, l6, l7, l8, l9, l10, l11, l12, l13, l14], [.int i0], h) Q = Tr sc d 201 (304, [l0, l1, l2, l3, l4, l5, l6, l7, l8, l9, l10, l11, l12, l13, l14], [.int 6, .int i0], h) Q := t_go k_201_302 rfl
theorem k_201_304 : lk 201 304 = some (.if_icmp .ge 77, 307, 381, 0, .null) := by decide +kernel
theorem x_201_304 : Tr sc d 201 (304, [l0, l1, l2, l3, l4, l5, l6, l7, l8, l9, l10, l11, l12, l13, l14], [.int i1, .int i0], h) Q = if i1 ≤ i0 then Tr sc d 201 (381, [l0, l1, l2, l3, l4, l5, l6, l7, l8, l9, l10, l11, l12, l13, l14], [], h) Q else Tr sc d 201 (307, [l0, l1, l2, l3, l4, l5, l6, l7, l8, l9, l10, l11, l12, l13, l14], [], h) Q := t_if k_201_304 rfl
theorem k_201_307 : lk 201 307 = some (.aload_n 0, 308, 0, 0, .null) := by decide +kernel
theorem x_201_307 : Tr sc d 201 (307, [some (.ref xk), l1, l2, l3, l4, l5, l6, l7, l8, l9, l10, l11, l12, l13, l14], [], h) Q = Tr sc d 201 (308, [some (.ref xk), l1, l2, l3, l4, l5, l6, l7, l8, l9, l10, l11, l12, l13, l14], [.ref xk], h) Q := t_aload_n k_201_307 rfl
theorem k_201_308 : lk 201 308 = some (.getfield 63, 311, 10, 32, .null) := by decide +kernel
theorem x_201_308 : Tr sc d 201 (308, [l0, l1, l2, l3, l4, l5, l6, l7, l8, l9, l10, l11, l12, l13, l14], [.ref k0], h) Q = (okp h k0 10 = true ∧ ∃ q, hR h k0 32 = some q ∧ Tr sc d 201 (311, [l0, l1, l2, l3, l4, l5, l6, l7, l8, l9, l10, l11, l12, l13, l14], [.ref q], h) Q) := t_getr k_201_308
theorem k_201_311 : lk 201 311 = some (.aload_n 0, 312, 0, 0, .null) := by decide +kernel
theorem x_201_311 : Tr sc d 201 (311, [some (.ref xk), l1, l2, l3, l4, l5, l6, l7, l8, l9, l10, l11, l12, l13, l14], [.ref k0], h) Q = Tr sc d 201 (312, [some (.ref xk), l1, l2, l3, l4, l5, l6, l7, l8, l9, l10, l11, l12, l13, l14], [.ref xk, .ref k0], h) Q := t_aload_n k_201_311 rfl
theorem k_201_312 : lk 201 312 = some (.getfield 270, 315, 10, 31, .int 0) := by decide +kernel
theorem x_201_312 : Tr sc d 201 (312, [l0, l1, l2, l3, l4, l5, l6, l7, l8, l9, l10, l11, l12, l13, l14], [.ref k1, .ref k0], h) Q = (okp h k1 10 = true ∧ Tr sc d 201 (315, [l0, l1, l2, l3, l4, l5, l6, l7, l8, l9, l10, l11, l12, l13, l14], [.int (hI h k1 31), .ref k0], h) Q) := t_gd k_201_312 rfl
theorem k_201_315 : lk 201 315 = some (.aload_n 0, 316, 0, 0, .null) := by decide +kernel
theorem x_201_315 : Tr sc d 201 (315, [some (.ref xk), l1, l2, l3, l4, l5, l6, l7, l8, l9, l10, l11, l12, l13, l14], [.int i1, .ref k0], h) Q = Tr sc d 201 (316, [some (.ref xk), l1, l2, l3, l4, l5, l6, l7, l8, l9, l10, l11, l12, l13, l14], [.ref xk, .int i1, .ref k0], h) Q := t_aload_n k_201_315 rfl
theorem k_201_316 : lk 201 316 = some (.getfield 63, 319, 10, 32, .null) := by decide +kernel
theorem x_201_316 : Tr sc d 201 (316, [l0, l1, l2, l3, l4, l5, l6, l7, l8, l9, l10, l11, l12, l13, l14], [.ref k2, .int i1, .ref k0], h) Q = (okp h k2 10 = true ∧ ∃ q, hR h k2 32 = some q ∧ Tr sc d 201 (319, [l0, l1, l2, l3, l4, l5, l6, l7, l8, l9, l10, l11, l12, l13, l14], [.ref q, .int i1, .ref k0], h) Q) := t_getr k_201_316
theorem k_201_319 : lk 201 319 = some (.iload 7, 321, 7, 0, .null) := by decide +kernel
theorem x_201_319 : Tr sc d 201 (319, [l0, l1, l2, l3, l4, l5, l6, some (.int x), l8, l9, l10, l11, l12, l13, l14], [.ref k2, .int i1, .ref k0], h) Q = Tr sc d 201 (321, [l0, l1, l2, l3, l4, l5, l6, some (.int x), l8, l9, l10, l11, l12, l13, l14], [.int x, .ref k2, .int i1, .ref k0], h) Q := t_iload k_201_319 rfl
theorem k_201_321 : lk 201 321 = some (.iaload, 322, 0, 0, .null) := by decide +kernel
theorem x_201_321 : Tr sc d 201 (321, [l0, l1, l2, l3, l4, l5, l6, l7, l8, l9, l10, l11, l12, l13, l14], [.int i3, .ref k2, .int i1, .ref k0], h) Q = (iOk sc h k2 i3 ∧ Tr sc d 201 (322, [l0, l1, l2, l3, l4, l5, l6, l7, l8, l9, l10, l11, l12, l13, l14], [.int (iRd sc h k2 i3), .int i1, .ref k0], h) Q) := t_iald k_201_321
theorem k_201_322 : lk 201 322 = some (.iastore, 323, 0, 0, .null) := by decide +kernel
theorem x_201_322 : Tr sc d 201 (322, [l0, l1, l2, l3, l4, l5, l6, l7, l8, l9, l10, l11, l12, l13, l14], [.int i2, .int i1, .ref k0], h) Q = ((okp h k0 11 && inb i1 (LN k0)) = true ∧ Tr sc d 201 (323, [l0, l1, l2, l3, l4, l5, l6, l7, l8, l9, l10, l11, l12, l13, l14], [], (sI h k0 i1.toNatClampNeg i2)) Q) := t_gd k_201_322 rfl
theorem k_201_323 : lk 201 323 = some (.aload_n 0, 324, 0, 0, .null) := by decide +kernel
theorem x_201_323 : Tr sc d 201 (323, [some (.ref xk), l1, l2, l3, l4, l5, l6, l7, l8, l9, l10, l11, l12, l13, l14], [], h) Q = Tr sc d 201 (324, [some (.ref xk), l1, l2, l3, l4, l5, l6, l7, l8, l9, l10, l11, l12, l13, l14], [.ref xk], h) Q := t_aload_n k_201_323 rfl
theorem k_201_324 : lk 201 324 = some (.getfield 66, 327, 10, 33, .null) := by decide +kernel
theorem x_201_324 : Tr sc d 201 (324, [l0, l1, l2, l3, l4, l5, l6, l7, l8, l9, l10, l11, l12, l13, l14], [.ref k0], h) Q = (okp h k0 10 = true ∧ ∃ q, hR h k0 33 = some q ∧ Tr sc d 201 (327, [l0, l1, l2, l3, l4, l5, l6, l7, l8, l9, l10, l11, l12, l13, l14], [.ref q], h) Q) := t_getr k_201_324
theorem k_201_327 : lk 201 327 = some (.aload_n 0, 328, 0, 0, .null) := by decide +kernel
theorem x_201_327 : Tr sc d 201 (327, [some (.ref xk), l1, l2, l3, l4, l5, l6, l7, l8, l9, l10, l11, l12, l13, l14], [.ref k0], h) Q = Tr sc d 201 (328, [some (.ref xk), l1, l2, l3, l4, l5, l6, l7, l8, l9, l10, l11, l12, l13, l14], [.ref xk, .ref k0], h) Q := t_aload_n k_201_327 rfl
theorem k_201_328 : lk 201 328 = some (.getfield 270, 331, 10, 31, .int 0) := by decide +kernel
theorem x_201_328 : Tr sc d 201 (328, [l0, l1, l2, l3, l4, l5, l6, l7, l8, l9, l10, l11, l12, l13, l14], [.ref k1, .ref k0], h) Q = (okp h k1 10 = true ∧ Tr sc d 201 (331, [l0, l1, l2, l3, l4, l5, l6, l7, l8, l9, l10, l11, l12, l13, l14], [.int (hI h k1 31), .ref k0], h) Q) := t_gd k_201_328 rfl
theorem k_201_331 : lk 201 331 = some (.aload_n 0, 332, 0, 0, .null) := by decide +kernel
theorem x_201_331 : Tr sc d 201 (331, [some (.ref xk), l1, l2, l3, l4, l5, l6, l7, l8, l9, l10, l11, l12, l13, l14], [.int i1, .ref k0], h) Q = Tr sc d 201 (332, [some (.ref xk), l1, l2, l3, l4, l5, l6, l7, l8, l9, l10, l11, l12, l13, l14], [.ref xk, .int i1, .ref k0], h) Q := t_aload_n k_201_331 rfl
theorem k_201_332 : lk 201 332 = some (.getfield 66, 335, 10, 33, .null) := by decide +kernel
theorem x_201_332 : Tr sc d 201 (332, [l0, l1, l2, l3, l4, l5, l6, l7, l8, l9, l10, l11, l12, l13, l14], [.ref k2, .int i1, .ref k0], h) Q = (okp h k2 10 = true ∧ ∃ q, hR h k2 33 = some q ∧ Tr sc d 201 (335, [l0, l1, l2, l3, l4, l5, l6, l7, l8, l9, l10, l11, l12, l13, l14], [.ref q, .int i1, .ref k0], h) Q) := t_getr k_201_332
theorem k_201_335 : lk 201 335 = some (.iload 7, 337, 7, 0, .null) := by decide +kernel
theorem x_201_335 : Tr sc d 201 (335, [l0, l1, l2, l3, l4, l5, l6, some (.int x), l8, l9, l10, l11, l12, l13, l14], [.ref k2, .int i1, .ref k0], h) Q = Tr sc d 201 (337, [l0, l1, l2, l3, l4, l5, l6, some (.int x), l8, l9, l10, l11, l12, l13, l14], [.int x, .ref k2, .int i1, .ref k0], h) Q := t_iload k_201_335 rfl
theorem k_201_337 : lk 201 337 = some (.iaload, 338, 0, 0, .null) := by decide +kernel
theorem x_201_337 : Tr sc d 201 (337, [l0, l1, l2, l3, l4, l5, l6, l7, l8, l9, l10, l11, l12, l13, l14], [.int i3, .ref k2, .int i1, .ref k0], h) Q = (iOk sc h k2 i3 ∧ Tr sc d 201 (338, [l0, l1, l2, l3, l4, l5, l6, l7, l8, l9, l10, l11, l12, l13, l14], [.int (iRd sc h k2 i3), .int i1, .ref k0], h) Q) := t_iald k_201_337
theorem k_201_338 : lk 201 338 = some (.iastore, 339, 0, 0, .null) := by decide +kernel
theorem x_201_338 : Tr sc d 201 (338, [l0, l1, l2, l3, l4, l5, l6, l7, l8, l9, l10, l11, l12, l13, l14], [.int i2, .int i1, .ref k0], h) Q = ((okp h k0 11 && inb i1 (LN k0)) = true ∧ Tr sc d 201 (339, [l0, l1, l2, l3, l4, l5, l6, l7, l8, l9, l10, l11, l12, l13, l14], [], (sI h k0 i1.toNatClampNeg i2)) Q) := t_gd k_201_338 rfl
theorem k_201_339 : lk 201 339 = some (.aload_n 0, 340, 0, 0, .null) := by decide +kernel
theorem x_201_339 : Tr sc d 201 (339, [some (.ref xk), l1, l2, l3, l4, l5, l6, l7, l8, l9, l10, l11, l12, l13, l14], [], h) Q = Tr sc d 201 (340, [some (.ref xk), l1, l2, l3, l4, l5, l6, l7, l8, l9, l10, l11, l12, l13, l14], [.ref xk], h) Q := t_aload_n k_201_339 rfl
theorem k_201_340 : lk 201 340 = some (.getfield 69, 343, 10, 34, .null) := by decide +kernel
theorem x_201_340 : Tr sc d 201 (340, [l0, l1, l2, l3, l4, l5, l6, l7, l8, l9, l10, l11, l12, l13, l14], [.ref k0], h) Q = (okp h k0 10 = true ∧ ∃ q, hR h k0 34 = some q ∧ Tr sc d 201 (343, [l0, l1, l2, l3, l4, l5, l6, l7, l8, l9, l10, l11, l12, l13, l14], [.ref q], h) Q) := t_getr k_201_340
theorem k_201_343 : lk 201 343 = some (.aload_n 0, 344, 0, 0, .null) := by decide +kernel
theorem x_201_343 : Tr sc d 201 (343, [some (.ref xk), l1, l2, l3, l4, l5, l6, l7, l8, l9, l10, l11, l12, l13, l14], [.ref k0], h) Q = Tr sc d 201 (344, [some (.ref xk), l1, l2, l3, l4, l5, l6, l7, l8, l9, l10, l11, l12, l13, l14], [.ref xk, .ref k0], h) Q := t_aload_n k_201_343 rfl
theorem k_201_344 : lk 201 344 = some (.getfield 270, 347, 10, 31, .int 0) := by decide +kernel
theorem x_201_344 : Tr sc d 201 (344, [l0, l1, l2, l3, l4, l5, l6, l7, l8, l9, l10, l11, l12, l13, l14], [.ref k1, .ref k0], h) Q = (okp h k1 10 = true ∧ Tr sc d 201 (347, [l0, l1, l2, l3, l4, l5, l6, l7, l8, l9, l10, l11, l12, l13, l14], [.int (hI h k1 31), .ref k0], h) Q) := t_gd k_201_344 rfl
theorem k_201_347 : lk 201 347 = some (.aload_n 0, 348, 0, 0, .null) := by decide +kernel
theorem x_201_347 : Tr sc d 201 (347, [some (.ref xk), l1, l2, l3, l4, l5, l6, l7, l8, l9, l10, l11, l12, l13, l14], [.int i1, .ref k0], h) Q = Tr sc d 201 (348, [some (.ref xk), l1, l2, l3, l4, l5, l6, l7, l8, l9, l10, l11, l12, l13, l14], [.ref xk, .int i1, .ref k0], h) Q := t_aload_n k_201_347 rfl
theorem k_201_348 : lk 201 348 = some (.getfield 69, 351, 10, 34, .null) := by decide +kernel
theorem x_201_348 : Tr sc d 201 (348, [l0, l1, l2, l3, l4, l5, l6, l7, l8, l9, l10, l11, l12, l13, l14], [.ref k2, .int i1, .ref k0], h) Q = (okp h k2 10 = true ∧ ∃ q, hR h k2 34 = some q ∧ Tr sc d 201 (351, [l0, l1, l2, l3, l4, l5, l6, l7, l8, l9, l10, l11, l12, l13, l14], [.ref q, .int i1, .ref k0], h) Q) := t_getr k_201_348
theorem k_201_351 : lk 201 351 = some (.iload 7, 353, 7, 0, .null) := by decide +kernel
theorem x_201_351 : Tr sc d 201 (351, [l0, l1, l2, l3, l4, l5, l6, some (.int x), l8, l9, l10, l11, l12, l13, l14], [.ref k2, .int i1, .ref k0], h) Q = Tr sc d 201 (353, [l0, l1, l2, l3, l4, l5, l6, some (.int x), l8, l9, l10, l11, l12, l13, l14], [.int x, .ref k2, .int i1, .ref k0], h) Q := t_iload k_201_351 rfl
theorem k_201_353 : lk 201 353 = some (.iaload, 354, 0, 0, .null) := by decide +kernel
theorem x_201_353 : Tr sc d 201 (353, [l0, l1, l2, l3, l4, l5, l6, l7, l8, l9, l10, l11, l12, l13, l14], [.int i3, .ref k2, .int i1, .ref k0], h) Q = (iOk sc h k2 i3 ∧ Tr sc d 201 (354, [l0, l1, l2, l3, l4, l5, l6, l7, l8, l9, l10, l11, l12, l13, l14], [.int (iRd sc h k2 i3), .int i1, .ref k0], h) Q) := t_iald k_201_353
theorem k_201_354 : lk 201 354 = some (.iastore, 355, 0, 0, .null) := by decide +kernel
theorem x_201_354 : Tr sc d 201 (354, [l0, l1, l2, l3, l4, l5, l6, l7, l8, l9, l10, l11, l12, l13, l14], [.int i2, .int i1, .ref k0], h) Q = ((okp h k0 11 && inb i1 (LN k0)) = true ∧ Tr sc d 201 (355, [l0, l1, l2, l3, l4, l5, l6, l7, l8, l9, l10, l11, l12, l13, l14], [], (sI h k0 i1.toNatClampNeg i2)) Q) := t_gd k_201_354 rfl
theorem k_201_355 : lk 201 355 = some (.aload_n 0, 356, 0, 0, .null) := by decide +kernel
theorem x_201_355 : Tr sc d 201 (355, [some (.ref xk), l1, l2, l3, l4, l5, l6, l7, l8, l9, l10, l11, l12, l13, l14], [], h) Q = Tr sc d 201 (356, [some (.ref xk), l1, l2, l3, l4, l5, l6, l7, l8, l9, l10, l11, l12, l13, l14], [.ref xk], h) Q := t_aload_n k_201_355 rfl
theorem k_201_356 : lk 201 356 = some (.getfield 72, 359, 10, 35, .null) := by decide +kernel
theorem x_201_356 : Tr sc d 201 (356, [l0, l1, l2, l3, l4, l5, l6, l7, l8, l9, l10, l11, l12, l13, l14], [.ref k0], h) Q = (okp h k0 10 = true ∧ ∃ q, hR h k0 35 = some q ∧ Tr sc d 201 (359, [l0, l1, l2, l3, l4, l5, l6, l7, l8, l9, l10, l11, l12, l13, l14], [.ref q], h) Q) := t_getr k_201_356
theorem k_201_359 : lk 201 359 = some (.aload_n 0, 360, 0, 0, .null) := by decide +kernel
theorem x_201_359 : Tr sc d 201 (359, [some (.ref xk), l1, l2, l3, l4, l5, l6, l7, l8, l9, l10, l11, l12, l13, l14], [.ref k0], h) Q = Tr sc d 201 (360, [some (.ref xk), l1, l2, l3, l4, l5, l6, l7, l8, l9, l10, l11, l12, l13, l14], [.ref xk, .ref k0], h) Q := t_aload_n k_201_359 rfl
theorem k_201_360 : lk 201 360 = some (.getfield 270, 363, 10, 31, .int 0) := by decide +kernel
theorem x_201_360 : Tr sc d 201 (360, [l0, l1, l2, l3, l4, l5, l6, l7, l8, l9, l10, l11, l12, l13, l14], [.ref k1, .ref k0], h) Q = (okp h k1 10 = true ∧ Tr sc d 201 (363, [l0, l1, l2, l3, l4, l5, l6, l7, l8, l9, l10, l11, l12, l13, l14], [.int (hI h k1 31), .ref k0], h) Q) := t_gd k_201_360 rfl
theorem k_201_363 : lk 201 363 = some (.aload_n 0, 364, 0, 0, .null) := by decide +kernel
theorem x_201_363 : Tr sc d 201 (363, [some (.ref xk), l1, l2, l3, l4, l5, l6, l7, l8, l9, l10, l11, l12, l13, l14], [.int i1, .ref k0], h) Q = Tr sc d 201 (364, [some (.ref xk), l1, l2, l3, l4, l5, l6, l7, l8, l9, l10, l11, l12, l13, l14], [.ref xk, .int i1, .ref k0], h) Q := t_aload_n k_201_363 rfl
theorem k_201_364 : lk 201 364 = some (.getfield 72, 367, 10, 35, .null) := by decide +kernel
theorem x_201_364 : Tr sc d 201 (364, [l0, l1, l2, l3, l4, l5, l6, l7, l8, l9, l10, l11, l12, l13, l14], [.ref k2, .int i1, .ref k0], h) Q = (okp h k2 10 = true ∧ ∃ q, hR h k2 35 = some q ∧ Tr sc d 201 (367, [l0, l1, l2, l3, l4, l5, l6, l7, l8, l9, l10, l11, l12, l13, l14], [.ref q, .int i1, .ref k0], h) Q) := t_getr k_201_364
theorem k_201_367 : lk 201 367 = some (.iload 7, 369, 7, 0, .null) := by decide +kernel
theorem x_201_367 : Tr sc d 201 (367, [l0, l1, l2, l3, l4, l5, l6, some (.int x), l8, l9, l10, l11, l12, l13, l14], [.ref k2, .int i1, .ref k0], h) Q = Tr sc d 201 (369, [l0, l1, l2, l3, l4, l5, l6, some (.int x), l8, l9, l10, l11, l12, l13, l14], [.int x, .ref k2, .int i1, .ref k0], h) Q := t_iload k_201_367 rfl
theorem k_201_369 : lk 201 369 = some (.laload, 370, 0, 0, .null) := by decide +kernel
theorem x_201_369 : Tr sc d 201 (369, [l0, l1, l2, l3, l4, l5, l6, l7, l8, l9, l10, l11, l12, l13, l14], [.int i3, .ref k2, .int i1, .ref k0], h) Q = ((okp h k2 12 && inb i3 (LN k2)) = true ∧ Tr sc d 201 (370, [l0, l1, l2, l3, l4, l5, l6, l7, l8, l9, l10, l11, l12, l13, l14], [.long (hL h k2 i3.toNatClampNeg), .int i1, .ref k0], h) Q) := t_gd k_201_369 rfl
theorem k_201_370 : lk 201 370 = some (.lastore, 371, 0, 0, .null) := by decide +kernel
theorem x_201_370 : Tr sc d 201 (370, [l0, l1, l2, l3, l4, l5, l6, l7, l8, l9, l10, l11, l12, l13, l14], [.long j2, .int i1, .ref k0], h) Q = ((okp h k0 12 && inb i1 (LN k0)) = true ∧ Tr sc d 201 (371, [l0, l1, l2, l3, l4, l5, l6, l7, l8, l9, l10, l11, l12, l13, l14], [], (sL h k0 i1.toNatClampNeg j2)) Q) := t_gd k_201_370 rfl
theorem k_201_371 : lk 201 371 = some (.aload_n 0, 372, 0, 0, .null) := by decide +kernel
theorem x_201_371 : Tr sc d 201 (371, [some (.ref xk), l1, l2, l3, l4, l5, l6, l7, l8, l9, l10, l11, l12, l13, l14], [], h) Q = Tr sc d 201 (372, [some (.ref xk), l1, l2, l3, l4, l5, l6, l7, l8, l9, l10, l11, l12, l13, l14], [.ref xk], h) Q := t_aload_n k_201_371 rfl
theorem k_201_372 : lk 201 372 = some (.dup, 373, 0, 0, .null) := by decide +kernel
theorem x_201_372 : Tr sc d 201 (372, [l0, l1, l2, l3, l4, l5, l6, l7, l8, l9, l10, l11, l12, l13, l14], [.ref k0], h) Q = Tr sc d 201 (373, [l0, l1, l2, l3, l4, l5, l6, l7, l8, l9, l10, l11, l12, l13, l14], [.ref k0, .ref k0], h) Q := t_go k_201_372 rfl
theorem k_201_373 : lk 201 373 = some (.getfield 270, 376, 10, 31, .int 0) := by decide +kernel
theorem x_201_373 : Tr sc d 201 (373, [l0, l1, l2, l3, l4, l5, l6, l7, l8, l9, l10, l11, l12, l13, l14], [.ref k1, .ref k0], h) Q = (okp h k1 10 = true ∧ Tr sc d 201 (376, [l0, l1, l2, l3, l4, l5, l6, l7, l8, l9, l10, l11, l12, l13, l14], [.int (hI h k1 31), .ref k0], h) Q) := t_gd k_201_373 rfl
theorem k_201_376 : lk 201 376 = some (.iconst 1, 377, 0, 0, .int 1) := by decide +kernel
theorem x_201_376 : Tr sc d 201 (376, [l0, l1, l2, l3, l4, l5, l6, l7, l8, l9, l10, l11, l12, l13, l14], [.int i1, .ref k0], h) Q = Tr sc d 201 (377, [l0, l1, l2, l3, l4, l5, l6, l7, l8, l9, l10, l11, l12, l13, l14], [.int 1, .int i1, .ref k0], h) Q := t_go k_201_376 rfl
theorem k_201_377 : lk 201 377 = some (.iadd, 378, 0, 0, .null) := by decide +kernel
theorem x_201_377 : Tr sc d 201 (377, [l0, l1, l2, l3, l4, l5, l6, l7, l8, l9, l10, l11, l12, l13, l14], [.int i2, .int i1, .ref k0], h) Q = Tr sc d 201 (378, [l0, l1, l2, l3, l4, l5, l6, l7, l8, l9, l10, l11, l12, l13, l14], [.int (i1 + i2), .ref k0], h) Q := t_go k_201_377 rfl
theorem k_201_378 : lk 201 378 = some (.putfield 270, 381, 10, 31, .int 0) := by decide +kernel
theorem x_201_378 : Tr sc d 201 (378, [l0, l1, l2, l3, l4, l5, l6, l7, l8, l9, l10, l11, l12, l13, l14], [.int i1, .ref k0], h) Q = (okp h k0 10 = true ∧ Tr sc d 201 (381, [l0, l1, l2, l3, l4, l5, l6, l7, l8, l9, l10, l11, l12, l13, l14], [], (sI h k0 31 i1)) Q) := t_gd k_201_378 rfl
theorem k_201_381 : lk 201 381 = some (.iinc 7 1, 384, 7, 0, .int 1) := by decide +kernel
theorem x_201_381 : Tr sc d 201 (381, [l0, l1, l2, l3, l4, l5, l6, some (.int x), l8, l9, l10, l11, l12, l13, l14], [], h) Q = Tr sc d 201 (384, [l0, l1, l2, l3, l4, l5, cl2 l6, some (.int (x + 1)), l8, l9, l10, l11, l12, l13, l14], [], h) Q := t_inc k_201_381 rfl (Nat.le_of_ble_eq_true rfl)
theorem k_201_384 : lk 201 384 = some (.goto (-103), 387, 281, 0, .null) := by decide +kernel
theorem x_201_384 : Tr sc d 201 (384, [l0, l1, l2, l3, l4, l5, l6, l7, l8, l9, l10, l11, l12, l13, l14], [], h) Q = Tr sc d 201 (281, [l0, l1, l2, l3, l4, l5, l6, l7, l8, l9, l10, l11, l12, l13, l14], [], h) Q := t_go k_201_384 rfl
theorem k_201_387 : lk 201 387 = some (.iload_n 3, 388, 3, 0, .null) := by decide +kernel
theorem x_201_387 : Tr sc d 201 (387, [l0, l1, l2, some (.int x), l4, l5, l6, l7, l8, l9, l10, l11, l12, l13, l14], [], h) Q = Tr sc d 201 (388, [l0, l1, l2, some (.int x), l4, l5, l6, l7, l8, l9, l10, l11, l12, l13, l14], [.int x], h) Q := t_iload_n k_201_387 rfl
theorem k_201_388 : lk 201 388 = some (.aload_n 0, 389, 0, 0, .null) := by decide +kernel
theorem x_201_388 : Tr sc d 201 (388, [some (.ref xk), l1, l2, l3, l4, l5, l6, l7, l8, l9, l10, l11, l12, l13, l14], [.int i0], h) Q = Tr sc d 201 (389, [some (.ref xk), l1, l2, l3, l4, l5, l6, l7, l8, l9, l10, l11, l12, l13, l14], [.ref xk, .int i0], h) Q := t_aload_n k_201_388 rfl
theorem k_201_389 : lk 201 389 = some (.getfield 38, 392, 10, 17, .null) := by decide +kernel
theorem x_201_389 : Tr sc d 201 (389, [l0, l1, l2, l3, l4, l5, l6, l7, l8, l9, l10, l11, l12, l13, l14], [.ref k1, .int i0], h) Q = (okp h k1 10 = true ∧ ∃ q, hR h k1 17 = some q ∧ Tr sc d 201 (392, [l0, l1, l2, l3, l4, l5, l6, l7, l8, l9, l10, l11, l12, l13, l14], [.ref q, .int i0], h) Q) := t_getr k_201_389
theorem k_201_392 : lk 201 392 = some (.iload_n 1, 393, 1, 0, .null) := by decide +kernel
theorem x_201_392 : Tr sc d 201 (392, [l0, some (.int x), l2, l3, l4, l5, l6, l7, l8, l9, l10, l11, l12, l13, l14], [.ref k1, .int i0], h) Q = Tr sc d 201 (393, [l0, some (.int x), l2, l3, l4, l5, l6, l7, l8, l9, l10, l11, l12, l13, l14], [.int x, .ref k1, .int i0], h) Q := t_iload_n k_201_392 rfl
theorem k_201_393 : lk 201 393 = some (.iaload, 394, 0, 0, .null) := by decide +kernel
theorem x_201_393 : Tr sc d 201 (393, [l0, l1, l2, l3, l4, l5, l6, l7, l8, l9, l10, l11, l12, l13, l14], [.int i2, .ref k1, .int i0], h) Q = (iOk sc h k1 i2 ∧ Tr sc d 201 (394, [l0, l1, l2, l3, l4, l5, l6, l7, l8, l9, l10, l11, l12, l13, l14], [.int (iRd sc h k1 i2), .int i0], h) Q) := t_iald k_201_393
theorem k_201_394 : lk 201 394 = some (.imul, 395, 0, 0, .null) := by decide +kernel
theorem x_201_394 : Tr sc d 201 (394, [l0, l1, l2, l3, l4, l5, l6, l7, l8, l9, l10, l11, l12, l13, l14], [.int i1, .int i0], h) Q = Tr sc d 201 (395, [l0, l1, l2, l3, l4, l5, l6, l7, l8, l9, l10, l11, l12, l13, l14], [.int (i0 * i1)], h) Q := t_go k_201_394 rfl
theorem k_201_395 : lk 201 395 = some (.istore_n 3, 396, 3, 0, .null) := by decide +kernel
theorem x_201_395 : Tr sc d 201 (395, [l0, l1, l2, l3, l4, l5, l6, l7, l8, l9, l10, l11, l12, l13, l14], [.int i0], h) Q = Tr sc d 201 (396, [l0, l1, cl2 l2, some (.int i0), l4, l5, l6, l7, l8, l9, l10, l11, l12, l13, l14], [], h) Q := t_istore_n k_201_395 (Nat.le_of_ble_eq_true rfl)
theorem k_201_396 : lk 201 396 = some (.iinc 4 1, 399, 4, 0, .int 1) := by decide +kernel
theorem x_201_396 : Tr sc d 201 (396, [l0, l1, l2, l3, some (.int x), l5, l6, l7, l8, l9, l10, l11, l12, l13, l14], [], h) Q = Tr sc d 201 (399, [l0, l1, l2, cl2 l3, some (.int (x + 1)), l5, l6, l7, l8, l9, l10, l11, l12, l13, l14], [], h) Q := t_inc k_201_396 rfl (Nat.le_of_ble_eq_true rfl)
theorem k_201_399 : lk 201 399 = some (.goto (-360), 402, 39, 0, .null) := by decide +kernel
theorem x_201_399 : Tr sc d 201 (399, [l0, l1, l2, l3, l4, l5, l6, l7, l8, l9, l10, l11, l12, l13, l14], [], h) Q = Tr sc d 201 (39, [l0, l1, l2, l3, l4, l5, l6, l7, l8, l9, l10, l11, l12, l13, l14], [], h) Q := t_go k_201_399 rfl
theorem k_201_402 : lk 201 402 = some (.return_, 403, 0, 0, .null) := by decide +kernel
theorem x_201_402 : Tr sc d 201 (402, [l0, l1, l2, l3, l4, l5, l6, l7, l8, l9, l10, l11, l12, l13, l14], [], h) Q = Q (none, h) := t_ret k_201_402 (by rw [r_201]; rfl)
theorem e_201 : Tr sc d 201 (ent0 201 [.ref k0, .int i1, .int i2] h) Q = Tr sc d 201 (0, [some (.ref k0), some (.int i1), some (.int i2), none, none, none, none, none, none, none, none, none, none, none, none], [], h) Q := by
  have e : mL 201 = 15 := by decide +kernel
  unfold ent0
  rw [e]
  rfl
theorem r_202 : mR 202 = none := by decide +kernel
theorem k_202_0 : lk 202 0 = some (.iload_n 1, 1, 1, 0, .null) := by decide +kernel
theorem x_202_0 : Tr sc d 202 (0, [l0, some (.int x), l2, l3, l4, l5, l6, l7], [], h) Q = Tr sc d 202 (1, [l0, some (.int x), l2, l3, l4, l5, l6, l7], [.int x], h) Q := t_iload_n k_202_0 rfl
theorem k_202_1 : lk 202 1 = some (.istore_n 3, 2, 3, 0, .null) := by decide +kernel
theorem x_202_1 : Tr sc d 202 (1, [l0, l1, l2, l3, l4, l5, l6, l7], [.int i0], h) Q = Tr sc d 202 (2, [l0, l1, cl2 l2, some (.int i0), l4, l5, l6, l7], [], h) Q := t_istore_n k_202_1 (Nat.le_of_ble_eq_true rfl)
theorem k_202_2 : lk 202 2 = some (.iconst 1, 3, 0, 0, .int 1) := by decide +kernel
theorem x_202_2 : Tr sc d 202 (2, [l0, l1, l2, l3, l4, l5, l6, l7], [], h) Q = Tr sc d 202 (3, [l0, l1, l2, l3, l4, l5, l6, l7], [.int 1], h) Q := t_go k_202_2 rfl
theorem k_202_3 : lk 202 3 = some (.istore 4, 5, 4, 0, .null) := by decide +kernel
theorem x_202_3 : Tr sc d 202 (3, [l0, l1, l2, l3, l4, l5, l6, l7], [.int i0], h) Q = Tr sc d 202 (5, [l0, l1, l2, cl2 l3, some (.int i0), l5, l6, l7], [], h) Q := t_istore k_202_3 (Nat.le_of_ble_eq_true rfl)
theorem k_202_5 : lk 202 5 = some (.iload 4, 7, 4, 0, .null) := by decide +kernel
theorem x_202_5 : Tr sc d 202 (5, [l0, l1, l2, l3, some (.int x), l5, l6, l7], [], h) Q = Tr sc d 202 (7, [l0, l1, l2, l3, some (.int x), l5, l6, l7], [.int x], h) Q := t_iload k_202_5 rfl
theorem k_202_7 : lk 202 7 = some (.ifCond .eq 123, 10, 130, 0, .null) := by decide +kernel
theorem x_202_7 : Tr sc d 202 (7, [l0, l1, l2, l3, l4, l5, l6, l7], [.int i0], h) Q = if i0 = 0 then Tr sc d 202 (130, [l0, l1, l2, l3, l4, l5, l6, l7], [], h) Q else Tr sc d 202 (10, [l0, l1, l2, l3, l4, l5, l6, l7], [], h) Q := t_if k_202_7 rfl
theorem k_202_10 : lk 202 10 = some (.iconst 2, 11, 0, 0, .int 2) := by decide +kernel
theorem x_202_10 : Tr sc d 202 (10, [l0, l1, l2, l3, l4, l5, l6, l7], [], h) Q = Tr sc d 202 (11, [l0, l1, l2, l3, l4, l5, l6, l7], [.int 2], h) Q := t_go k_202_10 rfl
theorem k_202_11 : lk 202 11 = some (.iload_n 3, 12, 3, 0, .null) := by decide +kernel
theorem x_202_11 : Tr sc d 202 (11, [l0, l1, l2, some (.int x), l4, l5, l6, l7], [.int i0], h) Q = Tr sc d 202 (12, [l0, l1, l2, some (.int x), l4, l5, l6, l7], [.int x, .int i0], h) Q := t_iload_n k_202_11 rfl
theorem k_202_12 : lk 202 12 = some (.imul, 13, 0, 0, .null) := by decide +kernel
theorem x_202_12 : Tr sc d 202 (12, [l0, l1, l2, l3, l4, l5, l6, l7], [.int i1, .int i0], h) Q = Tr sc d 202 (13, [l0, l1, l2, l3, l4, l5, l6, l7], [.int (i0 * i1)], h) Q := t_go k_202_12 rfl
theorem k_202_13 : lk 202 13 = some (.iconst 1, 14, 0, 0, .int 1) := by decide +kernel
theorem x_202_13 : Tr sc d 202 (13, [l0, l1, l2, l3, l4, l5, l6, l7], [.int i0], h) Q = Tr sc d 202 (14, [l0, l1, l2, l3, l4, l5, l6, l7], [.int 1, .int i0], h) Q := t_go k_202_13 rfl
theorem k_202_14 : lk 202 14 = some (.iadd, 15, 0, 0, .null) := by decide +kernel
theorem x_202_14 : Tr sc d 202 (14, [l0, l1, l2, l3, l4, l5, l6, l7], [.int i1, .int i0], h) Q = Tr sc d 202 (15, [l0, l1, l2, l3, l4, l5, l6, l7], [.int (i0 + i1)], h) Q := t_go k_202_14 rfl
theorem k_202_15 : lk 202 15 = some (.iload_n 2, 16, 2, 0, .null) := by decide +kernel
theorem x_202_15 : Tr sc d 202 (15, [l0, l1, some (.int x), l3, l4, l5, l6, l7], [.int i0], h) Q = Tr sc d 202 (16, [l0, l1, some (.int x), l3, l4, l5, l6, l7], [.int x, .int i0], h) Q := t_iload_n k_202_15 rfl
theorem k_202_16 : lk 202 16 = some (.if_icmp .ge 114, 19, 130, 0, .null) := by decide +kernel
theorem x_202_16 : Tr sc d 202 (16, [l0, l1, l2, l3, l4, l5, l6, l7], [.int i1, .int i0], h) Q = if i1 ≤ i0 then Tr sc d 202 (130, [l0, l1, l2, l3, l4, l5, l6, l7], [], h) Q else Tr sc d 202 (19, [l0, l1, l2, l3, l4, l5, l6, l7], [], h) Q := t_if k_202_16 rfl
theorem k_202_19 : lk 202 19 = some (.iconst 2, 20, 0, 0, .int 2) := by decide +kernel
theorem x_202_19 : Tr sc d 202 (19, [l0, l1, l2, l3, l4, l5, l6, l7], [], h) Q = Tr sc d 202 (20, [l0, l1, l2, l3, l4, l5, l6, l7], [.int 2], h) Q := t_go k_202_19 rfl
theorem k_202_20 : lk 202 20 = some (.iload_n 3, 21, 3, 0, .null) := by decide +kernel
theorem x_202_20 : Tr sc d 202 (20, [l0, l1, l2, some (.int x), l4, l5, l6, l7], [.int i0], h) Q = Tr sc d 202 (21, [l0, l1, l2, some (.int x), l4, l5, l6, l7], [.int x, .int i0], h) Q := t_iload_n k_202_20 rfl
theorem k_202_21 : lk 202 21 = some (.imul, 22, 0, 0, .null) := by decide +kernel
theorem x_202_21 : Tr sc d 202 (21, [l0, l1, l2, l3, l4, l5, l6, l7], [.int i1, .int i0], h) Q = Tr sc d 202 (22, [l0, l1, l2, l3, l4, l5, l6, l7], [.int (i0 * i1)], h) Q := t_go k_202_21 rfl
theorem k_202_22 : lk 202 22 = some (.iconst 1, 23, 0, 0, .int 1) := by decide +kernel
theorem x_202_22 : Tr sc d 202 (22, [l0, l1, l2, l3, l4, l5, l6, l7], [.int i0], h) Q = Tr sc d 202 (23, [l0, l1, l2, l3, l4, l5, l6, l7], [.int 1, .int i0], h) Q := t_go k_202_22 rfl
theorem k_202_23 : lk 202 23 = some (.iadd, 24, 0, 0, .null) := by decide +kernel
theorem x_202_23 : Tr sc d 202 (23, [l0, l1, l2, l3, l4, l5, l6, l7], [.int i1, .int i0], h) Q = Tr sc d 202 (24, [l0, l1, l2, l3, l4, l5, l6, l7], [.int (i0 + i1)], h) Q := t_go k_202_23 rfl
theorem k_202_24 : lk 202 24 = some (.istore 5, 26, 5, 0, .null) := by decide +kernel
theorem x_202_24 : Tr sc d 202 (24, [l0, l1, l2, l3, l4, l5, l6, l7], [.int i0], h) Q = Tr sc d 202 (26, [l0, l1, l2, l3, cl2 l4, some (.int i0), l6, l7], [], h) Q := t_istore k_202_24 (Nat.le_of_ble_eq_true rfl)
theorem k_202_26 : lk 202 26 = some (.iload 5, 28, 5, 0, .null) := by decide +kernel
theorem x_202_26 : Tr sc d 202 (26, [l0, l1, l2, l3, l4, some (.int x), l6, l7], [], h) Q = Tr sc d 202 (28, [l0, l1, l2, l3, l4, some (.int x), l6, l7], [.int x], h) Q := t_iload k_202_26 rfl
theorem k_202_28 : lk 202 28 = some (.iconst 1, 29, 0, 0, .int 1) := by decide +kernel
theorem x_202_28 : Tr sc d 202 (28, [l0, l1, l2, l3, l4, l5, l6, l7], [.int i0], h) Q = Tr sc d 202 (29, [l0, l1, l2, l3, l4, l5, l6, l7], [.int 1, .int i0], h) Q := t_go k_202_28 rfl
theorem k_202_29 : lk 202 29 = some (.iadd, 30, 0, 0, .null) := by decide +kernel
theorem x_202_29 : Tr sc d 202 (29, [l0, l1, l2, l3, l4, l5, l6, l7], [.int i1, .int i0], h) Q = Tr sc d 202 (30, [l0, l1, l2, l3, l4, l5, l6, l7], [.int (i0 + i1)], h) Q := t_go k_202_29 rfl
theorem k_202_30 : lk 202 30 = some (.iload_n 2, 31, 2, 0, .null) := by decide +kernel
theorem x_202_30 : Tr sc d 202 (30, [l0, l1, some (.int x), l3, l4, l5, l6, l7], [.int i0], h) Q = Tr sc d 202 (31, [l0, l1, some (.int x), l3, l4, l5, l6, l7], [.int x, .int i0], h) Q := t_iload_n k_202_30 rfl
theorem k_202_31 : lk 202 31 = some (.if_icmp .ge 30, 34, 61, 0, .null) := by decide +kernel
theorem x_202_31 : Tr sc d 202 (31, [l0, l1, l2, l3, l4, l5, l6, l7], [.int i1, .int i0], h) Q = if i1 ≤ i0 then Tr sc d 202 (61, [l0, l1, l2, l3, l4, l5, l6, l7], [], h) Q else Tr sc d 202 (34, [l0, l1, l2, l3, l4, l5, l6, l7], [], h) Q := t_if k_202_31 rfl
theorem k_202_34 : lk 202 34 = some (.aload_n 0, 35, 0, 0, .null) := by decide +kernel
theorem x_202_34 : Tr sc d 202 (34, [some (.ref xk), l1, l2, l3, l4, l5, l6, l7], [], h) Q = Tr sc d 202 (35, [some (.ref xk), l1, l2, l3, l4, l5, l6, l7], [.ref xk], h) Q := t_aload_n k_202_34 rfl
theorem k_202_35 : lk 202 35 = some (.getfield 75, 38, 10, 38, .null) := by decide +kernel
theorem x_202_35 : Tr sc d 202 (35, [l0, l1, l2, l3, l4, l5, l6, l7], [.ref k0], h) Q = (okp h k0 10 = true ∧ ∃ q, hR h k0 38 = some q ∧ Tr sc d 202 (38, [l0, l1, l2, l3, l4, l5, l6, l7], [.ref q], h) Q) := t_getr k_202_35
theorem k_202_38 : lk 202 38 = some (.iload 5, 40, 5, 0, .null) := by decide +kernel
theorem x_202_38 : Tr sc d 202 (38, [l0, l1, l2, l3, l4, some (.int x), l6, l7], [.ref k0], h) Q = Tr sc d 202 (40, [l0, l1, l2, l3, l4, some (.int x), l6, l7], [.int x, .ref k0], h) Q := t_iload k_202_38 rfl
theorem k_202_40 : lk 202 40 = some (.iconst 1, 41, 0, 0, .int 1) := by decide +kernel
theorem x_202_40 : Tr sc d 202 (40, [l0, l1, l2, l3, l4, l5, l6, l7], [.int i1, .ref k0], h) Q = Tr sc d 202 (41, [l0, l1, l2, l3, l4, l5, l6, l7], [.int 1, .int i1, .ref k0], h) Q := t_go k_202_40 rfl
theorem k_202_41 : lk 202 41 = some (.iadd, 42, 0, 0, .null) := by decide +kernel
theorem x_202_41 : Tr sc d 202 (41, [l0, l1, l2, l3, l4, l5, l6, l7], [.int i2, .int i1, .ref k0], h) Q = Tr sc d 202 (42, [l0, l1, l2, l3, l4, l5, l6, l7], [.int (i1 + i2), .ref k0], h) Q := t_go k_202_41 rfl
theorem k_202_42 : lk 202 42 = some (.laload, 43, 0, 0, .null) := by decide +kernel
theorem x_202_42 : Tr sc d 202 (42, [l0, l1, l2, l3, l4, l5, l6, l7], [.int i1, .ref k0], h) Q = ((okp h k0 12 && inb i1 (LN k0)) = true ∧ Tr sc d 202 (43, [l0, l1, l2, l3, l4, l5, l6, l7], [.long (hL h k0 i1.toNatClampNeg)], h) Q) := t_gd k_202_42 rfl
theorem k_202_43 : lk 202 43 = some (.aload_n 0, 44, 0, 0, .null) := by decide +kernel
theorem x_202_43 : Tr sc d 202 (43, [some (.ref xk), l1, l2, l3, l4, l5, l6, l7], [.long j0], h) Q = Tr sc d 202 (44, [some (.ref xk), l1, l2, l3, l4, l5, l6, l7], [.ref xk, .long j0], h) Q := t_aload_n k_202_43 rfl
theorem k_202_44 : lk 202 44 = some (.getfield 75, 47, 10, 38, .null) := by decide +kernel
theorem x_202_44 : Tr sc d 202 (44, [l0, l1, l2, l3, l4, l5, l6, l7], [.ref k1, .long j0], h) Q = (okp h k1 10 = true ∧ ∃ q, hR h k1 38 = some q ∧ Tr sc d 202 (47, [l0, l1, l2, l3, l4, l5, l6, l7], [.ref q, .long j0], h) Q) := t_getr k_202_44
theorem k_202_47 : lk 202 47 = some (.iload 5, 49, 5, 0, .null) := by decide +kernel
theorem x_202_47 : Tr sc d 202 (47, [l0, l1, l2, l3, l4, some (.int x), l6, l7], [.ref k1, .long j0], h) Q = Tr sc d 202 (49, [l0, l1, l2, l3, l4, some (.int x), l6, l7], [.int x, .ref k1, .long j0], h) Q := t_iload k_202_47 rfl
theorem k_202_49 : lk 202 49 = some (.laload, 50, 0, 0, .null) := by decide +kernel
theorem x_202_49 : Tr sc d 202 (49, [l0, l1, l2, l3, l4, l5, l6, l7], [.int i2, .ref k1, .long j0], h) Q = ((okp h k1 12 && inb i2 (LN k1)) = true ∧ Tr sc d 202 (50, [l0, l1, l2, l3, l4, l5, l6, l7], [.long (hL h k1 i2.toNatClampNeg), .long j0], h) Q) := t_gd k_202_49 rfl
theorem k_202_50 : lk 202 50 = some (.lcmp, 51, 0, 0, .null) := by decide +kernel
theorem x_202_50 : Tr sc d 202 (50, [l0, l1, l2, l3, l4, l5, l6, l7], [.long j1, .long j0], h) Q = Tr sc d 202 (51, [l0, l1, l2, l3, l4, l5, l6, l7], [.int (lg_cmp j0 j1)], h) Q := t_go k_202_50 rfl
theorem k_202_51 : lk 202 51 = some (.ifCond .le 10, 54, 61, 0, .null) := by decide +kernel
theorem x_202_51 : Tr sc d 202 (51, [l0, l1, l2, l3, l4, l5, l6, l7], [.int i0], h) Q = if i0 ≤ 0 then Tr sc d 202 (61, [l0, l1, l2, l3, l4, l5, l6, l7], [], h) Q else Tr sc d 202 (54, [l0, l1, l2, l3, l4, l5, l6, l7], [], h) Q := t_if k_202_51 rfl
theorem k_202_54 : lk 202 54 = some (.iload 5, 56, 5, 0, .null) := by decide +kernel
theorem x_202_54 : Tr sc d 202 (54, [l0, l1, l2, l3, l4, some (.int x), l6, l7], [], h) Q = Tr sc d 202 (56, [l0, l1, l2, l3, l4, some (.int x), l6, l7], [.int x], h) Q := t_iload k_202_54 rfl
theorem k_202_56 : lk 202 56 = some (.iconst 1, 57, 0, 0, .int 1) := by decide +kernel
theorem x_202_56 : Tr sc d 202 (56, [l0, l1, l2, l3, l4, l5, l6, l7], [.int i0], h) Q = Tr sc d 202 (57, [l0, l1, l2, l3, l4, l5, l6, l7], [.int 1, .int i0], h) Q := t_go k_202_56 rfl
theorem k_202_57 : lk 202 57 = some (.iadd, 58, 0, 0, .null) := by decide +kernel
theorem x_202_57 : Tr sc d 202 (57, [l0, l1, l2, l3, l4, l5, l6, l7], [.int i1, .int i0], h) Q = Tr sc d 202 (58, [l0, l1, l2, l3, l4, l5, l6, l7], [.int (i0 + i1)], h) Q := t_go k_202_57 rfl
theorem k_202_58 : lk 202 58 = some (.goto 5, 61, 63, 0, .null) := by decide +kernel
theorem x_202_58 : Tr sc d 202 (58, [l0, l1, l2, l3, l4, l5, l6, l7], [.int i0], h) Q = Tr sc d 202 (63, [l0, l1, l2, l3, l4, l5, l6, l7], [.int i0], h) Q := t_go k_202_58 rfl
theorem k_202_61 : lk 202 61 = some (.iload 5, 63, 5, 0, .null) := by decide +kernel
theorem x_202_61 : Tr sc d 202 (61, [l0, l1, l2, l3, l4, some (.int x), l6, l7], [], h) Q = Tr sc d 202 (63, [l0, l1, l2, l3, l4, some (.int x), l6, l7], [.int x], h) Q := t_iload k_202_61 rfl
theorem k_202_63 : lk 202 63 = some (.istore 5, 65, 5, 0, .null) := by decide +kernel
theorem x_202_63 : Tr sc d 202 (63, [l0, l1, l2, l3, l4, l5, l6, l7], [.int i0], h) Q = Tr sc d 202 (65, [l0, l1, l2, l3, cl2 l4, some (.int i0), l6, l7], [], h) Q := t_istore k_202_63 (Nat.le_of_ble_eq_true rfl)
theorem k_202_65 : lk 202 65 = some (.aload_n 0, 66, 0, 0, .null) := by decide +kernel
theorem x_202_65 : Tr sc d 202 (65, [some (.ref xk), l1, l2, l3, l4, l5, l6, l7], [], h) Q = Tr sc d 202 (66, [some (.ref xk), l1, l2, l3, l4, l5, l6, l7], [.ref xk], h) Q := t_aload_n k_202_65 rfl
theorem k_202_66 : lk 202 66 = some (.getfield 75, 69, 10, 38, .null) := by decide +kernel
theorem x_202_66 : Tr sc d 202 (66, [l0, l1, l2, l3, l4, l5, l6, l7], [.ref k0], h) Q = (okp h k0 10 = true ∧ ∃ q, hR h k0 38 = some q ∧ Tr sc d 202 (69, [l0, l1, l2, l3, l4, l5, l6, l7], [.ref q], h) Q) := t_getr k_202_66
theorem k_202_69 : lk 202 69 = some (.iload 5, 71, 5, 0, .null) := by decide +kernel
theorem x_202_69 : Tr sc d 202 (69, [l0, l1, l2, l3, l4, some (.int x), l6, l7], [.ref k0], h) Q = Tr sc d 202 (71, [l0, l1, l2, l3, l4, some (.int x), l6, l7], [.int x, .ref k0], h) Q := t_iload k_202_69 rfl
theorem k_202_71 : lk 202 71 = some (.laload, 72, 0, 0, .null) := by decide +kernel
theorem x_202_71 : Tr sc d 202 (71, [l0, l1, l2, l3, l4, l5, l6, l7], [.int i1, .ref k0], h) Q = ((okp h k0 12 && inb i1 (LN k0)) = true ∧ Tr sc d 202 (72, [l0, l1, l2, l3, l4, l5, l6, l7], [.long (hL h k0 i1.toNatClampNeg)], h) Q) := t_gd k_202_71 rfl
theorem k_202_72 : lk 202 72 = some (.aload_n 0, 73, 0, 0, .null) := by decide +kernel
theorem x_202_72 : Tr sc d 202 (72, [some (.ref xk), l1, l2, l3, l4, l5, l6, l7], [.long j0], h) Q = Tr sc d 202 (73, [some (.ref xk), l1, l2, l3, l4, l5, l6, l7], [.ref xk, .long j0], h) Q := t_aload_n k_202_72 rfl
theorem k_202_73 : lk 202 73 = some (.getfield 75, 76, 10, 38, .null) := by decide +kernel
theorem x_202_73 : Tr sc d 202 (73, [l0, l1, l2, l3, l4, l5, l6, l7], [.ref k1, .long j0], h) Q = (okp h k1 10 = true ∧ ∃ q, hR h k1 38 = some q ∧ Tr sc d 202 (76, [l0, l1, l2, l3, l4, l5, l6, l7], [.ref q, .long j0], h) Q) := t_getr k_202_73
theorem k_202_76 : lk 202 76 = some (.iload_n 3, 77, 3, 0, .null) := by decide +kernel
theorem x_202_76 : Tr sc d 202 (76, [l0, l1, l2, some (.int x), l4, l5, l6, l7], [.ref k1, .long j0], h) Q = Tr sc d 202 (77, [l0, l1, l2, some (.int x), l4, l5, l6, l7], [.int x, .ref k1, .long j0], h) Q := t_iload_n k_202_76 rfl
theorem k_202_77 : lk 202 77 = some (.laload, 78, 0, 0, .null) := by decide +kernel
theorem x_202_77 : Tr sc d 202 (77, [l0, l1, l2, l3, l4, l5, l6, l7], [.int i2, .ref k1, .long j0], h) Q = ((okp h k1 12 && inb i2 (LN k1)) = true ∧ Tr sc d 202 (78, [l0, l1, l2, l3, l4, l5, l6, l7], [.long (hL h k1 i2.toNatClampNeg), .long j0], h) Q) := t_gd k_202_77 rfl
theorem k_202_78 : lk 202 78 = some (.lcmp, 79, 0, 0, .null) := by decide +kernel
theorem x_202_78 : Tr sc d 202 (78, [l0, l1, l2, l3, l4, l5, l6, l7], [.long j1, .long j0], h) Q = Tr sc d 202 (79, [l0, l1, l2, l3, l4, l5, l6, l7], [.int (lg_cmp j0 j1)], h) Q := t_go k_202_78 rfl
theorem k_202_79 : lk 202 79 = some (.ifCond .le 7, 82, 86, 0, .null) := by decide +kernel
theorem x_202_79 : Tr sc d 202 (79, [l0, l1, l2, l3, l4, l5, l6, l7], [.int i0], h) Q = if i0 ≤ 0 then Tr sc d 202 (86, [l0, l1, l2, l3, l4, l5, l6, l7], [], h) Q else Tr sc d 202 (82, [l0, l1, l2, l3, l4, l5, l6, l7], [], h) Q := t_if k_202_79 rfl
theorem k_202_82 : lk 202 82 = some (.iconst 1, 83, 0, 0, .int 1) := by decide +kernel
theorem x_202_82 : Tr sc d 202 (82, [l0, l1, l2, l3, l4, l5, l6, l7], [], h) Q = Tr sc d 202 (83, [l0, l1, l2, l3, l4, l5, l6, l7], [.int 1], h) Q := t_go k_202_82 rfl
theorem k_202_83 : lk 202 83 = some (.goto 4, 86, 87, 0, .null) := by decide +kernel
theorem x_202_83 : Tr sc d 202 (83, [l0, l1, l2, l3, l4, l5, l6, l7], [.int i0], h) Q = Tr sc d 202 (87, [l0, l1, l2, l3, l4, l5, l6, l7], [.int i0], h) Q := t_go k_202_83 rfl
theorem k_202_86 : lk 202 86 = some (.iconst 0, 87, 0, 0, .int 0) := by decide +kernel
theorem x_202_86 : Tr sc d 202 (86, [l0, l1, l2, l3, l4, l5, l6, l7], [], h) Q = Tr sc d 202 (87, [l0, l1, l2, l3, l4, l5, l6, l7], [.int 0], h) Q := t_go k_202_86 rfl
theorem k_202_87 : lk 202 87 = some (.istore 4, 89, 4, 0, .null) := by decide +kernel
theorem x_202_87 : Tr sc d 202 (87, [l0, l1, l2, l3, l4, l5, l6, l7], [.int i0], h) Q = Tr sc d 202 (89, [l0, l1, l2, cl2 l3, some (.int i0), l5, l6, l7], [], h) Q := t_istore k_202_87 (Nat.le_of_ble_eq_true rfl)
theorem k_202_89 : lk 202 89 = some (.iload 4, 91, 4, 0, .null) := by decide +kernel
theorem x_202_89 : Tr sc d 202 (89, [l0, l1, l2, l3, some (.int x), l5, l6, l7], [], h) Q = Tr sc d 202 (91, [l0, l1, l2, l3, some (.int x), l5, l6, l7], [.int x], h) Q := t_iload k_202_89 rfl
theorem k_202_91 : lk 202 91 = some (.ifCond .eq 36, 94, 127, 0, .null) := by decide +kernel
theorem x_202_91 : Tr sc d 202 (91, [l0, l1, l2, l3, l4, l5, l6, l7], [.int i0], h) Q = if i0 = 0 then Tr sc d 202 (127, [l0, l1, l2, l3, l4, l5, l6, l7], [], h) Q else Tr sc d 202 (94, [l0, l1, l2, l3, l4, l5, l6, l7], [], h) Q := t_if k_202_91 rfl
theorem k_202_94 : lk 202 94 = some (.aload_n 0, 95, 0, 0, .null) := by decide +kernel
theorem x_202_94 : Tr sc d 202 (94, [some (.ref xk), l1, l2, l3, l4, l5, l6, l7], [], h) Q = Tr sc d 202 (95, [some (.ref xk), l1, l2, l3, l4, l5, l6, l7], [.ref xk], h) Q := t_aload_n k_202_94 rfl
theorem k_202_95 : lk 202 95 = some (.getfield 75, 98, 10, 38, .null) := by decide +kernel
theorem x_202_95 : Tr sc d 202 (95, [l0, l1, l2, l3, l4, l5, l6, l7], [.ref k0], h) Q = (okp h k0 10 = true ∧ ∃ q, hR h k0 38 = some q ∧ Tr sc d 202 (98, [l0, l1, l2, l3, l4, l5, l6, l7], [.ref q], h) Q) := t_getr k_202_95
theorem k_202_98 : lk 202 98 = some (.iload_n 3, 99, 3, 0, .null) := by decide +kernel
theorem x_202_98 : Tr sc d 202 (98, [l0, l1, l2, some (.int x), l4, l5, l6, l7], [.ref k0], h) Q = Tr sc d 202 (99, [l0, l1, l2, some (.int x), l4, l5, l6, l7], [.int x, .ref k0], h) Q := t_iload_n k_202_98 rfl
theorem k_202_99 : lk 202 99 = some (.laload, 100, 0, 0, .null) := by decide +kernel
theorem x_202_99 : Tr sc d 202 (99, [l0, l1, l2, l3, l4, l5, l6, l7], [.int i1, .ref k0], h) Q = ((okp h k0 12 && inb i1 (LN k0)) = true ∧ Tr sc d 202 (100, [l0, l1, l2, l3, l4, l5, l6, l7], [.long (hL h k0 i1.toNatClampNeg)], h) Q) := t_gd k_202_99 rfl
theorem k_202_100 : lk 202 100 = some (.lstore 6, 102, 6, 0, .null) := by decide +kernel
theorem x_202_100 : Tr sc d 202 (100, [l0, l1, l2, l3, l4, l5, l6, l7], [.long j0], h) Q = Tr sc d 202 (102, [l0, l1, l2, l3, l4, cl2 l5, some (.long j0), none], [], h) Q := t_lstore k_202_100 (Nat.le_of_ble_eq_true rfl)
theorem k_202_102 : lk 202 102 = some (.aload_n 0, 103, 0, 0, .null) := by decide +kernel
theorem x_202_102 : Tr sc d 202 (102, [some (.ref xk), l1, l2, l3, l4, l5, l6, l7], [], h) Q = Tr sc d 202 (103, [some (.ref xk), l1, l2, l3, l4, l5, l6, l7], [.ref xk], h) Q := t_aload_n k_202_102 rfl
theorem k_202_103 : lk 202 103 = some (.getfield 75, 106, 10, 38, .null) := by decide +kernel
theorem x_202_103 : Tr sc d 202 (103, [l0, l1, l2, l3, l4, l5, l6, l7], [.ref k0], h) Q = (okp h k0 10 = true ∧ ∃ q, hR h k0 38 = some q ∧ Tr sc d 202 (106, [l0, l1, l2, l3, l4, l5, l6, l7], [.ref q], h) Q) := t_getr k_202_103
theorem k_202_106 : lk 202 106 = some (.iload_n 3, 107, 3, 0, .null) := by decide +kernel
theorem x_202_106 : Tr sc d 202 (106, [l0, l1, l2, some (.int x), l4, l5, l6, l7], [.ref k0], h) Q = Tr sc d 202 (107, [l0, l1, l2, some (.int x), l4, l5, l6, l7], [.int x, .ref k0], h) Q := t_iload_n k_202_106 rfl
theorem k_202_107 : lk 202 107 = some (.aload_n 0, 108, 0, 0, .null) := by decide +kernel
theorem x_202_107 : Tr sc d 202 (107, [some (.ref xk), l1, l2, l3, l4, l5, l6, l7], [.int i1, .ref k0], h) Q = Tr sc d 202 (108, [some (.ref xk), l1, l2, l3, l4, l5, l6, l7], [.ref xk, .int i1, .ref k0], h) Q := t_aload_n k_202_107 rfl
theorem k_202_108 : lk 202 108 = some (.getfield 75, 111, 10, 38, .null) := by decide +kernel
theorem x_202_108 : Tr sc d 202 (108, [l0, l1, l2, l3, l4, l5, l6, l7], [.ref k2, .int i1, .ref k0], h) Q = (okp h k2 10 = true ∧ ∃ q, hR h k2 38 = some q ∧ Tr sc d 202 (111, [l0, l1, l2, l3, l4, l5, l6, l7], [.ref q, .int i1, .ref k0], h) Q) := t_getr k_202_108
theorem k_202_111 : lk 202 111 = some (.iload 5, 113, 5, 0, .null) := by decide +kernel
theorem x_202_111 : Tr sc d 202 (111, [l0, l1, l2, l3, l4, some (.int x), l6, l7], [.ref k2, .int i1, .ref k0], h) Q = Tr sc d 202 (113, [l0, l1, l2, l3, l4, some (.int x), l6, l7], [.int x, .ref k2, .int i1, .ref k0], h) Q := t_iload k_202_111 rfl
theorem k_202_113 : lk 202 113 = some (.laload, 114, 0, 0, .null) := by decide +kernel
theorem x_202_113 : Tr sc d 202 (113, [l0, l1, l2, l3, l4, l5, l6, l7], [.int i3, .ref k2, .int i1, .ref k0], h) Q = ((okp h k2 12 && inb i3 (LN k2)) = true ∧ Tr sc d 202 (114, [l0, l1, l2, l3, l4, l5, l6, l7], [.long (hL h k2 i3.toNatClampNeg), .int i1, .ref k0], h) Q) := t_gd k_202_113 rfl
theorem k_202_114 : lk 202 114 = some (.lastore, 115, 0, 0, .null) := by decide +kernel
theorem x_202_114 : Tr sc d 202 (114, [l0, l1, l2, l3, l4, l5, l6, l7], [.long j2, .int i1, .ref k0], h) Q = ((okp h k0 12 && inb i1 (LN k0)) = true ∧ Tr sc d 202 (115, [l0, l1, l2, l3, l4, l5, l6, l7], [], (sL h k0 i1.toNatClampNeg j2)) Q) := t_gd k_202_114 rfl
theorem k_202_115 : lk 202 115 = some (.aload_n 0, 116, 0, 0, .null) := by decide +kernel
theorem x_202_115 : Tr sc d 202 (115, [some (.ref xk), l1, l2, l3, l4, l5, l6, l7], [], h) Q = Tr sc d 202 (116, [some (.ref xk), l1, l2, l3, l4, l5, l6, l7], [.ref xk], h) Q := t_aload_n k_202_115 rfl
theorem k_202_116 : lk 202 116 = some (.getfield 75, 119, 10, 38, .null) := by decide +kernel
theorem x_202_116 : Tr sc d 202 (116, [l0, l1, l2, l3, l4, l5, l6, l7], [.ref k0], h) Q = (okp h k0 10 = true ∧ ∃ q, hR h k0 38 = some q ∧ Tr sc d 202 (119, [l0, l1, l2, l3, l4, l5, l6, l7], [.ref q], h) Q) := t_getr k_202_116
theorem k_202_119 : lk 202 119 = some (.iload 5, 121, 5, 0, .null) := by decide +kernel
theorem x_202_119 : Tr sc d 202 (119, [l0, l1, l2, l3, l4, some (.int x), l6, l7], [.ref k0], h) Q = Tr sc d 202 (121, [l0, l1, l2, l3, l4, some (.int x), l6, l7], [.int x, .ref k0], h) Q := t_iload k_202_119 rfl
theorem k_202_121 : lk 202 121 = some (.lload 6, 123, 6, 0, .null) := by decide +kernel
theorem x_202_121 : Tr sc d 202 (121, [l0, l1, l2, l3, l4, l5, some (.long xl), l7], [.int i1, .ref k0], h) Q = Tr sc d 202 (123, [l0, l1, l2, l3, l4, l5, some (.long xl), l7], [.long xl, .int i1, .ref k0], h) Q := t_lload k_202_121 rfl
theorem k_202_123 : lk 202 123 = some (.lastore, 124, 0, 0, .null) := by decide +kernel
theorem x_202_123 : Tr sc d 202 (123, [l0, l1, l2, l3, l4, l5, l6, l7], [.long j2, .int i1, .ref k0], h) Q = ((okp h k0 12 && inb i1 (LN k0)) = true ∧ Tr sc d 202 (124, [l0, l1, l2, l3, l4, l5, l6, l7], [], (sL h k0 i1.toNatClampNeg j2)) Q) := t_gd k_202_123 rfl
theorem k_202_124 : lk 202 124 = some (.iload 5, 126, 5, 0, .null) := by decide +kernel
theorem x_202_124 : Tr sc d 202 (124, [l0, l1, l2, l3, l4, some (.int x), l6, l7], [], h) Q = Tr sc d 202 (126, [l0, l1, l2, l3, l4, some (.int x), l6, l7], [.int x], h) Q := t_iload k_202_124 rfl
theorem k_202_126 : lk 202 126 = some (.istore_n 3, 127, 3, 0, .null) := by decide +kernel
theorem x_202_126 : Tr sc d 202 (126, [l0, l1, l2, l3, l4, l5, l6, l7], [.int i0], h) Q = Tr sc d 202 (127, [l0, l1, cl2 l2, some (.int i0), l4, l5, l6, l7], [], h) Q := t_istore_n k_202_126 (Nat.le_of_ble_eq_true rfl)
theorem k_202_127 : lk 202 127 = some (.goto (-122), 130, 5, 0, .null) := by decide +kernel
theorem x_202_127 : Tr sc d 202 (127, [l0, l1, l2, l3, l4, l5, l6, l7], [], h) Q = Tr sc d 202 (5, [l0, l1, l2, l3, l4, l5, l6, l7], [], h) Q := t_go k_202_127 rfl
theorem k_202_130 : lk 202 130 = some (.return_, 131, 0, 0, .null) := by decide +kernel
theorem x_202_130 : Tr sc d 202 (130, [l0, l1, l2, l3, l4, l5, l6, l7], [], h) Q = Q (none, h) := t_ret k_202_130 (by rw [r_202]; rfl)
theorem e_202 : Tr sc d 202 (ent0 202 [.ref k0, .int i1, .int i2] h) Q = Tr sc d 202 (0, [some (.ref k0), some (.int i1), some (.int i2), none, none, none, none, none], [], h) Q := by
  have e : mL 202 = 8 := by decide +kernel
  unfold ent0
  rw [e]
  rfl
theorem r_203 : mR 203 = none := by decide +kernel
theorem k_203_0 : lk 203 0 = some (.aload_n 0, 1, 0, 0, .null) := by decide +kernel
theorem x_203_0 : Tr sc d 203 (0, [some (.ref xk), l1, l2, l3, l4, l5], [], h) Q = Tr sc d 203 (1, [some (.ref xk), l1, l2, l3, l4, l5], [.ref xk], h) Q := t_aload_n k_203_0 rfl
theorem k_203_1 : lk 203 1 = some (.iload_n 1, 2, 1, 0, .null) := by decide +kernel
theorem x_203_1 : Tr sc d 203 (1, [l0, some (.int x), l2, l3, l4, l5], [.ref k0], h) Q = Tr sc d 203 (2, [l0, some (.int x), l2, l3, l4, l5], [.int x, .ref k0], h) Q := t_iload_n k_203_1 rfl
theorem k_203_2 : lk 203 2 = some (.iload_n 2, 3, 2, 0, .null) := by decide +kernel
theorem x_203_2 : Tr sc d 203 (2, [l0, l1, some (.int x), l3, l4, l5], [.int i1, .ref k0], h) Q = Tr sc d 203 (3, [l0, l1, some (.int x), l3, l4, l5], [.int x, .int i1, .ref k0], h) Q := t_iload_n k_203_2 rfl
theorem k_203_3 : lk 203 3 = some (.invokevirtual 273, 6, 201, 2, .null) := by decide +kernel
theorem x_203_3 : Tr sc (d + 1) 203 (3, [l0, l1, l2, l3, l4, l5], [.int i2, .int i1, .ref k0], h) Q = (okp h k0 10 = true ∧ Tr sc d 201 (ent0 201 [.ref k0, .int i1, .int i2] h) (fun z => Tr sc (d + 1) 203 (6, [l0, l1, l2, l3, l4, l5], z.1.toList ++ [], z.2) Q)) := t_cv (as := [.int i1, .int i2]) (r := []) k_203_3 rfl rfl (Nat.le_of_ble_eq_true rfl) (Nat.le_of_ble_eq_true rfl) (Nat.le_of_ble_eq_true rfl)
theorem k_203_6 : lk 203 6 = some (.iconst 0, 7, 0, 0, .int 0) := by decide +kernel
theorem x_203_6 : Tr sc d 203 (6, [l0, l1, l2, l3, l4, l5], [], h) Q = Tr sc d 203 (7, [l0, l1, l2, l3, l4, l5], [.int 0], h) Q := t_go k_203_6 rfl
theorem k_203_7 : lk 203 7 = some (.istore_n 3, 8, 3, 0, .null) := by decide +kernel
theorem x_203_7 : Tr sc d 203 (7, [l0, l1, l2, l3, l4, l5], [.int i0], h) Q = Tr sc d 203 (8, [l0, l1, cl2 l2, some (.int i0), l4, l5], [], h) Q := t_istore_n k_203_7 (Nat.le_of_ble_eq_true rfl)
theorem k_203_8 : lk 203 8 = some (.iload_n 3, 9, 3, 0, .null) := by decide +kernel
theorem x_203_8 : Tr sc d 203 (8, [l0, l1, l2, some (.int x), l4, l5], [], h) Q = Tr sc d 203 (9, [l0, l1, l2, some (.int x), l4, l5], [.int x], h) Q := t_iload_n k_203_8 rfl
theorem k_203_9 : lk 203 9 = some (.aload_n 0, 10, 0, 0, .null) := by decide +kernel
theorem x_203_9 : Tr sc d 203 (9, [some (.ref xk), l1, l2, l3, l4, l5], [.int i0], h) Q = Tr sc d 203 (10, [some (.ref xk), l1, l2, l3, l4, l5], [.ref xk, .int i0], h) Q := t_aload_n k_203_9 rfl
theorem k_203_10 : lk 203 10 = some (.getfield 270, 13, 10, 31, .int 0) := by decide +kernel
theorem x_203_10 : Tr sc d 203 (10, [l0, l1, l2, l3, l4, l5], [.ref k1, .int i0], h) Q = (okp h k1 10 = true ∧ Tr sc d 203 (13, [l0, l1, l2, l3, l4, l5], [.int (hI h k1 31), .int i0], h) Q) := t_gd k_203_10 rfl
theorem k_203_13 : lk 203 13 = some (.if_icmp .ge 42, 16, 55, 0, .null) := by decide +kernel
theorem x_203_13 : Tr sc d 203 (13, [l0, l1, l2, l3, l4, l5], [.int i1, .int i0], h) Q = if i1 ≤ i0 then Tr sc d 203 (55, [l0, l1, l2, l3, l4, l5], [], h) Q else Tr sc d 203 (16, [l0, l1, l2, l3, l4, l5], [], h) Q := t_if k_203_13 rfl
theorem k_203_16 : lk 203 16 = some (.aload_n 0, 17, 0, 0, .null) := by decide +kernel
theorem x_203_16 : Tr sc d 203 (16, [some (.ref xk), l1, l2, l3, l4, l5], [], h) Q = Tr sc d 203 (17, [some (.ref xk), l1, l2, l3, l4, l5], [.ref xk], h) Q := t_aload_n k_203_16 rfl
theorem k_203_17 : lk 203 17 = some (.getfield 75, 20, 10, 38, .null) := by decide +kernel
theorem x_203_17 : Tr sc d 203 (17, [l0, l1, l2, l3, l4, l5], [.ref k0], h) Q = (okp h k0 10 = true ∧ ∃ q, hR h k0 38 = some q ∧ Tr sc d 203 (20, [l0, l1, l2, l3, l4, l5], [.ref q], h) Q) := t_getr k_203_17
theorem k_203_20 : lk 203 20 = some (.iload_n 3, 21, 3, 0, .null) := by decide +kernel
theorem x_203_20 : Tr sc d 203 (20, [l0, l1, l2, some (.int x), l4, l5], [.ref k0], h) Q = Tr sc d 203 (21, [l0, l1, l2, some (.int x), l4, l5], [.int x, .ref k0], h) Q := t_iload_n k_203_20 rfl
theorem k_203_21 : lk 203 21 = some (.aload_n 0, 22, 0, 0, .null) := by decide +kernel
theorem x_203_21 : Tr sc d 203 (21, [some (.ref xk), l1, l2, l3, l4, l5], [.int i1, .ref k0], h) Q = Tr sc d 203 (22, [some (.ref xk), l1, l2, l3, l4, l5], [.ref xk, .int i1, .ref k0], h) Q := t_aload_n k_203_21 rfl
theorem k_203_22 : lk 203 22 = some (.getfield 66, 25, 10, 33, .null) := by decide +kernel
theorem x_203_22 : Tr sc d 203 (22, [l0, l1, l2, l3, l4, l5], [.ref k2, .int i1, .ref k0], h) Q = (okp h k2 10 = true ∧ ∃ q, hR h k2 33 = some q ∧ Tr sc d 203 (25, [l0, l1, l2, l3, l4, l5], [.ref q, .int i1, .ref k0], h) Q) := t_getr k_203_22
theorem k_203_25 : lk 203 25 = some (.iload_n 3, 26, 3, 0, .null) := by decide +kernel
theorem x_203_25 : Tr sc d 203 (25, [l0, l1, l2, some (.int x), l4, l5], [.ref k2, .int i1, .ref k0], h) Q = Tr sc d 203 (26, [l0, l1, l2, some (.int x), l4, l5], [.int x, .ref k2, .int i1, .ref k0], h) Q := t_iload_n k_203_25 rfl
theorem k_203_26 : lk 203 26 = some (.iaload, 27, 0, 0, .null) := by decide +kernel
theorem x_203_26 : Tr sc d 203 (26, [l0, l1, l2, l3, l4, l5], [.int i3, .ref k2, .int i1, .ref k0], h) Q = (iOk sc h k2 i3 ∧ Tr sc d 203 (27, [l0, l1, l2, l3, l4, l5], [.int (iRd sc h k2 i3), .int i1, .ref k0], h) Q) := t_iald k_203_26
theorem k_203_27 : lk 203 27 = some (.i2l, 28, 0, 0, .null) := by decide +kernel
theorem x_203_27 : Tr sc d 203 (27, [l0, l1, l2, l3, l4, l5], [.int i2, .int i1, .ref k0], h) Q = Tr sc d 203 (28, [l0, l1, l2, l3, l4, l5], [.long i2.toInt64, .int i1, .ref k0], h) Q := t_go k_203_27 rfl
theorem k_203_28 : lk 203 28 = some (.ldc2_w 276, 31, 0, 1582, .long 1000000) := by decide +kernel
theorem x_203_28 : Tr sc d 203 (28, [l0, l1, l2, l3, l4, l5], [.long j2, .int i1, .ref k0], h) Q = Tr sc d 203 (31, [l0, l1, l2, l3, l4, l5], [.long 1000000, .long j2, .int i1, .ref k0], h) Q := t_go k_203_28 rfl
theorem k_203_31 : lk 203 31 = some (.ladd, 32, 0, 0, .null) := by decide +kernel
theorem x_203_31 : Tr sc d 203 (31, [l0, l1, l2, l3, l4, l5], [.long j3, .long j2, .int i1, .ref k0], h) Q = Tr sc d 203 (32, [l0, l1, l2, l3, l4, l5], [.long (j2 + j3), .int i1, .ref k0], h) Q := t_go k_203_31 rfl
theorem k_203_32 : lk 203 32 = some (.ldc2_w 278, 35, 0, 1583, .long 4000000) := by decide +kernel
theorem x_203_32 : Tr sc d 203 (32, [l0, l1, l2, l3, l4, l5], [.long j2, .int i1, .ref k0], h) Q = Tr sc d 203 (35, [l0, l1, l2, l3, l4, l5], [.long 4000000, .long j2, .int i1, .ref k0], h) Q := t_go k_203_32 rfl
theorem k_203_35 : lk 203 35 = some (.lmul, 36, 0, 0, .null) := by decide +kernel
theorem x_203_35 : Tr sc d 203 (35, [l0, l1, l2, l3, l4, l5], [.long j3, .long j2, .int i1, .ref k0], h) Q = Tr sc d 203 (36, [l0, l1, l2, l3, l4, l5], [.long (j2 * j3), .int i1, .ref k0], h) Q := t_go k_203_35 rfl
theorem k_203_36 : lk 203 36 = some (.aload_n 0, 37, 0, 0, .null) := by decide +kernel
theorem x_203_36 : Tr sc d 203 (36, [some (.ref xk), l1, l2, l3, l4, l5], [.long j2, .int i1, .ref k0], h) Q = Tr sc d 203 (37, [some (.ref xk), l1, l2, l3, l4, l5], [.ref xk, .long j2, .int i1, .ref k0], h) Q := t_aload_n k_203_36 rfl
theorem k_203_37 : lk 203 37 = some (.getfield 63, 40, 10, 32, .null) := by decide +kernel
theorem x_203_37 : Tr sc d 203 (37, [l0, l1, l2, l3, l4, l5], [.ref k3, .long j2, .int i1, .ref k0], h) Q = (okp h k3 10 = true ∧ ∃ q, hR h k3 32 = some q ∧ Tr sc d 203 (40, [l0, l1, l2, l3, l4, l5], [.ref q, .long j2, .int i1, .ref k0], h) Q) := t_getr k_203_37
theorem k_203_40 : lk 203 40 = some (.iload_n 3, 41, 3, 0, .null) := by decide +kernel
theorem x_203_40 : Tr sc d 203 (40, [l0, l1, l2, some (.int x), l4, l5], [.ref k3, .long j2, .int i1, .ref k0], h) Q = Tr sc d 203 (41, [l0, l1, l2, some (.int x), l4, l5], [.int x, .ref k3, .long j2, .int i1, .ref k0], h) Q := t_iload_n k_203_40 rfl
theorem k_203_41 : lk 203 41 = some (.iaload, 42, 0, 0, .null) := by decide +kernel
theorem x_203_41 : Tr sc d 203 (41, [l0, l1, l2, l3, l4, l5], [.int i4, .ref k3, .long j2, .int i1, .ref k0], h) Q = (iOk sc h k3 i4 ∧ Tr sc d 203 (42, [l0, l1, l2, l3, l4, l5], [.int (iRd sc h k3 i4), .long j2, .int i1, .ref k0], h) Q) := t_iald k_203_41
theorem k_203_42 : lk 203 42 = some (.i2l, 43, 0, 0, .null) := by decide +kernel
theorem x_203_42 : Tr sc d 203 (42, [l0, l1, l2, l3, l4, l5], [.int i3, .long j2, .int i1, .ref k0], h) Q = Tr sc d 203 (43, [l0, l1, l2, l3, l4, l5], [.long i3.toInt64, .long j2, .int i1, .ref k0], h) Q := t_go k_203_42 rfl
theorem k_203_43 : lk 203 43 = some (.ladd, 44, 0, 0, .null) := by decide +kernel
theorem x_203_43 : Tr sc d 203 (43, [l0, l1, l2, l3, l4, l5], [.long j3, .long j2, .int i1, .ref k0], h) Q = Tr sc d 203 (44, [l0, l1, l2, l3, l4, l5], [.long (j2 + j3), .int i1, .ref k0], h) Q := t_go k_203_43 rfl
theorem k_203_44 : lk 203 44 = some (.ldc2_w 276, 47, 0, 1582, .long 1000000) := by decide +kernel
theorem x_203_44 : Tr sc d 203 (44, [l0, l1, l2, l3, l4, l5], [.long j2, .int i1, .ref k0], h) Q = Tr sc d 203 (47, [l0, l1, l2, l3, l4, l5], [.long 1000000, .long j2, .int i1, .ref k0], h) Q := t_go k_203_44 rfl
theorem k_203_47 : lk 203 47 = some (.ladd, 48, 0, 0, .null) := by decide +kernel
theorem x_203_47 : Tr sc d 203 (47, [l0, l1, l2, l3, l4, l5], [.long j3, .long j2, .int i1, .ref k0], h) Q = Tr sc d 203 (48, [l0, l1, l2, l3, l4, l5], [.long (j2 + j3), .int i1, .ref k0], h) Q := t_go k_203_47 rfl
theorem k_203_48 : lk 203 48 = some (.lastore, 49, 0, 0, .null) := by decide +kernel
theorem x_203_48 : Tr sc d 203 (48, [l0, l1, l2, l3, l4, l5], [.long j2, .int i1, .ref k0], h) Q = ((okp h k0 12 && inb i1 (LN k0)) = true ∧ Tr sc d 203 (49, [l0, l1, l2, l3, l4, l5], [], (sL h k0 i1.toNatClampNeg j2)) Q) := t_gd k_203_48 rfl
theorem k_203_49 : lk 203 49 = some (.iinc 3 1, 52, 3, 0, .int 1) := by decide +kernel
theorem x_203_49 : Tr sc d 203 (49, [l0, l1, l2, some (.int x), l4, l5], [], h) Q = Tr sc d 203 (52, [l0, l1, cl2 l2, some (.int (x + 1)), l4, l5], [], h) Q := t_inc k_203_49 rfl (Nat.le_of_ble_eq_true rfl)
theorem k_203_52 : lk 203 52 = some (.goto (-44), 55, 8, 0, .null) := by decide +kernel
theorem x_203_52 : Tr sc d 203 (52, [l0, l1, l2, l3, l4, l5], [], h) Q = Tr sc d 203 (8, [l0, l1, l2, l3, l4, l5], [], h) Q := t_go k_203_52 rfl
theorem k_203_55 : lk 203 55 = some (.aload_n 0, 56, 0, 0, .null) := by decide +kernel
theorem x_203_55 : Tr sc d 203 (55, [some (.ref xk), l1, l2, l3, l4, l5], [], h) Q = Tr sc d 203 (56, [some (.ref xk), l1, l2, l3, l4, l5], [.ref xk], h) Q := t_aload_n k_203_55 rfl
theorem k_203_56 : lk 203 56 = some (.getfield 270, 59, 10, 31, .int 0) := by decide +kernel
theorem x_203_56 : Tr sc d 203 (56, [l0, l1, l2, l3, l4, l5], [.ref k0], h) Q = (okp h k0 10 = true ∧ Tr sc d 203 (59, [l0, l1, l2, l3, l4, l5], [.int (hI h k0 31)], h) Q) := t_gd k_203_56 rfl
theorem k_203_59 : lk 203 59 = some (.iconst 2, 60, 0, 0, .int 2) := by decide +kernel
theorem x_203_59 : Tr sc d 203 (59, [l0, l1, l2, l3, l4, l5], [.int i0], h) Q = Tr sc d 203 (60, [l0, l1, l2, l3, l4, l5], [.int 2, .int i0], h) Q := t_go k_203_59 rfl
theorem k_203_60 : lk 203 60 = some (.idiv, 61, 0, 0, .null) := by decide +kernel
theorem x_203_60 : Tr sc d 203 (60, [l0, l1, l2, l3, l4, l5], [.int i1, .int i0], h) Q = (¬ i1 = 0 ∧ Tr sc d 203 (61, [l0, l1, l2, l3, l4, l5], [.int (i0 / i1)], h) Q) := t_ng k_203_60 rfl
theorem k_203_61 : lk 203 61 = some (.istore_n 3, 62, 3, 0, .null) := by decide +kernel
theorem x_203_61 : Tr sc d 203 (61, [l0, l1, l2, l3, l4, l5], [.int i0], h) Q = Tr sc d 203 (62, [l0, l1, cl2 l2, some (.int i0), l4, l5], [], h) Q := t_istore_n k_203_61 (Nat.le_of_ble_eq_true rfl)
theorem k_203_62 : lk 203 62 = some (.iload_n 3, 63, 3, 0, .null) := by decide +kernel
theorem x_203_62 : Tr sc d 203 (62, [l0, l1, l2, some (.int x), l4, l5], [], h) Q = Tr sc d 203 (63, [l0, l1, l2, some (.int x), l4, l5], [.int x], h) Q := t_iload_n k_203_62 rfl
theorem k_203_63 : lk 203 63 = some (.ifCond .lt 18, 66, 81, 0, .null) := by decide +kernel
theorem x_203_63 : Tr sc d 203 (63, [l0, l1, l2, l3, l4, l5], [.int i0], h) Q = if i0 < 0 then Tr sc d 203 (81, [l0, l1, l2, l3, l4, l5], [], h) Q else Tr sc d 203 (66, [l0, l1, l2, l3, l4, l5], [], h) Q := t_if k_203_63 rfl
theorem k_203_66 : lk 203 66 = some (.aload_n 0, 67, 0, 0, .null) := by decide +kernel
theorem x_203_66 : Tr sc d 203 (66, [some (.ref xk), l1, l2, l3, l4, l5], [], h) Q = Tr sc d 203 (67, [some (.ref xk), l1, l2, l3, l4, l5], [.ref xk], h) Q := t_aload_n k_203_66 rfl
theorem k_203_67 : lk 203 67 = some (.iload_n 3, 68, 3, 0, .null) := by decide +kernel
theorem x_203_67 : Tr sc d 203 (67, [l0, l1, l2, some (.int x), l4, l5], [.ref k0], h) Q = Tr sc d 203 (68, [l0, l1, l2, some (.int x), l4, l5], [.int x, .ref k0], h) Q := t_iload_n k_203_67 rfl
theorem k_203_68 : lk 203 68 = some (.aload_n 0, 69, 0, 0, .null) := by decide +kernel
theorem x_203_68 : Tr sc d 203 (68, [some (.ref xk), l1, l2, l3, l4, l5], [.int i1, .ref k0], h) Q = Tr sc d 203 (69, [some (.ref xk), l1, l2, l3, l4, l5], [.ref xk, .int i1, .ref k0], h) Q := t_aload_n k_203_68 rfl
theorem k_203_69 : lk 203 69 = some (.getfield 270, 72, 10, 31, .int 0) := by decide +kernel
theorem x_203_69 : Tr sc d 203 (69, [l0, l1, l2, l3, l4, l5], [.ref k2, .int i1, .ref k0], h) Q = (okp h k2 10 = true ∧ Tr sc d 203 (72, [l0, l1, l2, l3, l4, l5], [.int (hI h k2 31), .int i1, .ref k0], h) Q) := t_gd k_203_69 rfl
theorem k_203_72 : lk 203 72 = some (.invokevirtual 280, 75, 202, 2, .null) := by decide +kernel
theorem x_203_72 : Tr sc (d + 1) 203 (72, [l0, l1, l2, l3, l4, l5], [.int i2, .int i1, .ref k0], h) Q = (okp h k0 10 = true ∧ Tr sc d 202 (ent0 202 [.ref k0, .int i1, .int i2] h) (fun z => Tr sc (d + 1) 203 (75, [l0, l1, l2, l3, l4, l5], z.1.toList ++ [], z.2) Q)) := t_cv (as := [.int i1, .int i2]) (r := []) k_203_72 rfl rfl (Nat.le_of_ble_eq_true rfl) (Nat.le_of_ble_eq_true rfl) (Nat.le_of_ble_eq_true rfl)
theorem k_203_75 : lk 203 75 = some (.iinc 3 (-1), 78, 3, 0, .int (-1)) := by decide +kernel
theorem x_203_75 : Tr sc d 203 (75, [l0, l1, l2, some (.int x), l4, l5], [], h) Q = Tr sc d 203 (78, [l0, l1, cl2 l2, some (.int (x + (-1))), l4, l5], [], h) Q := t_inc k_203_75 rfl (Nat.le_of_ble_eq_true rfl)
theorem k_203_78 : lk 203 78 = some (.goto (-16), 81, 62, 0, .null) := by decide +kernel
theorem x_203_78 : Tr sc d 203 (78, [l0, l1, l2, l3, l4, l5], [], h) Q = Tr sc d 203 (62, [l0, l1, l2, l3, l4, l5], [], h) Q := t_go k_203_78 rfl
theorem k_203_81 : lk 203 81 = some (.aload_n 0, 82, 0, 0, .null) := by decide +kernel
theorem x_203_81 : Tr sc d 203 (81, [some (.ref xk), l1, l2, l3, l4, l5], [], h) Q = Tr sc d 203 (82, [some (.ref xk), l1, l2, l3, l4, l5], [.ref xk], h) Q := t_aload_n k_203_81 rfl
theorem k_203_82 : lk 203 82 = some (.getfield 270, 85, 10, 31, .int 0) := by decide +kernel
theorem x_203_82 : Tr sc d 203 (82, [l0, l1, l2, l3, l4, l5], [.ref k0], h) Q = (okp h k0 10 = true ∧ Tr sc d 203 (85, [l0, l1, l2, l3, l4, l5], [.int (hI h k0 31)], h) Q) := t_gd k_203_82 rfl
theorem k_203_85 : lk 203 85 = some (.iconst 1, 86, 0, 0, .int 1) := by decide +kernel
theorem x_203_85 : Tr sc d 203 (85, [l0, l1, l2, l3, l4, l5], [.int i0], h) Q = Tr sc d 203 (86, [l0, l1, l2, l3, l4, l5], [.int 1, .int i0], h) Q := t_go k_203_85 rfl
theorem k_203_86 : lk 203 86 = some (.isub, 87, 0, 0, .null) := by decide +kernel
theorem x_203_86 : Tr sc d 203 (86, [l0, l1, l2, l3, l4, l5], [.int i1, .int i0], h) Q = Tr sc d 203 (87, [l0, l1, l2, l3, l4, l5], [.int (i0 - i1)], h) Q := t_go k_203_86 rfl
theorem k_203_87 : lk 203 87 = some (.istore_n 3, 88, 3, 0, .null) := by decide +kernel
theorem x_203_87 : Tr sc d 203 (87, [l0, l1, l2, l3, l4, l5], [.int i0], h) Q = Tr sc d 203 (88, [l0, l1, cl2 l2, some (.int i0), l4, l5], [], h) Q := t_istore_n k_203_87 (Nat.le_of_ble_eq_true rfl)
theorem k_203_88 : lk 203 88 = some (.iload_n 3, 89, 3, 0, .null) := by decide +kernel
theorem x_203_88 : Tr sc d 203 (88, [l0, l1, l2, some (.int x), l4, l5], [], h) Q = Tr sc d 203 (89, [l0, l1, l2, some (.int x), l4, l5], [.int x], h) Q := t_iload_n k_203_88 rfl
theorem k_203_89 : lk 203 89 = some (.ifCond .le 43, 92, 132, 0, .null) := by decide +kernel
theorem x_203_89 : Tr sc d 203 (89, [l0, l1, l2, l3, l4, l5], [.int i0], h) Q = if i0 ≤ 0 then Tr sc d 203 (132, [l0, l1, l2, l3, l4, l5], [], h) Q else Tr sc d 203 (92, [l0, l1, l2, l3, l4, l5], [], h) Q := t_if k_203_89 rfl
theorem k_203_92 : lk 203 92 = some (.aload_n 0, 93, 0, 0, .null) := by decide +kernel
theorem x_203_92 : Tr sc d 203 (92, [some (.ref xk), l1, l2, l3, l4, l5], [], h) Q = Tr sc d 203 (93, [some (.ref xk), l1, l2, l3, l4, l5], [.ref xk], h) Q := t_aload_n k_203_92 rfl
theorem k_203_93 : lk 203 93 = some (.getfield 75, 96, 10, 38, .null) := by decide +kernel
theorem x_203_93 : Tr sc d 203 (93, [l0, l1, l2, l3, l4, l5], [.ref k0], h) Q = (okp h k0 10 = true ∧ ∃ q, hR h k0 38 = some q ∧ Tr sc d 203 (96, [l0, l1, l2, l3, l4, l5], [.ref q], h) Q) := t_getr k_203_93
theorem k_203_96 : lk 203 96 = some (.iconst 0, 97, 0, 0, .int 0) := by decide +kernel
theorem x_203_96 : Tr sc d 203 (96, [l0, l1, l2, l3, l4, l5], [.ref k0], h) Q = Tr sc d 203 (97, [l0, l1, l2, l3, l4, l5], [.int 0, .ref k0], h) Q := t_go k_203_96 rfl
theorem k_203_97 : lk 203 97 = some (.laload, 98, 0, 0, .null) := by decide +kernel
theorem x_203_97 : Tr sc d 203 (97, [l0, l1, l2, l3, l4, l5], [.int i1, .ref k0], h) Q = ((okp h k0 12 && inb i1 (LN k0)) = true ∧ Tr sc d 203 (98, [l0, l1, l2, l3, l4, l5], [.long (hL h k0 i1.toNatClampNeg)], h) Q) := t_gd k_203_97 rfl
theorem k_203_98 : lk 203 98 = some (.lstore 4, 100, 4, 0, .null) := by decide +kernel
theorem x_203_98 : Tr sc d 203 (98, [l0, l1, l2, l3, l4, l5], [.long j0], h) Q = Tr sc d 203 (100, [l0, l1, l2, cl2 l3, some (.long j0), none], [], h) Q := t_lstore k_203_98 (Nat.le_of_ble_eq_true rfl)
theorem k_203_100 : lk 203 100 = some (.aload_n 0, 101, 0, 0, .null) := by decide +kernel
theorem x_203_100 : Tr sc d 203 (100, [some (.ref xk), l1, l2, l3, l4, l5], [], h) Q = Tr sc d 203 (101, [some (.ref xk), l1, l2, l3, l4, l5], [.ref xk], h) Q := t_aload_n k_203_100 rfl
theorem k_203_101 : lk 203 101 = some (.getfield 75, 104, 10, 38, .null) := by decide +kernel
theorem x_203_101 : Tr sc d 203 (101, [l0, l1, l2, l3, l4, l5], [.ref k0], h) Q = (okp h k0 10 = true ∧ ∃ q, hR h k0 38 = some q ∧ Tr sc d 203 (104, [l0, l1, l2, l3, l4, l5], [.ref q], h) Q) := t_getr k_203_101
theorem k_203_104 : lk 203 104 = some (.iconst 0, 105, 0, 0, .int 0) := by decide +kernel
theorem x_203_104 : Tr sc d 203 (104, [l0, l1, l2, l3, l4, l5], [.ref k0], h) Q = Tr sc d 203 (105, [l0, l1, l2, l3, l4, l5], [.int 0, .ref k0], h) Q := t_go k_203_104 rfl
theorem k_203_105 : lk 203 105 = some (.aload_n 0, 106, 0, 0, .null) := by decide +kernel
theorem x_203_105 : Tr sc d 203 (105, [some (.ref xk), l1, l2, l3, l4, l5], [.int i1, .ref k0], h) Q = Tr sc d 203 (106, [some (.ref xk), l1, l2, l3, l4, l5], [.ref xk, .int i1, .ref k0], h) Q := t_aload_n k_203_105 rfl
theorem k_203_106 : lk 203 106 = some (.getfield 75, 109, 10, 38, .null) := by decide +kernel
theorem x_203_106 : Tr sc d 203 (106, [l0, l1, l2, l3, l4, l5], [.ref k2, .int i1, .ref k0], h) Q = (okp h k2 10 = true ∧ ∃ q, hR h k2 38 = some q ∧ Tr sc d 203 (109, [l0, l1, l2, l3, l4, l5], [.ref q, .int i1, .ref k0], h) Q) := t_getr k_203_106
theorem k_203_109 : lk 203 109 = some (.iload_n 3, 110, 3, 0, .null) := by decide +kernel
theorem x_203_109 : Tr sc d 203 (109, [l0, l1, l2, some (.int x), l4, l5], [.ref k2, .int i1, .ref k0], h) Q = Tr sc d 203 (110, [l0, l1, l2, some (.int x), l4, l5], [.int x, .ref k2, .int i1, .ref k0], h) Q := t_iload_n k_203_109 rfl
theorem k_203_110 : lk 203 110 = some (.laload, 111, 0, 0, .null) := by decide +kernel
theorem x_203_110 : Tr sc d 203 (110, [l0, l1, l2, l3, l4, l5], [.int i3, .ref k2, .int i1, .ref k0], h) Q = ((okp h k2 12 && inb i3 (LN k2)) = true ∧ Tr sc d 203 (111, [l0, l1, l2, l3, l4, l5], [.long (hL h k2 i3.toNatClampNeg), .int i1, .ref k0], h) Q) := t_gd k_203_110 rfl
theorem k_203_111 : lk 203 111 = some (.lastore, 112, 0, 0, .null) := by decide +kernel
theorem x_203_111 : Tr sc d 203 (111, [l0, l1, l2, l3, l4, l5], [.long j2, .int i1, .ref k0], h) Q = ((okp h k0 12 && inb i1 (LN k0)) = true ∧ Tr sc d 203 (112, [l0, l1, l2, l3, l4, l5], [], (sL h k0 i1.toNatClampNeg j2)) Q) := t_gd k_203_111 rfl
theorem k_203_112 : lk 203 112 = some (.aload_n 0, 113, 0, 0, .null) := by decide +kernel
theorem x_203_112 : Tr sc d 203 (112, [some (.ref xk), l1, l2, l3, l4, l5], [], h) Q = Tr sc d 203 (113, [some (.ref xk), l1, l2, l3, l4, l5], [.ref xk], h) Q := t_aload_n k_203_112 rfl
theorem k_203_113 : lk 203 113 = some (.getfield 75, 116, 10, 38, .null) := by decide +kernel
theorem x_203_113 : Tr sc d 203 (113, [l0, l1, l2, l3, l4, l5], [.ref k0], h) Q = (okp h k0 10 = true ∧ ∃ q, hR h k0 38 = some q ∧ Tr sc d 203 (116, [l0, l1, l2, l3, l4, l5], [.ref q], h) Q) := t_getr k_203_113
theorem k_203_116 : lk 203 116 = some (.iload_n 3, 117, 3, 0, .null) := by decide +kernel
theorem x_203_116 : Tr sc d 203 (116, [l0, l1, l2, some (.int x), l4, l5], [.ref k0], h) Q = Tr sc d 203 (117, [l0, l1, l2, some (.int x), l4, l5], [.int x, .ref k0], h) Q := t_iload_n k_203_116 rfl
theorem k_203_117 : lk 203 117 = some (.lload 4, 119, 4, 0, .null) := by decide +kernel
theorem x_203_117 : Tr sc d 203 (117, [l0, l1, l2, l3, some (.long xl), l5], [.int i1, .ref k0], h) Q = Tr sc d 203 (119, [l0, l1, l2, l3, some (.long xl), l5], [.long xl, .int i1, .ref k0], h) Q := t_lload k_203_117 rfl
theorem k_203_119 : lk 203 119 = some (.lastore, 120, 0, 0, .null) := by decide +kernel
theorem x_203_119 : Tr sc d 203 (119, [l0, l1, l2, l3, l4, l5], [.long j2, .int i1, .ref k0], h) Q = ((okp h k0 12 && inb i1 (LN k0)) = true ∧ Tr sc d 203 (120, [l0, l1, l2, l3, l4, l5], [], (sL h k0 i1.toNatClampNeg j2)) Q) := t_gd k_203_119 rfl
theorem k_203_120 : lk 203 120 = some (.aload_n 0, 121, 0, 0, .null) := by decide +kernel
theorem x_203_120 : Tr sc d 203 (120, [some (.ref xk), l1, l2, l3, l4, l5], [], h) Q = Tr sc d 203 (121, [some (.ref xk), l1, l2, l3, l4, l5], [.ref xk], h) Q := t_aload_n k_203_120 rfl
theorem k_203_121 : lk 203 121 = some (.iconst 0, 122, 0, 0, .int 0) := by decide +kernel
theorem x_203_121 : Tr sc d 203 (121, [l0, l1, l2, l3, l4, l5], [.ref k0], h) Q = Tr sc d 203 (122, [l0, l1, l2, l3, l4, l5], [.int 0, .ref k0], h) Q := t_go k_203_121 rfl
theorem k_203_122 : lk 203 122 = some (.iload_n 3, 123, 3, 0, .null) := by decide +kernel
theorem x_203_122 : Tr sc d 203 (122, [l0, l1, l2, some (.int x), l4, l5], [.int i1, .ref k0], h) Q = Tr sc d 203 (123, [l0, l1, l2, some (.int x), l4, l5], [.int x, .int i1, .ref k0], h) Q := t_iload_n k_203_122 rfl
theorem k_203_123 : lk 203 123 = some (.invokevirtual 280, 126, 202, 2, .null) := by decide +kernel
theorem x_203_123 : Tr sc (d + 1) 203 (123, [l0, l1, l2, l3, l4, l5], [.int i2, .int i1, .ref k0], h) Q = (okp h k0 10 = true ∧ Tr sc d 202 (ent0 202 [.ref k0, .int i1, .int i2] h) (fun z => Tr sc (d + 1) 203 (126, [l0, l1, l2, l3, l4, l5], z.1.toList ++ [], z.2) Q)) := t_cv (as := [.int i1, .int i2]) (r := []) k_203_123 rfl rfl (Nat.le_of_ble_eq_true rfl) (Nat.le_of_ble_eq_true rfl) (Nat.le_of_ble_eq_true rfl)
theorem k_203_126 : lk 203 126 = some (.iinc 3 (-1), 129, 3, 0, .int (-1)) := by decide +kernel
theorem x_203_126 : Tr sc d 203 (126, [l0, l1, l2, some (.int x), l4, l5], [], h) Q = Tr sc d 203 (129, [l0, l1, cl2 l2, some (.int (x + (-1))), l4, l5], [], h) Q := t_inc k_203_126 rfl (Nat.le_of_ble_eq_true rfl)
theorem k_203_129 : lk 203 129 = some (.goto (-41), 132, 88, 0, .null) := by decide +kernel
theorem x_203_129 : Tr sc d 203 (129, [l0, l1, l2, l3, l4, l5], [], h) Q = Tr sc d 203 (88, [l0, l1, l2, l3, l4, l5], [], h) Q := t_go k_203_129 rfl
theorem k_203_132 : lk 203 132 = some (.aload_n 0, 133, 0, 0, .null) := by decide +kernel
theorem x_203_132 : Tr sc d 203 (132, [some (.ref xk), l1, l2, l3, l4, l5], [], h) Q = Tr sc d 203 (133, [some (.ref xk), l1, l2, l3, l4, l5], [.ref xk], h) Q := t_aload_n k_203_132 rfl
theorem k_203_133 : lk 203 133 = some (.iconst 0, 134, 0, 0, .int 0) := by decide +kernel
theorem x_203_133 : Tr sc d 203 (133, [l0, l1, l2, l3, l4, l5], [.ref k0], h) Q = Tr sc d 203 (134, [l0, l1, l2, l3, l4, l5], [.int 0, .ref k0], h) Q := t_go k_203_133 rfl
theorem k_203_134 : lk 203 134 = some (.putfield 283, 137, 10, 36, .int 0) := by decide +kernel
theorem x_203_134 : Tr sc d 203 (134, [l0, l1, l2, l3, l4, l5], [.int i1, .ref k0], h) Q = (okp h k0 10 = true ∧ Tr sc d 203 (137, [l0, l1, l2, l3, l4, l5], [], (sI h k0 36 i1)) Q) := t_gd k_203_134 rfl
theorem k_203_137 : lk 203 137 = some (.aload_n 0, 138, 0, 0, .null) := by decide +kernel
theorem x_203_137 : Tr sc d 203 (137, [some (.ref xk), l1, l2, l3, l4, l5], [], h) Q = Tr sc d 203 (138, [some (.ref xk), l1, l2, l3, l4, l5], [.ref xk], h) Q := t_aload_n k_203_137 rfl
theorem k_203_138 : lk 203 138 = some (.iconst 0, 139, 0, 0, .int 0) := by decide +kernel
theorem x_203_138 : Tr sc d 203 (138, [l0, l1, l2, l3, l4, l5], [.ref k0], h) Q = Tr sc d 203 (139, [l0, l1, l2, l3, l4, l5], [.int 0, .ref k0], h) Q := t_go k_203_138 rfl
theorem k_203_139 : lk 203 139 = some (.putfield 286, 142, 10, 37, .int 0) := by decide +kernel
theorem x_203_139 : Tr sc d 203 (139, [l0, l1, l2, l3, l4, l5], [.int i1, .ref k0], h) Q = (okp h k0 10 = true ∧ Tr sc d 203 (142, [l0, l1, l2, l3, l4, l5], [], (sI h k0 37 i1)) Q) := t_gd k_203_139 rfl
theorem k_203_142 : lk 203 142 = some (.iconst 0, 143, 0, 0, .int 0) := by decide +kernel
theorem x_203_142 : Tr sc d 203 (142, [l0, l1, l2, l3, l4, l5], [], h) Q = Tr sc d 203 (143, [l0, l1, l2, l3, l4, l5], [.int 0], h) Q := t_go k_203_142 rfl
theorem k_203_143 : lk 203 143 = some (.istore_n 3, 144, 3, 0, .null) := by decide +kernel
theorem x_203_143 : Tr sc d 203 (143, [l0, l1, l2, l3, l4, l5], [.int i0], h) Q = Tr sc d 203 (144, [l0, l1, cl2 l2, some (.int i0), l4, l5], [], h) Q := t_istore_n k_203_143 (Nat.le_of_ble_eq_true rfl)
theorem k_203_144 : lk 203 144 = some (.iconst 0, 145, 0, 0, .int 0) := by decide +kernel
theorem x_203_144 : Tr sc d 203 (144, [l0, l1, l2, l3, l4, l5], [], h) Q = Tr sc d 203 (145, [l0, l1, l2, l3, l4, l5], [.int 0], h) Q := t_go k_203_144 rfl
theorem k_203_145 : lk 203 145 = some (.istore 4, 147, 4, 0, .null) := by decide +kernel
theorem x_203_145 : Tr sc d 203 (145, [l0, l1, l2, l3, l4, l5], [.int i0], h) Q = Tr sc d 203 (147, [l0, l1, l2, cl2 l3, some (.int i0), l5], [], h) Q := t_istore k_203_145 (Nat.le_of_ble_eq_true rfl)
theorem k_203_147 : lk 203 147 = some (.iload 4, 149, 4, 0, .null) := by decide +kernel
theorem x_203_147 : Tr sc d 203 (147, [l0, l1, l2, l3, some (.int x), l5], [], h) Q = Tr sc d 203 (149, [l0, l1, l2, l3, some (.int x), l5], [.int x], h) Q := t_iload k_203_147 rfl
theorem k_203_149 : lk 203 149 = some (.aload_n 0, 150, 0, 0, .null) := by decide +kernel
theorem x_203_149 : Tr sc d 203 (149, [some (.ref xk), l1, l2, l3, l4, l5], [.int i0], h) Q = Tr sc d 203 (150, [some (.ref xk), l1, l2, l3, l4, l5], [.ref xk, .int i0], h) Q := t_aload_n k_203_149 rfl
theorem k_203_150 : lk 203 150 = some (.getfield 270, 153, 10, 31, .int 0) := by decide +kernel
theorem x_203_150 : Tr sc d 203 (150, [l0, l1, l2, l3, l4, l5], [.ref k1, .int i0], h) Q = (okp h k1 10 = true ∧ Tr sc d 203 (153, [l0, l1, l2, l3, l4, l5], [.int (hI h k1 31), .int i0], h) Q) := t_gd k_203_150 rfl
theorem k_203_153 : lk 203 153 = some (.if_icmp .ge 149, 156, 302, 0, .null) := by decide +kernel
theorem x_203_153 : Tr sc d 203 (153, [l0, l1, l2, l3, l4, l5], [.int i1, .int i0], h) Q = if i1 ≤ i0 then Tr sc d 203 (302, [l0, l1, l2, l3, l4, l5], [], h) Q else Tr sc d 203 (156, [l0, l1, l2, l3, l4, l5], [], h) Q := t_if k_203_153 rfl
theorem k_203_156 : lk 203 156 = some (.iload 4, 158, 4, 0, .null) := by decide +kernel
theorem x_203_156 : Tr sc d 203 (156, [l0, l1, l2, l3, some (.int x), l5], [], h) Q = Tr sc d 203 (158, [l0, l1, l2, l3, some (.int x), l5], [.int x], h) Q := t_iload k_203_156 rfl
theorem k_203_158 : lk 203 158 = some (.ifCond .le 29, 161, 187, 0, .null) := by decide +kernel
theorem x_203_158 : Tr sc d 203 (158, [l0, l1, l2, l3, l4, l5], [.int i0], h) Q = if i0 ≤ 0 then Tr sc d 203 (187, [l0, l1, l2, l3, l4, l5], [], h) Q else Tr sc d 203 (161, [l0, l1, l2, l3, l4, l5], [], h) Q := t_if k_203_158 rfl
theorem k_203_161 : lk 203 161 = some (.aload_n 0, 162, 0, 0, .null) := by decide +kernel
theorem x_203_161 : Tr sc d 203 (161, [some (.ref xk), l1, l2, l3, l4, l5], [], h) Q = Tr sc d 203 (162, [some (.ref xk), l1, l2, l3, l4, l5], [.ref xk], h) Q := t_aload_n k_203_161 rfl
theorem k_203_162 : lk 203 162 = some (.getfield 75, 165, 10, 38, .null) := by decide +kernel
theorem x_203_162 : Tr sc d 203 (162, [l0, l1, l2, l3, l4, l5], [.ref k0], h) Q = (okp h k0 10 = true ∧ ∃ q, hR h k0 38 = some q ∧ Tr sc d 203 (165, [l0, l1, l2, l3, l4, l5], [.ref q], h) Q) := t_getr k_203_162
theorem k_203_165 : lk 203 165 = some (.iload 4, 167, 4, 0, .null) := by decide +kernel
theorem x_203_165 : Tr sc d 203 (165, [l0, l1, l2, l3, some (.int x), l5], [.ref k0], h) Q = Tr sc d 203 (167, [l0, l1, l2, l3, some (.int x), l5], [.int x, .ref k0], h) Q := t_iload k_203_165 rfl
theorem k_203_167 : lk 203 167 = some (.laload, 168, 0, 0, .null) := by decide +kernel
theorem x_203_167 : Tr sc d 203 (167, [l0, l1, l2, l3, l4, l5], [.int i1, .ref k0], h) Q = ((okp h k0 12 && inb i1 (LN k0)) = true ∧ Tr sc d 203 (168, [l0, l1, l2, l3, l4, l5], [.long (hL h k0 i1.toNatClampNeg)], h) Q) := t_gd k_203_167 rfl
theorem k_203_168 : lk 203 168 = some (.aload_n 0, 169, 0, 0, .null) := by decide +kernel
theorem x_203_168 : Tr sc d 203 (168, [some (.ref xk), l1, l2, l3, l4, l5], [.long j0], h) Q = Tr sc d 203 (169, [some (.ref xk), l1, l2, l3, l4, l5], [.ref xk, .long j0], h) Q := t_aload_n k_203_168 rfl
theorem k_203_169 : lk 203 169 = some (.getfield 75, 172, 10, 38, .null) := by decide +kernel
theorem x_203_169 : Tr sc d 203 (169, [l0, l1, l2, l3, l4, l5], [.ref k1, .long j0], h) Q = (okp h k1 10 = true ∧ ∃ q, hR h k1 38 = some q ∧ Tr sc d 203 (172, [l0, l1, l2, l3, l4, l5], [.ref q, .long j0], h) Q) := t_getr k_203_169
theorem k_203_172 : lk 203 172 = some (.iload 4, 174, 4, 0, .null) := by decide +kernel
theorem x_203_172 : Tr sc d 203 (172, [l0, l1, l2, l3, some (.int x), l5], [.ref k1, .long j0], h) Q = Tr sc d 203 (174, [l0, l1, l2, l3, some (.int x), l5], [.int x, .ref k1, .long j0], h) Q := t_iload k_203_172 rfl
theorem k_203_174 : lk 203 174 = some (.iconst 1, 175, 0, 0, .int 1) := by decide +kernel
theorem x_203_174 : Tr sc d 203 (174, [l0, l1, l2, l3, l4, l5], [.int i2, .ref k1, .long j0], h) Q = Tr sc d 203 (175, [l0, l1, l2, l3, l4, l5], [.int 1, .int i2, .ref k1, .long j0], h) Q := t_go k_203_174 rfl
theorem k_203_175 : lk 203 175 = some (.isub, 176, 0, 0, .null) := by decide +kernel
theorem x_203_175 : Tr sc d 203 (175, [l0, l1, l2, l3, l4, l5], [.int i3, .int i2, .ref k1, .long j0], h) Q = Tr sc d 203 (176, [l0, l1, l2, l3, l4, l5], [.int (i2 - i3), .ref k1, .long j0], h) Q := t_go k_203_175 rfl
theorem k_203_176 : lk 203 176 = some (.laload, 177, 0, 0, .null) := by decide +kernel
theorem x_203_176 : Tr sc d 203 (176, [l0, l1, l2, l3, l4, l5], [.int i2, .ref k1, .long j0], h) Q = ((okp h k1 12 && inb i2 (LN k1)) = true ∧ Tr sc d 203 (177, [l0, l1, l2, l3, l4, l5], [.long (hL h k1 i2.toNatClampNeg), .long j0], h) Q) := t_gd k_203_176 rfl
theorem k_203_177 : lk 203 177 = some (.lcmp, 178, 0, 0, .null) := by decide +kernel
theorem x_203_177 : Tr sc d 203 (177, [l0, l1, l2, l3, l4, l5], [.long j1, .long j0], h) Q = Tr sc d 203 (178, [l0, l1, l2, l3, l4, l5], [.int (lg_cmp j0 j1)], h) Q := t_go k_203_177 rfl
theorem k_203_178 : lk 203 178 = some (.ifCond .ne 9, 181, 187, 0, .null) := by decide +kernel
theorem x_203_178 : Tr sc d 203 (178, [l0, l1, l2, l3, l4, l5], [.int i0], h) Q = if i0 = 0 then Tr sc d 203 (181, [l0, l1, l2, l3, l4, l5], [], h) Q else Tr sc d 203 (187, [l0, l1, l2, l3, l4, l5], [], h) Q := t_if k_203_178 rfl
theorem k_203_181 : lk 203 181 = some (.iload_n 3, 182, 3, 0, .null) := by decide +kernel
theorem x_203_181 : Tr sc d 203 (181, [l0, l1, l2, some (.int x), l4, l5], [], h) Q = Tr sc d 203 (182, [l0, l1, l2, some (.int x), l4, l5], [.int x], h) Q := t_iload_n k_203_181 rfl
theorem k_203_182 : lk 203 182 = some (.iconst 1, 183, 0, 0, .int 1) := by decide +kernel
theorem x_203_182 : Tr sc d 203 (182, [l0, l1, l2, l3, l4, l5], [.int i0], h) Q = Tr sc d 203 (183, [l0, l1, l2, l3, l4, l5], [.int 1, .int i0], h) Q := t_go k_203_182 rfl
theorem k_203_183 : lk 203 183 = some (.iadd, 184, 0, 0, .null) := by decide +kernel
theorem x_203_183 : Tr sc d 203 (183, [l0, l1, l2, l3, l4, l5], [.int i1, .int i0], h) Q = Tr sc d 203 (184, [l0, l1, l2, l3, l4, l5], [.int (i0 + i1)], h) Q := t_go k_203_183 rfl
theorem k_203_184 : lk 203 184 = some (.goto 4, 187, 188, 0, .null) := by decide +kernel
theorem x_203_184 : Tr sc d 203 (184, [l0, l1, l2, l3, l4, l5], [.int i0], h) Q = Tr sc d 203 (188, [l0, l1, l2, l3, l4, l5], [.int i0], h) Q := t_go k_203_184 rfl
theorem k_203_187 : lk 203 187 = some (.iconst 1, 188, 0, 0, .int 1) := by decide +kernel
theorem x_203_187 : Tr sc d 203 (187, [l0, l1, l2, l3, l4, l5], [], h) Q = Tr sc d 203 (188, [l0, l1, l2, l3, l4, l5], [.int 1], h) Q := t_go k_203_187 rfl
theorem k_203_188 : lk 203 188 = some (.istore_n 3, 189, 3, 0, .null) := by decide +kernel
theorem x_203_188 : Tr sc d 203 (188, [l0, l1, l2, l3, l4, l5], [.int i0], h) Q = Tr sc d 203 (189, [l0, l1, cl2 l2, some (.int i0), l4, l5], [], h) Q := t_istore_n k_203_188 (Nat.le_of_ble_eq_true rfl)
theorem k_203_189 : lk 203 189 = some (.aload_n 0, 190, 0, 0, .null) := by decide +kernel
theorem x_203_189 : Tr sc d 203 (189, [some (.ref xk), l1, l2, l3, l4, l5], [], h) Q = Tr sc d 203 (190, [some (.ref xk), l1, l2, l3, l4, l5], [.ref xk], h) Q := t_aload_n k_203_189 rfl
theorem k_203_190 : lk 203 190 = some (.iload_n 3, 191, 3, 0, .null) := by decide +kernel
theorem x_203_190 : Tr sc d 203 (190, [l0, l1, l2, some (.int x), l4, l5], [.ref k0], h) Q = Tr sc d 203 (191, [l0, l1, l2, some (.int x), l4, l5], [.int x, .ref k0], h) Q := t_iload_n k_203_190 rfl
theorem k_203_191 : lk 203 191 = some (.aload_n 0, 192, 0, 0, .null) := by decide +kernel
theorem x_203_191 : Tr sc d 203 (191, [some (.ref xk), l1, l2, l3, l4, l5], [.int i1, .ref k0], h) Q = Tr sc d 203 (192, [some (.ref xk), l1, l2, l3, l4, l5], [.ref xk, .int i1, .ref k0], h) Q := t_aload_n k_203_191 rfl
theorem k_203_192 : lk 203 192 = some (.getfield 286, 195, 10, 37, .int 0) := by decide +kernel
theorem x_203_192 : Tr sc d 203 (192, [l0, l1, l2, l3, l4, l5], [.ref k2, .int i1, .ref k0], h) Q = (okp h k2 10 = true ∧ Tr sc d 203 (195, [l0, l1, l2, l3, l4, l5], [.int (hI h k2 37), .int i1, .ref k0], h) Q) := t_gd k_203_192 rfl
theorem k_203_195 : lk 203 195 = some (.if_icmp .le 7, 198, 202, 0, .null) := by decide +kernel
theorem x_203_195 : Tr sc d 203 (195, [l0, l1, l2, l3, l4, l5], [.int i2, .int i1, .ref k0], h) Q = if i1 ≤ i2 then Tr sc d 203 (202, [l0, l1, l2, l3, l4, l5], [.ref k0], h) Q else Tr sc d 203 (198, [l0, l1, l2, l3, l4, l5], [.ref k0], h) Q := t_if k_203_195 rfl
theorem k_203_198 : lk 203 198 = some (.iload_n 3, 199, 3, 0, .null) := by decide +kernel
theorem x_203_198 : Tr sc d 203 (198, [l0, l1, l2, some (.int x), l4, l5], [.ref k0], h) Q = Tr sc d 203 (199, [l0, l1, l2, some (.int x), l4, l5], [.int x, .ref k0], h) Q := t_iload_n k_203_198 rfl
theorem k_203_199 : lk 203 199 = some (.goto 7, 202, 206, 0, .null) := by decide +kernel
theorem x_203_199 : Tr sc d 203 (199, [l0, l1, l2, l3, l4, l5], [.int i1, .ref k0], h) Q = Tr sc d 203 (206, [l0, l1, l2, l3, l4, l5], [.int i1, .ref k0], h) Q := t_go k_203_199 rfl
theorem k_203_202 : lk 203 202 = some (.aload_n 0, 203, 0, 0, .null) := by decide +kernel
theorem x_203_202 : Tr sc d 203 (202, [some (.ref xk), l1, l2, l3, l4, l5], [.ref k0], h) Q = Tr sc d 203 (203, [some (.ref xk), l1, l2, l3, l4, l5], [.ref xk, .ref k0], h) Q := t_aload_n k_203_202 rfl
theorem k_203_203 : lk 203 203 = some (.getfield 286, 206, 10, 37, .int 0) := by decide +kernel
theorem x_203_203 : Tr sc d 203 (203, [l0, l1, l2, l3, l4, l5], [.ref k1, .ref k0], h) Q = (okp h k1 10 = true ∧ Tr sc d 203 (206, [l0, l1, l2, l3, l4, l5], [.int (hI h k1 37), .ref k0], h) Q) := t_gd k_203_203 rfl
theorem k_203_206 : lk 203 206 = some (.putfield 286, 209, 10, 37, .int 0) := by decide +kernel
theorem x_203_206 : Tr sc d 203 (206, [l0, l1, l2, l3, l4, l5], [.int i1, .ref k0], h) Q = (okp h k0 10 = true ∧ Tr sc d 203 (209, [l0, l1, l2, l3, l4, l5], [], (sI h k0 37 i1)) Q) := t_gd k_203_206 rfl
theorem k_203_209 : lk 203 209 = some (.iload_n 3, 210, 3, 0, .null) := by decide +kernel
theorem x_203_209 : Tr sc d 203 (209, [l0, l1, l2, some (.int x), l4, l5], [], h) Q = Tr sc d 203 (210, [l0, l1, l2, some (.int x), l4, l5], [.int x], h) Q := t_iload_n k_203_209 rfl
theorem k_203_210 : lk 203 210 = some (.iconst 1, 211, 0, 0, .int 1) := by decide +kernel
theorem x_203_210 : Tr sc d 203 (210, [l0, l1, l2, l3, l4, l5], [.int i0], h) Q = Tr sc d 203 (211, [l0, l1, l2, l3, l4, l5], [.int 1, .int i0], h) Q := t_go k_203_210 rfl
theorem k_203_211 : lk 203 211 = some (.if_icmp .ne 85, 214, 296, 0, .null) := by decide +kernel
theorem x_203_211 : Tr sc d 203 (211, [l0, l1, l2, l3, l4, l5], [.int i1, .int i0], h) Q = if i0 = i1 then Tr sc d 203 (214, [l0, l1, l2, l3, l4, l5], [], h) Q else Tr sc d 203 (296, [l0, l1, l2, l3, l4, l5], [], h) Q := t_if k_203_211 rfl
theorem k_203_214 : lk 203 214 = some (.aload_n 0, 215, 0, 0, .null) := by decide +kernel
theorem x_203_214 : Tr sc d 203 (214, [some (.ref xk), l1, l2, l3, l4, l5], [], h) Q = Tr sc d 203 (215, [some (.ref xk), l1, l2, l3, l4, l5], [.ref xk], h) Q := t_aload_n k_203_214 rfl
theorem k_203_215 : lk 203 215 = some (.getfield 78, 218, 10, 39, .null) := by decide +kernel
theorem x_203_215 : Tr sc d 203 (215, [l0, l1, l2, l3, l4, l5], [.ref k0], h) Q = (okp h k0 10 = true ∧ ∃ q, hR h k0 39 = some q ∧ Tr sc d 203 (218, [l0, l1, l2, l3, l4, l5], [.ref q], h) Q) := t_getr k_203_215
theorem k_203_218 : lk 203 218 = some (.aload_n 0, 219, 0, 0, .null) := by decide +kernel
theorem x_203_218 : Tr sc d 203 (218, [some (.ref xk), l1, l2, l3, l4, l5], [.ref k0], h) Q = Tr sc d 203 (219, [some (.ref xk), l1, l2, l3, l4, l5], [.ref xk, .ref k0], h) Q := t_aload_n k_203_218 rfl
theorem k_203_219 : lk 203 219 = some (.getfield 283, 222, 10, 36, .int 0) := by decide +kernel
theorem x_203_219 : Tr sc d 203 (219, [l0, l1, l2, l3, l4, l5], [.ref k1, .ref k0], h) Q = (okp h k1 10 = true ∧ Tr sc d 203 (222, [l0, l1, l2, l3, l4, l5], [.int (hI h k1 36), .ref k0], h) Q) := t_gd k_203_219 rfl
theorem k_203_222 : lk 203 222 = some (.aload_n 0, 223, 0, 0, .null) := by decide +kernel
theorem x_203_222 : Tr sc d 203 (222, [some (.ref xk), l1, l2, l3, l4, l5], [.int i1, .ref k0], h) Q = Tr sc d 203 (223, [some (.ref xk), l1, l2, l3, l4, l5], [.ref xk, .int i1, .ref k0], h) Q := t_aload_n k_203_222 rfl
theorem k_203_223 : lk 203 223 = some (.getfield 75, 226, 10, 38, .null) := by decide +kernel
theorem x_203_223 : Tr sc d 203 (223, [l0, l1, l2, l3, l4, l5], [.ref k2, .int i1, .ref k0], h) Q = (okp h k2 10 = true ∧ ∃ q, hR h k2 38 = some q ∧ Tr sc d 203 (226, [l0, l1, l2, l3, l4, l5], [.ref q, .int i1, .ref k0], h) Q) := t_getr k_203_223
theorem k_203_226 : lk 203 226 = some (.iload 4, 228, 4, 0, .null) := by decide +kernel
theorem x_203_226 : Tr sc d 203 (226, [l0, l1, l2, l3, some (.int x), l5], [.ref k2, .int i1, .ref k0], h) Q = Tr sc d 203 (228, [l0, l1, l2, l3, some (.int x), l5], [.int x, .ref k2, .int i1, .ref k0], h) Q := t_iload k_203_226 rfl
theorem k_203_228 : lk 203 228 = some (.laload, 229, 0, 0, .null) := by decide +kernel
theorem x_203_228 : Tr sc d 203 (228, [l0, l1, l2, l3, l4, l5], [.int i3, .ref k2, .int i1, .ref k0], h) Q = ((okp h k2 12 && inb i3 (LN k2)) = true ∧ Tr sc d 203 (229, [l0, l1, l2, l3, l4, l5], [.long (hL h k2 i3.toNatClampNeg), .int i1, .ref k0], h) Q) := t_gd k_203_228 rfl
theorem k_203_229 : lk 203 229 = some (.ldc2_w 278, 232, 0, 1583, .long 4000000) := by decide +kernel
theorem x_203_229 : Tr sc d 203 (229, [l0, l1, l2, l3, l4, l5], [.long j2, .int i1, .ref k0], h) Q = Tr sc d 203 (232, [l0, l1, l2, l3, l4, l5], [.long 4000000, .long j2, .int i1, .ref k0], h) Q := t_go k_203_229 rfl
theorem k_203_232 : lk 203 232 = some (.lrem, 233, 0, 0, .null) := by decide +kernel
theorem x_203_232 : Tr sc d 203 (232, [l0, l1, l2, l3, l4, l5], [.long j3, .long j2, .int i1, .ref k0], h) Q = (¬ j3 = 0 ∧ Tr sc d 203 (233, [l0, l1, l2, l3, l4, l5], [.long (j2 - j2 / j3 * j3), .int i1, .ref k0], h) Q) := t_ng k_203_232 rfl
theorem k_203_233 : lk 203 233 = some (.ldc2_w 276, 236, 0, 1582, .long 1000000) := by decide +kernel
theorem x_203_233 : Tr sc d 203 (233, [l0, l1, l2, l3, l4, l5], [.long j2, .int i1, .ref k0], h) Q = Tr sc d 203 (236, [l0, l1, l2, l3, l4, l5], [.long 1000000, .long j2, .int i1, .ref k0], h) Q := t_go k_203_233 rfl
theorem k_203_236 : lk 203 236 = some (.lsub, 237, 0, 0, .null) := by decide +kernel
theorem x_203_236 : Tr sc d 203 (236, [l0, l1, l2, l3, l4, l5], [.long j3, .long j2, .int i1, .ref k0], h) Q = Tr sc d 203 (237, [l0, l1, l2, l3, l4, l5], [.long (j2 - j3), .int i1, .ref k0], h) Q := t_go k_203_236 rfl
theorem k_203_237 : lk 203 237 = some (.l2i, 238, 0, 0, .null) := by decide +kernel
theorem x_203_237 : Tr sc d 203 (237, [l0, l1, l2, l3, l4, l5], [.long j2, .int i1, .ref k0], h) Q = Tr sc d 203 (238, [l0, l1, l2, l3, l4, l5], [.int j2.toInt32, .int i1, .ref k0], h) Q := t_go k_203_237 rfl
theorem k_203_238 : lk 203 238 = some (.iastore, 239, 0, 0, .null) := by decide +kernel
theorem x_203_238 : Tr sc d 203 (238, [l0, l1, l2, l3, l4, l5], [.int i2, .int i1, .ref k0], h) Q = ((okp h k0 11 && inb i1 (LN k0)) = true ∧ Tr sc d 203 (239, [l0, l1, l2, l3, l4, l5], [], (sI h k0 i1.toNatClampNeg i2)) Q) := t_gd k_203_238 rfl
theorem k_203_239 : lk 203 239 = some (.aload_n 0, 240, 0, 0, .null) := by decide +kernel
theorem x_203_239 : Tr sc d 203 (239, [some (.ref xk), l1, l2, l3, l4, l5], [], h) Q = Tr sc d 203 (240, [some (.ref xk), l1, l2, l3, l4, l5], [.ref xk], h) Q := t_aload_n k_203_239 rfl
theorem k_203_240 : lk 203 240 = some (.getfield 81, 243, 10, 40, .null) := by decide +kernel
theorem x_203_240 : Tr sc d 203 (240, [l0, l1, l2, l3, l4, l5], [.ref k0], h) Q = (okp h k0 10 = true ∧ ∃ q, hR h k0 40 = some q ∧ Tr sc d 203 (243, [l0, l1, l2, l3, l4, l5], [.ref q], h) Q) := t_getr k_203_240
theorem k_203_243 : lk 203 243 = some (.aload_n 0, 244, 0, 0, .null) := by decide +kernel
theorem x_203_243 : Tr sc d 203 (243, [some (.ref xk), l1, l2, l3, l4, l5], [.ref k0], h) Q = Tr sc d 203 (244, [some (.ref xk), l1, l2, l3, l4, l5], [.ref xk, .ref k0], h) Q := t_aload_n k_203_243 rfl
theorem k_203_244 : lk 203 244 = some (.getfield 283, 247, 10, 36, .int 0) := by decide +kernel
theorem x_203_244 : Tr sc d 203 (244, [l0, l1, l2, l3, l4, l5], [.ref k1, .ref k0], h) Q = (okp h k1 10 = true ∧ Tr sc d 203 (247, [l0, l1, l2, l3, l4, l5], [.int (hI h k1 36), .ref k0], h) Q) := t_gd k_203_244 rfl
theorem k_203_247 : lk 203 247 = some (.aload_n 0, 248, 0, 0, .null) := by decide +kernel
theorem x_203_247 : Tr sc d 203 (247, [some (.ref xk), l1, l2, l3, l4, l5], [.int i1, .ref k0], h) Q = Tr sc d 203 (248, [some (.ref xk), l1, l2, l3, l4, l5], [.ref xk, .int i1, .ref k0], h) Q := t_aload_n k_203_247 rfl
theorem k_203_248 : lk 203 248 = some (.getfield 75, 251, 10, 38, .null) := by decide +kernel
theorem x_203_248 : Tr sc d 203 (248, [l0, l1, l2, l3, l4, l5], [.ref k2, .int i1, .ref k0], h) Q = (okp h k2 10 = true ∧ ∃ q, hR h k2 38 = some q ∧ Tr sc d 203 (251, [l0, l1, l2, l3, l4, l5], [.ref q, .int i1, .ref k0], h) Q) := t_getr k_203_248
theorem k_203_251 : lk 203 251 = some (.iload 4, 253, 4, 0, .null) := by decide +kernel
theorem x_203_251 : Tr sc d 203 (251, [l0, l1, l2, l3, some (.int x), l5], [.ref k2, .int i1, .ref k0], h) Q = Tr sc d 203 (253, [l0, l1, l2, l3, some (.int x), l5], [.int x, .ref k2, .int i1, .ref k0], h) Q := t_iload k_203_251 rfl
theorem k_203_253 : lk 203 253 = some (.laload, 254, 0, 0, .null) := by decide +kernel
theorem x_203_253 : Tr sc d 203 (253, [l0, l1, l2, l3, l4, l5], [.int i3, .ref k2, .int i1, .ref k0], h) Q = ((okp h k2 12 && inb i3 (LN k2)) = true ∧ Tr sc d 203 (254, [l0, l1, l2, l3, l4, l5], [.long (hL h k2 i3.toNatClampNeg), .int i1, .ref k0], h) Q) := t_gd k_203_253 rfl
theorem k_203_254 : lk 203 254 = some (.ldc2_w 278, 257, 0, 1583, .long 4000000) := by decide +kernel
theorem x_203_254 : Tr sc d 203 (254, [l0, l1, l2, l3, l4, l5], [.long j2, .int i1, .ref k0], h) Q = Tr sc d 203 (257, [l0, l1, l2, l3, l4, l5], [.long 4000000, .long j2, .int i1, .ref k0], h) Q := t_go k_203_254 rfl
theorem k_203_257 : lk 203 257 = some (.ldiv, 258, 0, 0, .null) := by decide +kernel
theorem x_203_257 : Tr sc d 203 (257, [l0, l1, l2, l3, l4, l5], [.long j3, .long j2, .int i1, .ref k0], h) Q = (¬ j3 = 0 ∧ Tr sc d 203 (258, [l0, l1, l2, l3, l4, l5], [.long (j2 / j3), .int i1, .ref k0], h) Q) := t_ng k_203_257 rfl
theorem k_203_258 : lk 203 258 = some (.ldc2_w 276, 261, 0, 1582, .long 1000000) := by decide +kernel
theorem x_203_258 : Tr sc d 203 (258, [l0, l1, l2, l3, l4, l5], [.long j2, .int i1, .ref k0], h) Q = Tr sc d 203 (261, [l0, l1, l2, l3, l4, l5], [.long 1000000, .long j2, .int i1, .ref k0], h) Q := t_go k_203_258 rfl
theorem k_203_261 : lk 203 261 = some (.lsub, 262, 0, 0, .null) := by decide +kernel
theorem x_203_261 : Tr sc d 203 (261, [l0, l1, l2, l3, l4, l5], [.long j3, .long j2, .int i1, .ref k0], h) Q = Tr sc d 203 (262, [l0, l1, l2, l3, l4, l5], [.long (j2 - j3), .int i1, .ref k0], h) Q := t_go k_203_261 rfl
theorem k_203_262 : lk 203 262 = some (.l2i, 263, 0, 0, .null) := by decide +kernel
theorem x_203_262 : Tr sc d 203 (262, [l0, l1, l2, l3, l4, l5], [.long j2, .int i1, .ref k0], h) Q = Tr sc d 203 (263, [l0, l1, l2, l3, l4, l5], [.int j2.toInt32, .int i1, .ref k0], h) Q := t_go k_203_262 rfl
theorem k_203_263 : lk 203 263 = some (.iastore, 264, 0, 0, .null) := by decide +kernel
theorem x_203_263 : Tr sc d 203 (263, [l0, l1, l2, l3, l4, l5], [.int i2, .int i1, .ref k0], h) Q = ((okp h k0 11 && inb i1 (LN k0)) = true ∧ Tr sc d 203 (264, [l0, l1, l2, l3, l4, l5], [], (sI h k0 i1.toNatClampNeg i2)) Q) := t_gd k_203_263 rfl
theorem k_203_264 : lk 203 264 = some (.aload_n 0, 265, 0, 0, .null) := by decide +kernel
theorem x_203_264 : Tr sc d 203 (264, [some (.ref xk), l1, l2, l3, l4, l5], [], h) Q = Tr sc d 203 (265, [some (.ref xk), l1, l2, l3, l4, l5], [.ref xk], h) Q := t_aload_n k_203_264 rfl
theorem k_203_265 : lk 203 265 = some (.aload_n 0, 266, 0, 0, .null) := by decide +kernel
theorem x_203_265 : Tr sc d 203 (265, [some (.ref xk), l1, l2, l3, l4, l5], [.ref k0], h) Q = Tr sc d 203 (266, [some (.ref xk), l1, l2, l3, l4, l5], [.ref xk, .ref k0], h) Q := t_aload_n k_203_265 rfl
theorem k_203_266 : lk 203 266 = some (.getfield 78, 269, 10, 39, .null) := by decide +kernel
theorem x_203_266 : Tr sc d 203 (266, [l0, l1, l2, l3, l4, l5], [.ref k1, .ref k0], h) Q = (okp h k1 10 = true ∧ ∃ q, hR h k1 39 = some q ∧ Tr sc d 203 (269, [l0, l1, l2, l3, l4, l5], [.ref q, .ref k0], h) Q) := t_getr k_203_266
theorem k_203_269 : lk 203 269 = some (.aload_n 0, 270, 0, 0, .null) := by decide +kernel
theorem x_203_269 : Tr sc d 203 (269, [some (.ref xk), l1, l2, l3, l4, l5], [.ref k1, .ref k0], h) Q = Tr sc d 203 (270, [some (.ref xk), l1, l2, l3, l4, l5], [.ref xk, .ref k1, .ref k0], h) Q := t_aload_n k_203_269 rfl
theorem k_203_270 : lk 203 270 = some (.getfield 283, 273, 10, 36, .int 0) := by decide +kernel
theorem x_203_270 : Tr sc d 203 (270, [l0, l1, l2, l3, l4, l5], [.ref k2, .ref k1, .ref k0], h) Q = (okp h k2 10 = true ∧ Tr sc d 203 (273, [l0, l1, l2, l3, l4, l5], [.int (hI h k2 36), .ref k1, .ref k0], h) Q) := t_gd k_203_270 rfl
theorem k_203_273 : lk 203 273 = some (.iaload, 274, 0, 0, .null) := by decide +kernel
theorem x_203_273 : Tr sc d 203 (273, [l0, l1, l2, l3, l4, l5], [.int i2, .ref k1, .ref k0], h) Q = (iOk sc h k1 i2 ∧ Tr sc d 203 (274, [l0, l1, l2, l3, l4, l5], [.int (iRd sc h k1 i2), .ref k0], h) Q) := t_iald k_203_273
theorem k_203_274 : lk 203 274 = some (.aload_n 0, 275, 0, 0, .null) := by decide +kernel
theorem x_203_274 : Tr sc d 203 (274, [some (.ref xk), l1, l2, l3, l4, l5], [.int i1, .ref k0], h) Q = Tr sc d 203 (275, [some (.ref xk), l1, l2, l3, l4, l5], [.ref xk, .int i1, .ref k0], h) Q := t_aload_n k_203_274 rfl
theorem k_203_275 : lk 203 275 = some (.getfield 81, 278, 10, 40, .null) := by decide +kernel
theorem x_203_275 : Tr sc d 203 (275, [l0, l1, l2, l3, l4, l5], [.ref k2, .int i1, .ref k0], h) Q = (okp h k2 10 = true ∧ ∃ q, hR h k2 40 = some q ∧ Tr sc d 203 (278, [l0, l1, l2, l3, l4, l5], [.ref q, .int i1, .ref k0], h) Q) := t_getr k_203_275
theorem k_203_278 : lk 203 278 = some (.aload_n 0, 279, 0, 0, .null) := by decide +kernel
theorem x_203_278 : Tr sc d 203 (278, [some (.ref xk), l1, l2, l3, l4, l5], [.ref k2, .int i1, .ref k0], h) Q = Tr sc d 203 (279, [some (.ref xk), l1, l2, l3, l4, l5], [.ref xk, .ref k2, .int i1, .ref k0], h) Q := t_aload_n k_203_278 rfl
theorem k_203_279 : lk 203 279 = some (.getfield 283, 282, 10, 36, .int 0) := by decide +kernel
theorem x_203_279 : Tr sc d 203 (279, [l0, l1, l2, l3, l4, l5], [.ref k3, .ref k2, .int i1, .ref k0], h) Q = (okp h k3 10 = true ∧ Tr sc d 203 (282, [l0, l1, l2, l3, l4, l5], [.int (hI h k3 36), .ref k2, .int i1, .ref k0], h) Q) := t_gd k_203_279 rfl
theorem k_203_282 : lk 203 282 = some (.iaload, 283, 0, 0, .null) := by decide +kernel
theorem x_203_282 : Tr sc d 203 (282, [l0, l1, l2, l3, l4, l5], [.int i3, .ref k2, .int i1, .ref k0], h) Q = (iOk sc h k2 i3 ∧ Tr sc d 203 (283, [l0, l1, l2, l3, l4, l5], [.int (iRd sc h k2 i3), .int i1, .ref k0], h) Q) := t_iald k_203_282
theorem k_203_283 : lk 203 283 = some (.invokevirtual 289, 286, 204, 2, .null) := by decide +kernel
theorem x_203_283 : Tr sc (d + 1) 203 (283, [l0, l1, l2, l3, l4, l5], [.int i2, .int i1, .ref k0], h) Q = (okp h k0 10 = true ∧ Tr sc d 204 (ent0 204 [.ref k0, .int i1, .int i2] h) (fun z => Tr sc (d + 1) 203 (286, [l0, l1, l2, l3, l4, l5], z.1.toList ++ [], z.2) Q)) := t_cv (as := [.int i1, .int i2]) (r := []) k_203_283 rfl rfl (Nat.le_of_ble_eq_true rfl) (Nat.le_of_ble_eq_true rfl) (Nat.le_of_ble_eq_true rfl)
theorem k_203_286 : lk 203 286 = some (.aload_n 0, 287, 0, 0, .null) := by decide +kernel
theorem x_203_286 : Tr sc d 203 (286, [some (.ref xk), l1, l2, l3, l4, l5], [], h) Q = Tr sc d 203 (287, [some (.ref xk), l1, l2, l3, l4, l5], [.ref xk], h) Q := t_aload_n k_203_286 rfl
theorem k_203_287 : lk 203 287 = some (.dup, 288, 0, 0, .null) := by decide +kernel
theorem x_203_287 : Tr sc d 203 (287, [l0, l1, l2, l3, l4, l5], [.ref k0], h) Q = Tr sc d 203 (288, [l0, l1, l2, l3, l4, l5], [.ref k0, .ref k0], h) Q := t_go k_203_287 rfl
theorem k_203_288 : lk 203 288 = some (.getfield 283, 291, 10, 36, .int 0) := by decide +kernel
theorem x_203_288 : Tr sc d 203 (288, [l0, l1, l2, l3, l4, l5], [.ref k1, .ref k0], h) Q = (okp h k1 10 = true ∧ Tr sc d 203 (291, [l0, l1, l2, l3, l4, l5], [.int (hI h k1 36), .ref k0], h) Q) := t_gd k_203_288 rfl
theorem k_203_291 : lk 203 291 = some (.iconst 1, 292, 0, 0, .int 1) := by decide +kernel
theorem x_203_291 : Tr sc d 203 (291, [l0, l1, l2, l3, l4, l5], [.int i1, .ref k0], h) Q = Tr sc d 203 (292, [l0, l1, l2, l3, l4, l5], [.int 1, .int i1, .ref k0], h) Q := t_go k_203_291 rfl
theorem k_203_292 : lk 203 292 = some (.iadd, 293, 0, 0, .null) := by decide +kernel
theorem x_203_292 : Tr sc d 203 (292, [l0, l1, l2, l3, l4, l5], [.int i2, .int i1, .ref k0], h) Q = Tr sc d 203 (293, [l0, l1, l2, l3, l4, l5], [.int (i1 + i2), .ref k0], h) Q := t_go k_203_292 rfl
theorem k_203_293 : lk 203 293 = some (.putfield 283, 296, 10, 36, .int 0) := by decide +kernel
theorem x_203_293 : Tr sc d 203 (293, [l0, l1, l2, l3, l4, l5], [.int i1, .ref k0], h) Q = (okp h k0 10 = true ∧ Tr sc d 203 (296, [l0, l1, l2, l3, l4, l5], [], (sI h k0 36 i1)) Q) := t_gd k_203_293 rfl
theorem k_203_296 : lk 203 296 = some (.iinc 4 1, 299, 4, 0, .int 1) := by decide +kernel
theorem x_203_296 : Tr sc d 203 (296, [l0, l1, l2, l3, some (.int x), l5], [], h) Q = Tr sc d 203 (299, [l0, l1, l2, cl2 l3, some (.int (x + 1)), l5], [], h) Q := t_inc k_203_296 rfl (Nat.le_of_ble_eq_true rfl)
theorem k_203_299 : lk 203 299 = some (.goto (-152), 302, 147, 0, .null) := by decide +kernel
theorem x_203_299 : Tr sc d 203 (299, [l0, l1, l2, l3, l4, l5], [], h) Q = Tr sc d 203 (147, [l0, l1, l2, l3, l4, l5], [], h) Q := t_go k_203_299 rfl
theorem k_203_302 : lk 203 302 = some (.return_, 303, 0, 0, .null) := by decide +kernel
theorem x_203_302 : Tr sc d 203 (302, [l0, l1, l2, l3, l4, l5], [], h) Q = Q (none, h) := t_ret k_203_302 (by rw [r_203]; rfl)
theorem e_203 : Tr sc d 203 (ent0 203 [.ref k0, .int i1, .int i2] h) Q = Tr sc d 203 (0, [some (.ref k0), some (.int i1), some (.int i2), none, none, none], [], h) Q := by
  have e : mL 203 = 6 := by decide +kernel
  unfold ent0
  rw [e]
  rfl
theorem r_204 : mR 204 = none := by decide +kernel
theorem k_204_0 : lk 204 0 = some (.aload_n 0, 1, 0, 0, .null) := by decide +kernel
theorem x_204_0 : Tr sc d 204 (0, [some (.ref xk), l1, l2, l3], [], h) Q = Tr sc d 204 (1, [some (.ref xk), l1, l2, l3], [.ref xk], h) Q := t_aload_n k_204_0 rfl
theorem k_204_1 : lk 204 1 = some (.getfield 283, 4, 10, 36, .int 0) := by decide +kernel
theorem x_204_1 : Tr sc d 204 (1, [l0, l1, l2, l3], [.ref k0], h) Q = (okp h k0 10 = true ∧ Tr sc d 204 (4, [l0, l1, l2, l3], [.int (hI h k0 36)], h) Q) := t_gd k_204_1 rfl
theorem k_204_4 : lk 204 4 = some (.ifCond .ne 7, 7, 11, 0, .null) := by decide +kernel
theorem x_204_4 : Tr sc d 204 (4, [l0, l1, l2, l3], [.int i0], h) Q = if i0 = 0 then Tr sc d 204 (7, [l0, l1, l2, l3], [], h) Q else Tr sc d 204 (11, [l0, l1, l2, l3], [], h) Q := t_if k_204_4 rfl
theorem k_204_7 : lk 204 7 = some (.iconst 1, 8, 0, 0, .int 1) := by decide +kernel
theorem x_204_7 : Tr sc d 204 (7, [l0, l1, l2, l3], [], h) Q = Tr sc d 204 (8, [l0, l1, l2, l3], [.int 1], h) Q := t_go k_204_7 rfl
theorem k_204_8 : lk 204 8 = some (.goto 4, 11, 12, 0, .null) := by decide +kernel
theorem x_204_8 : Tr sc d 204 (8, [l0, l1, l2, l3], [.int i0], h) Q = Tr sc d 204 (12, [l0, l1, l2, l3], [.int i0], h) Q := t_go k_204_8 rfl
theorem k_204_11 : lk 204 11 = some (.iconst 0, 12, 0, 0, .int 0) := by decide +kernel
theorem x_204_11 : Tr sc d 204 (11, [l0, l1, l2, l3], [], h) Q = Tr sc d 204 (12, [l0, l1, l2, l3], [.int 0], h) Q := t_go k_204_11 rfl
theorem k_204_12 : lk 204 12 = some (.istore_n 3, 13, 3, 0, .null) := by decide +kernel
theorem x_204_12 : Tr sc d 204 (12, [l0, l1, l2, l3], [.int i0], h) Q = Tr sc d 204 (13, [l0, l1, cl2 l2, some (.int i0)], [], h) Q := t_istore_n k_204_12 (Nat.le_of_ble_eq_true rfl)
theorem k_204_13 : lk 204 13 = some (.aload_n 0, 14, 0, 0, .null) := by decide +kernel
theorem x_204_13 : Tr sc d 204 (13, [some (.ref xk), l1, l2, l3], [], h) Q = Tr sc d 204 (14, [some (.ref xk), l1, l2, l3], [.ref xk], h) Q := t_aload_n k_204_13 rfl
theorem k_204_14 : lk 204 14 = some (.iload_n 3, 15, 3, 0, .null) := by decide +kernel
theorem x_204_14 : Tr sc d 204 (14, [l0, l1, l2, some (.int x)], [.ref k0], h) Q = Tr sc d 204 (15, [l0, l1, l2, some (.int x)], [.int x, .ref k0], h) Q := t_iload_n k_204_14 rfl
theorem k_204_15 : lk 204 15 = some (.ifCond .ne 11, 18, 26, 0, .null) := by decide +kernel
theorem x_204_15 : Tr sc d 204 (15, [l0, l1, l2, l3], [.int i1, .ref k0], h) Q = if i1 = 0 then Tr sc d 204 (18, [l0, l1, l2, l3], [.ref k0], h) Q else Tr sc d 204 (26, [l0, l1, l2, l3], [.ref k0], h) Q := t_if k_204_15 rfl
theorem k_204_18 : lk 204 18 = some (.iload_n 1, 19, 1, 0, .null) := by decide +kernel
theorem x_204_18 : Tr sc d 204 (18, [l0, some (.int x), l2, l3], [.ref k0], h) Q = Tr sc d 204 (19, [l0, some (.int x), l2, l3], [.int x, .ref k0], h) Q := t_iload_n k_204_18 rfl
theorem k_204_19 : lk 204 19 = some (.aload_n 0, 20, 0, 0, .null) := by decide +kernel
theorem x_204_19 : Tr sc d 204 (19, [some (.ref xk), l1, l2, l3], [.int i1, .ref k0], h) Q = Tr sc d 204 (20, [some (.ref xk), l1, l2, l3], [.ref xk, .int i1, .ref k0], h) Q := t_aload_n k_204_19 rfl
theorem k_204_20 : lk 204 20 = some (.getfield 292, 23, 10, 41, .int 0) := by decide +kernel
theorem x_204_20 : Tr sc d 204 (20, [l0, l1, l2, l3], [.ref k2, .int i1, .ref k0], h) Q = (okp h k2 10 = true ∧ Tr sc d 204 (23, [l0, l1, l2, l3], [.int (hI h k2 41), .int i1, .ref k0], h) Q) := t_gd k_204_20 rfl
theorem k_204_23 : lk 204 23 = some (.if_icmp .ge 7, 26, 30, 0, .null) := by decide +kernel
theorem x_204_23 : Tr sc d 204 (23, [l0, l1, l2, l3], [.int i2, .int i1, .ref k0], h) Q = if i2 ≤ i1 then Tr sc d 204 (30, [l0, l1, l2, l3], [.ref k0], h) Q else Tr sc d 204 (26, [l0, l1, l2, l3], [.ref k0], h) Q := t_if k_204_23 rfl
theorem k_204_26 : lk 204 26 = some (.iload_n 1, 27, 1, 0, .null) := by decide +kernel
theorem x_204_26 : Tr sc d 204 (26, [l0, some (.int x), l2, l3], [.ref k0], h) Q = Tr sc d 204 (27, [l0, some (.int x), l2, l3], [.int x, .ref k0], h) Q := t_iload_n k_204_26 rfl
theorem k_204_27 : lk 204 27 = some (.goto 7, 30, 34, 0, .null) := by decide +kernel
theorem x_204_27 : Tr sc d 204 (27, [l0, l1, l2, l3], [.int i1, .ref k0], h) Q = Tr sc d 204 (34, [l0, l1, l2, l3], [.int i1, .ref k0], h) Q := t_go k_204_27 rfl
theorem k_204_30 : lk 204 30 = some (.aload_n 0, 31, 0, 0, .null) := by decide +kernel
theorem x_204_30 : Tr sc d 204 (30, [some (.ref xk), l1, l2, l3], [.ref k0], h) Q = Tr sc d 204 (31, [some (.ref xk), l1, l2, l3], [.ref xk, .ref k0], h) Q := t_aload_n k_204_30 rfl
theorem k_204_31 : lk 204 31 = some (.getfield 292, 34, 10, 41, .int 0) := by decide +kernel
theorem x_204_31 : Tr sc d 204 (31, [l0, l1, l2, l3], [.ref k1, .ref k0], h) Q = (okp h k1 10 = true ∧ Tr sc d 204 (34, [l0, l1, l2, l3], [.int (hI h k1 41), .ref k0], h) Q) := t_gd k_204_31 rfl
theorem k_204_34 : lk 204 34 = some (.putfield 292, 37, 10, 41, .int 0) := by decide +kernel
theorem x_204_34 : Tr sc d 204 (34, [l0, l1, l2, l3], [.int i1, .ref k0], h) Q = (okp h k0 10 = true ∧ Tr sc d 204 (37, [l0, l1, l2, l3], [], (sI h k0 41 i1)) Q) := t_gd k_204_34 rfl
theorem k_204_37 : lk 204 37 = some (.aload_n 0, 38, 0, 0, .null) := by decide +kernel
theorem x_204_37 : Tr sc d 204 (37, [some (.ref xk), l1, l2, l3], [], h) Q = Tr sc d 204 (38, [some (.ref xk), l1, l2, l3], [.ref xk], h) Q := t_aload_n k_204_37 rfl
theorem k_204_38 : lk 204 38 = some (.iload_n 3, 39, 3, 0, .null) := by decide +kernel
theorem x_204_38 : Tr sc d 204 (38, [l0, l1, l2, some (.int x)], [.ref k0], h) Q = Tr sc d 204 (39, [l0, l1, l2, some (.int x)], [.int x, .ref k0], h) Q := t_iload_n k_204_38 rfl
theorem k_204_39 : lk 204 39 = some (.ifCond .ne 11, 42, 50, 0, .null) := by decide +kernel
theorem x_204_39 : Tr sc d 204 (39, [l0, l1, l2, l3], [.int i1, .ref k0], h) Q = if i1 = 0 then Tr sc d 204 (42, [l0, l1, l2, l3], [.ref k0], h) Q else Tr sc d 204 (50, [l0, l1, l2, l3], [.ref k0], h) Q := t_if k_204_39 rfl
theorem k_204_42 : lk 204 42 = some (.iload_n 1, 43, 1, 0, .null) := by decide +kernel
theorem x_204_42 : Tr sc d 204 (42, [l0, some (.int x), l2, l3], [.ref k0], h) Q = Tr sc d 204 (43, [l0, some (.int x), l2, l3], [.int x, .ref k0], h) Q := t_iload_n k_204_42 rfl
theorem k_204_43 : lk 204 43 = some (.aload_n 0, 44, 0, 0, .null) := by decide +kernel
theorem x_204_43 : Tr sc d 204 (43, [some (.ref xk), l1, l2, l3], [.int i1, .ref k0], h) Q = Tr sc d 204 (44, [some (.ref xk), l1, l2, l3], [.ref xk, .int i1, .ref k0], h) Q := t_aload_n k_204_43 rfl
theorem k_204_44 : lk 204 44 = some (.getfield 295, 47, 10, 42, .int 0) := by decide +kernel
theorem x_204_44 : Tr sc d 204 (44, [l0, l1, l2, l3], [.ref k2, .int i1, .ref k0], h) Q = (okp h k2 10 = true ∧ Tr sc d 204 (47, [l0, l1, l2, l3], [.int (hI h k2 42), .int i1, .ref k0], h) Q) := t_gd k_204_44 rfl
theorem k_204_47 : lk 204 47 = some (.if_icmp .le 7, 50, 54, 0, .null) := by decide +kernel
theorem x_204_47 : Tr sc d 204 (47, [l0, l1, l2, l3], [.int i2, .int i1, .ref k0], h) Q = if i1 ≤ i2 then Tr sc d 204 (54, [l0, l1, l2, l3], [.ref k0], h) Q else Tr sc d 204 (50, [l0, l1, l2, l3], [.ref k0], h) Q := t_if k_204_47 rfl
theorem k_204_50 : lk 204 50 = some (.iload_n 1, 51, 1, 0, .null) := by decide +kernel
theorem x_204_50 : Tr sc d 204 (50, [l0, some (.int x), l2, l3], [.ref k0], h) Q = Tr sc d 204 (51, [l0, some (.int x), l2, l3], [.int x, .ref k0], h) Q := t_iload_n k_204_50 rfl
theorem k_204_51 : lk 204 51 = some (.goto 7, 54, 58, 0, .null) := by decide +kernel
theorem x_204_51 : Tr sc d 204 (51, [l0, l1, l2, l3], [.int i1, .ref k0], h) Q = Tr sc d 204 (58, [l0, l1, l2, l3], [.int i1, .ref k0], h) Q := t_go k_204_51 rfl
theorem k_204_54 : lk 204 54 = some (.aload_n 0, 55, 0, 0, .null) := by decide +kernel
theorem x_204_54 : Tr sc d 204 (54, [some (.ref xk), l1, l2, l3], [.ref k0], h) Q = Tr sc d 204 (55, [some (.ref xk), l1, l2, l3], [.ref xk, .ref k0], h) Q := t_aload_n k_204_54 rfl
theorem k_204_55 : lk 204 55 = some (.getfield 295, 58, 10, 42, .int 0) := by decide +kernel
theorem x_204_55 : Tr sc d 204 (55, [l0, l1, l2, l3], [.ref k1, .ref k0], h) Q = (okp h k1 10 = true ∧ Tr sc d 204 (58, [l0, l1, l2, l3], [.int (hI h k1 42), .ref k0], h) Q) := t_gd k_204_55 rfl
theorem k_204_58 : lk 204 58 = some (.putfield 295, 61, 10, 42, .int 0) := by decide +kernel
theorem x_204_58 : Tr sc d 204 (58, [l0, l1, l2, l3], [.int i1, .ref k0], h) Q = (okp h k0 10 = true ∧ Tr sc d 204 (61, [l0, l1, l2, l3], [], (sI h k0 42 i1)) Q) := t_gd k_204_58 rfl
theorem k_204_61 : lk 204 61 = some (.aload_n 0, 62, 0, 0, .null) := by decide +kernel
theorem x_204_61 : Tr sc d 204 (61, [some (.ref xk), l1, l2, l3], [], h) Q = Tr sc d 204 (62, [some (.ref xk), l1, l2, l3], [.ref xk], h) Q := t_aload_n k_204_61 rfl
theorem k_204_62 : lk 204 62 = some (.iload_n 3, 63, 3, 0, .null) := by decide +kernel
theorem x_204_62 : Tr sc d 204 (62, [l0, l1, l2, some (.int x)], [.ref k0], h) Q = Tr sc d 204 (63, [l0, l1, l2, some (.int x)], [.int x, .ref k0], h) Q := t_iload_n k_204_62 rfl
theorem k_204_63 : lk 204 63 = some (.ifCond .ne 11, 66, 74, 0, .null) := by decide +kernel
theorem x_204_63 : Tr sc d 204 (63, [l0, l1, l2, l3], [.int i1, .ref k0], h) Q = if i1 = 0 then Tr sc d 204 (66, [l0, l1, l2, l3], [.ref k0], h) Q else Tr sc d 204 (74, [l0, l1, l2, l3], [.ref k0], h) Q := t_if k_204_63 rfl
theorem k_204_66 : lk 204 66 = some (.iload_n 2, 67, 2, 0, .null) := by decide +kernel
theorem x_204_66 : Tr sc d 204 (66, [l0, l1, some (.int x), l3], [.ref k0], h) Q = Tr sc d 204 (67, [l0, l1, some (.int x), l3], [.int x, .ref k0], h) Q := t_iload_n k_204_66 rfl
theorem k_204_67 : lk 204 67 = some (.aload_n 0, 68, 0, 0, .null) := by decide +kernel
theorem x_204_67 : Tr sc d 204 (67, [some (.ref xk), l1, l2, l3], [.int i1, .ref k0], h) Q = Tr sc d 204 (68, [some (.ref xk), l1, l2, l3], [.ref xk, .int i1, .ref k0], h) Q := t_aload_n k_204_67 rfl
theorem k_204_68 : lk 204 68 = some (.getfield 298, 71, 10, 43, .int 0) := by decide +kernel
theorem x_204_68 : Tr sc d 204 (68, [l0, l1, l2, l3], [.ref k2, .int i1, .ref k0], h) Q = (okp h k2 10 = true ∧ Tr sc d 204 (71, [l0, l1, l2, l3], [.int (hI h k2 43), .int i1, .ref k0], h) Q) := t_gd k_204_68 rfl
theorem k_204_71 : lk 204 71 = some (.if_icmp .ge 7, 74, 78, 0, .null) := by decide +kernel
theorem x_204_71 : Tr sc d 204 (71, [l0, l1, l2, l3], [.int i2, .int i1, .ref k0], h) Q = if i2 ≤ i1 then Tr sc d 204 (78, [l0, l1, l2, l3], [.ref k0], h) Q else Tr sc d 204 (74, [l0, l1, l2, l3], [.ref k0], h) Q := t_if k_204_71 rfl
theorem k_204_74 : lk 204 74 = some (.iload_n 2, 75, 2, 0, .null) := by decide +kernel
theorem x_204_74 : Tr sc d 204 (74, [l0, l1, some (.int x), l3], [.ref k0], h) Q = Tr sc d 204 (75, [l0, l1, some (.int x), l3], [.int x, .ref k0], h) Q := t_iload_n k_204_74 rfl
theorem k_204_75 : lk 204 75 = some (.goto 7, 78, 82, 0, .null) := by decide +kernel
theorem x_204_75 : Tr sc d 204 (75, [l0, l1, l2, l3], [.int i1, .ref k0], h) Q = Tr sc d 204 (82, [l0, l1, l2, l3], [.int i1, .ref k0], h) Q := t_go k_204_75 rfl
theorem k_204_78 : lk 204 78 = some (.aload_n 0, 79, 0, 0, .null) := by decide +kernel
theorem x_204_78 : Tr sc d 204 (78, [some (.ref xk), l1, l2, l3], [.ref k0], h) Q = Tr sc d 204 (79, [some (.ref xk), l1, l2, l3], [.ref xk, .ref k0], h) Q := t_aload_n k_204_78 rfl
theorem k_204_79 : lk 204 79 = some (.getfield 298, 82, 10, 43, .int 0) := by decide +kernel
theorem x_204_79 : Tr sc d 204 (79, [l0, l1, l2, l3], [.ref k1, .ref k0], h) Q = (okp h k1 10 = true ∧ Tr sc d 204 (82, [l0, l1, l2, l3], [.int (hI h k1 43), .ref k0], h) Q) := t_gd k_204_79 rfl
theorem k_204_82 : lk 204 82 = some (.putfield 298, 85, 10, 43, .int 0) := by decide +kernel
theorem x_204_82 : Tr sc d 204 (82, [l0, l1, l2, l3], [.int i1, .ref k0], h) Q = (okp h k0 10 = true ∧ Tr sc d 204 (85, [l0, l1, l2, l3], [], (sI h k0 43 i1)) Q) := t_gd k_204_82 rfl
theorem k_204_85 : lk 204 85 = some (.aload_n 0, 86, 0, 0, .null) := by decide +kernel
theorem x_204_85 : Tr sc d 204 (85, [some (.ref xk), l1, l2, l3], [], h) Q = Tr sc d 204 (86, [some (.ref xk), l1, l2, l3], [.ref xk], h) Q := t_aload_n k_204_85 rfl
theorem k_204_86 : lk 204 86 = some (.iload_n 3, 87, 3, 0, .null) := by decide +kernel
theorem x_204_86 : Tr sc d 204 (86, [l0, l1, l2, some (.int x)], [.ref k0], h) Q = Tr sc d 204 (87, [l0, l1, l2, some (.int x)], [.int x, .ref k0], h) Q := t_iload_n k_204_86 rfl
theorem k_204_87 : lk 204 87 = some (.ifCond .ne 11, 90, 98, 0, .null) := by decide +kernel
theorem x_204_87 : Tr sc d 204 (87, [l0, l1, l2, l3], [.int i1, .ref k0], h) Q = if i1 = 0 then Tr sc d 204 (90, [l0, l1, l2, l3], [.ref k0], h) Q else Tr sc d 204 (98, [l0, l1, l2, l3], [.ref k0], h) Q := t_if k_204_87 rfl
theorem k_204_90 : lk 204 90 = some (.iload_n 2, 91, 2, 0, .null) := by decide +kernel
theorem x_204_90 : Tr sc d 204 (90, [l0, l1, some (.int x), l3], [.ref k0], h) Q = Tr sc d 204 (91, [l0, l1, some (.int x), l3], [.int x, .ref k0], h) Q := t_iload_n k_204_90 rfl
theorem k_204_91 : lk 204 91 = some (.aload_n 0, 92, 0, 0, .null) := by decide +kernel
theorem x_204_91 : Tr sc d 204 (91, [some (.ref xk), l1, l2, l3], [.int i1, .ref k0], h) Q = Tr sc d 204 (92, [some (.ref xk), l1, l2, l3], [.ref xk, .int i1, .ref k0], h) Q := t_aload_n k_204_91 rfl
theorem k_204_92 : lk 204 92 = some (.getfield 301, 95, 10, 44, .int 0) := by decide +kernel
theorem x_204_92 : Tr sc d 204 (92, [l0, l1, l2, l3], [.ref k2, .int i1, .ref k0], h) Q = (okp h k2 10 = true ∧ Tr sc d 204 (95, [l0, l1, l2, l3], [.int (hI h k2 44), .int i1, .ref k0], h) Q) := t_gd k_204_92 rfl
theorem k_204_95 : lk 204 95 = some (.if_icmp .le 7, 98, 102, 0, .null) := by decide +kernel
theorem x_204_95 : Tr sc d 204 (95, [l0, l1, l2, l3], [.int i2, .int i1, .ref k0], h) Q = if i1 ≤ i2 then Tr sc d 204 (102, [l0, l1, l2, l3], [.ref k0], h) Q else Tr sc d 204 (98, [l0, l1, l2, l3], [.ref k0], h) Q := t_if k_204_95 rfl
theorem k_204_98 : lk 204 98 = some (.iload_n 2, 99, 2, 0, .null) := by decide +kernel
theorem x_204_98 : Tr sc d 204 (98, [l0, l1, some (.int x), l3], [.ref k0], h) Q = Tr sc d 204 (99, [l0, l1, some (.int x), l3], [.int x, .ref k0], h) Q := t_iload_n k_204_98 rfl
theorem k_204_99 : lk 204 99 = some (.goto 7, 102, 106, 0, .null) := by decide +kernel
theorem x_204_99 : Tr sc d 204 (99, [l0, l1, l2, l3], [.int i1, .ref k0], h) Q = Tr sc d 204 (106, [l0, l1, l2, l3], [.int i1, .ref k0], h) Q := t_go k_204_99 rfl
theorem k_204_102 : lk 204 102 = some (.aload_n 0, 103, 0, 0, .null) := by decide +kernel
theorem x_204_102 : Tr sc d 204 (102, [some (.ref xk), l1, l2, l3], [.ref k0], h) Q = Tr sc d 204 (103, [some (.ref xk), l1, l2, l3], [.ref xk, .ref k0], h) Q := t_aload_n k_204_102 rfl
theorem k_204_103 : lk 204 103 = some (.getfield 301, 106, 10, 44, .int 0) := by decide +kernel
theorem x_204_103 : Tr sc d 204 (103, [l0, l1, l2, l3], [.ref k1, .ref k0], h) Q = (okp h k1 10 = true ∧ Tr sc d 204 (106, [l0, l1, l2, l3], [.int (hI h k1 44), .ref k0], h) Q) := t_gd k_204_103 rfl
theorem k_204_106 : lk 204 106 = some (.putfield 301, 109, 10, 44, .int 0) := by decide +kernel
theorem x_204_106 : Tr sc d 204 (106, [l0, l1, l2, l3], [.int i1, .ref k0], h) Q = (okp h k0 10 = true ∧ Tr sc d 204 (109, [l0, l1, l2, l3], [], (sI h k0 44 i1)) Q) := t_gd k_204_106 rfl
theorem k_204_109 : lk 204 109 = some (.return_, 110, 0, 0, .null) := by decide +kernel
theorem x_204_109 : Tr sc d 204 (109, [l0, l1, l2, l3], [], h) Q = Q (none, h) := t_ret k_204_109 (by rw [r_204]; rfl)
theorem e_204 : Tr sc d 204 (ent0 204 [.ref k0, .int i1, .int i2] h) Q = Tr sc d 204 (0, [some (.ref k0), some (.int i1), some (.int i2), none], [], h) Q := by
  have e : mL 204 = 4 := by decide +kernel
  unfold ent0
  rw [e]
  rfl
end XX
