section XX
variable {sc : Nat × (Nat → Int32)} {d : Nat} {Q : PRes → Prop} {h : PH} {l0 l1 l2 l3 l4 l5 l6 l7 l8 l9 l10 l11 l12 l13 l14 l15 l16 l17 l18 l19 l20 l21 l22 l23 l24 l25 l26 l27 : Option Value} {x i0 i1 i2 i3 i4 i5 i6 i7 i8 i9 i10 i11 : Int32} {xl j0 j1 j2 j3 j4 j5 j6 j7 j8 j9 j10 j11 : Int64} {xk k0 k1 k2 k3 k4 k5 k6 k7 k8 k9 k10 k11 : Nat}
theorem r_156 : mR 156 = none := by decide +kernel
theorem k_156_0 : lk 156 0 = some (.aload_n 0, 1, 0, 0, .null) := by decide +kernel
theorem x_156_0 : Tr sc d 156 (0, [some (.ref xk), l1], [], h) Q = Tr sc d 156 (1, [some (.ref xk), l1], [.ref xk], h) Q := t_aload_n k_156_0 rfl
theorem k_156_1 : lk 156 1 = some (.invokespecial 1, 4, 9000, 0, .null) := by decide +kernel
theorem x_156_1 : Tr sc d 156 (1, [l0, l1], [.ref k0], h) Q = Tr sc d 156 (4, [l0, l1], [], h) Q := t_go k_156_1 rfl
theorem k_156_4 : lk 156 4 = some (.aload_n 0, 5, 0, 0, .null) := by decide +kernel
theorem x_156_4 : Tr sc d 156 (4, [some (.ref xk), l1], [], h) Q = Tr sc d 156 (5, [some (.ref xk), l1], [.ref xk], h) Q := t_aload_n k_156_4 rfl
theorem k_156_5 : lk 156 5 = some (.bipush 6, 7, 0, 0, .int 6) := by decide +kernel
theorem x_156_5 : Tr sc d 156 (5, [l0, l1], [.ref k0], h) Q = Tr sc d 156 (7, [l0, l1], [.int 6, .ref k0], h) Q := t_go k_156_5 rfl
theorem k_156_7 : lk 156 7 = some (.newarray .int, 9, 11, 0, .null) := by decide +kernel
theorem x_156_7 : Tr sc d 156 (7, [l0, l1], [.int i1, .ref k0], h) Q = ((hN h < 1000 ∧ TG (hN h) = 11 ∧ (¬ i1 < 0) ∧ LN (hN h) = i1.toNatClampNeg ∧ LN (hN h) ≤ 60000) ∧ Tr sc d 156 (9, [l0, l1], [.ref (hN h), .ref k0], nH h) Q) := t_gd k_156_7 rfl
theorem k_156_9 : lk 156 9 = some (.putfield 7, 12, 10, 1, .null) := by decide +kernel
theorem x_156_9 : Tr sc d 156 (9, [l0, l1], [.ref k1, .ref k0], h) Q = (okp h k0 10 = true ∧ Tr sc d 156 (12, [l0, l1], [], (sR h k0 1 (some k1))) Q) := t_gd k_156_9 rfl
theorem k_156_12 : lk 156 12 = some (.aload_n 0, 13, 0, 0, .null) := by decide +kernel
theorem x_156_12 : Tr sc d 156 (12, [some (.ref xk), l1], [], h) Q = Tr sc d 156 (13, [some (.ref xk), l1], [.ref xk], h) Q := t_aload_n k_156_12 rfl
theorem k_156_13 : lk 156 13 = some (.lconst 1, 14, 0, 0, .long 1) := by decide +kernel
theorem x_156_13 : Tr sc d 156 (13, [l0, l1], [.ref k0], h) Q = Tr sc d 156 (14, [l0, l1], [.long 1, .ref k0], h) Q := t_go k_156_13 rfl
theorem k_156_14 : lk 156 14 = some (.putfield 13, 17, 10, 5, .long 0) := by decide +kernel
theorem x_156_14 : Tr sc d 156 (14, [l0, l1], [.long j1, .ref k0], h) Q = (okp h k0 10 = true ∧ Tr sc d 156 (17, [l0, l1], [], (sL h k0 5 j1)) Q) := t_gd k_156_14 rfl
theorem k_156_17 : lk 156 17 = some (.aload_n 0, 18, 0, 0, .null) := by decide +kernel
theorem x_156_17 : Tr sc d 156 (17, [some (.ref xk), l1], [], h) Q = Tr sc d 156 (18, [some (.ref xk), l1], [.ref xk], h) Q := t_aload_n k_156_17 rfl
theorem k_156_18 : lk 156 18 = some (.bipush 6, 20, 0, 0, .int 6) := by decide +kernel
theorem x_156_18 : Tr sc d 156 (18, [l0, l1], [.ref k0], h) Q = Tr sc d 156 (20, [l0, l1], [.int 6, .ref k0], h) Q := t_go k_156_18 rfl
theorem k_156_20 : lk 156 20 = some (.newarray .int, 22, 11, 0, .null) := by decide +kernel
theorem x_156_20 : Tr sc d 156 (20, [l0, l1], [.int i1, .ref k0], h) Q = ((hN h < 1000 ∧ TG (hN h) = 11 ∧ (¬ i1 < 0) ∧ LN (hN h) = i1.toNatClampNeg ∧ LN (hN h) ≤ 60000) ∧ Tr sc d 156 (22, [l0, l1], [.ref (hN h), .ref k0], nH h) Q) := t_gd k_156_20 rfl
theorem k_156_22 : lk 156 22 = some (.putfield 17, 25, 10, 6, .null) := by decide +kernel
theorem x_156_22 : Tr sc d 156 (22, [l0, l1], [.ref k1, .ref k0], h) Q = (okp h k0 10 = true ∧ Tr sc d 156 (25, [l0, l1], [], (sR h k0 6 (some k1))) Q) := t_gd k_156_22 rfl
theorem k_156_25 : lk 156 25 = some (.aload_n 0, 26, 0, 0, .null) := by decide +kernel
theorem x_156_25 : Tr sc d 156 (25, [some (.ref xk), l1], [], h) Q = Tr sc d 156 (26, [some (.ref xk), l1], [.ref xk], h) Q := t_aload_n k_156_25 rfl
theorem k_156_26 : lk 156 26 = some (.sipush 240, 29, 0, 0, .int 240) := by decide +kernel
theorem x_156_26 : Tr sc d 156 (26, [l0, l1], [.ref k0], h) Q = Tr sc d 156 (29, [l0, l1], [.int 240, .ref k0], h) Q := t_go k_156_26 rfl
theorem k_156_29 : lk 156 29 = some (.newarray .int, 31, 11, 0, .null) := by decide +kernel
theorem x_156_29 : Tr sc d 156 (29, [l0, l1], [.int i1, .ref k0], h) Q = ((hN h < 1000 ∧ TG (hN h) = 11 ∧ (¬ i1 < 0) ∧ LN (hN h) = i1.toNatClampNeg ∧ LN (hN h) ≤ 60000) ∧ Tr sc d 156 (31, [l0, l1], [.ref (hN h), .ref k0], nH h) Q) := t_gd k_156_29 rfl
theorem k_156_31 : lk 156 31 = some (.putfield 20, 34, 10, 7, .null) := by decide +kernel
theorem x_156_31 : Tr sc d 156 (31, [l0, l1], [.ref k1, .ref k0], h) Q = (okp h k0 10 = true ∧ Tr sc d 156 (34, [l0, l1], [], (sR h k0 7 (some k1))) Q) := t_gd k_156_31 rfl
theorem k_156_34 : lk 156 34 = some (.aload_n 0, 35, 0, 0, .null) := by decide +kernel
theorem x_156_34 : Tr sc d 156 (34, [some (.ref xk), l1], [], h) Q = Tr sc d 156 (35, [some (.ref xk), l1], [.ref xk], h) Q := t_aload_n k_156_34 rfl
theorem k_156_35 : lk 156 35 = some (.bipush 40, 37, 0, 0, .int 40) := by decide +kernel
theorem x_156_35 : Tr sc d 156 (35, [l0, l1], [.ref k0], h) Q = Tr sc d 156 (37, [l0, l1], [.int 40, .ref k0], h) Q := t_go k_156_35 rfl
theorem k_156_37 : lk 156 37 = some (.newarray .int, 39, 11, 0, .null) := by decide +kernel
theorem x_156_37 : Tr sc d 156 (37, [l0, l1], [.int i1, .ref k0], h) Q = ((hN h < 1000 ∧ TG (hN h) = 11 ∧ (¬ i1 < 0) ∧ LN (hN h) = i1.toNatClampNeg ∧ LN (hN h) ≤ 60000) ∧ Tr sc d 156 (39, [l0, l1], [.ref (hN h), .ref k0], nH h) Q) := t_gd k_156_37 rfl
theorem k_156_39 : lk 156 39 = some (.putfield 23, 42, 10, 8, .null) := by decide +kernel
theorem x_156_39 : Tr sc d 156 (39, [l0, l1], [.ref k1, .ref k0], h) Q = (okp h k0 10 = true ∧ Tr sc d 156 (42, [l0, l1], [], (sR h k0 8 (some k1))) Q) := t_gd k_156_39 rfl
theorem k_156_42 : lk 156 42 = some (.aload_n 0, 43, 0, 0, .null) := by decide +kernel
theorem x_156_42 : Tr sc d 156 (42, [some (.ref xk), l1], [], h) Q = Tr sc d 156 (43, [some (.ref xk), l1], [.ref xk], h) Q := t_aload_n k_156_42 rfl
theorem k_156_43 : lk 156 43 = some (.iconst 4, 44, 0, 0, .int 4) := by decide +kernel
theorem x_156_43 : Tr sc d 156 (43, [l0, l1], [.ref k0], h) Q = Tr sc d 156 (44, [l0, l1], [.int 4, .ref k0], h) Q := t_go k_156_43 rfl
theorem k_156_44 : lk 156 44 = some (.newarray .int, 46, 11, 0, .null) := by decide +kernel
theorem x_156_44 : Tr sc d 156 (44, [l0, l1], [.int i1, .ref k0], h) Q = ((hN h < 1000 ∧ TG (hN h) = 11 ∧ (¬ i1 < 0) ∧ LN (hN h) = i1.toNatClampNeg ∧ LN (hN h) ≤ 60000) ∧ Tr sc d 156 (46, [l0, l1], [.ref (hN h), .ref k0], nH h) Q) := t_gd k_156_44 rfl
theorem k_156_46 : lk 156 46 = some (.putfield 26, 49, 10, 9, .null) := by decide +kernel
theorem x_156_46 : Tr sc d 156 (46, [l0, l1], [.ref k1, .ref k0], h) Q = (okp h k0 10 = true ∧ Tr sc d 156 (49, [l0, l1], [], (sR h k0 9 (some k1))) Q) := t_gd k_156_46 rfl
theorem k_156_49 : lk 156 49 = some (.aload_n 0, 50, 0, 0, .null) := by decide +kernel
theorem x_156_49 : Tr sc d 156 (49, [some (.ref xk), l1], [], h) Q = Tr sc d 156 (50, [some (.ref xk), l1], [.ref xk], h) Q := t_aload_n k_156_49 rfl
theorem k_156_50 : lk 156 50 = some (.sipush 240, 53, 0, 0, .int 240) := by decide +kernel
theorem x_156_50 : Tr sc d 156 (50, [l0, l1], [.ref k0], h) Q = Tr sc d 156 (53, [l0, l1], [.int 240, .ref k0], h) Q := t_go k_156_50 rfl
theorem k_156_53 : lk 156 53 = some (.newarray .int, 55, 11, 0, .null) := by decide +kernel
theorem x_156_53 : Tr sc d 156 (53, [l0, l1], [.int i1, .ref k0], h) Q = ((hN h < 1000 ∧ TG (hN h) = 11 ∧ (¬ i1 < 0) ∧ LN (hN h) = i1.toNatClampNeg ∧ LN (hN h) ≤ 60000) ∧ Tr sc d 156 (55, [l0, l1], [.ref (hN h), .ref k0], nH h) Q) := t_gd k_156_53 rfl
theorem k_156_55 : lk 156 55 = some (.putfield 29, 58, 10, 10, .null) := by decide +kernel
theorem x_156_55 : Tr sc d 156 (55, [l0, l1], [.ref k1, .ref k0], h) Q = (okp h k0 10 = true ∧ Tr sc d 156 (58, [l0, l1], [], (sR h k0 10 (some k1))) Q) := t_gd k_156_55 rfl
theorem k_156_58 : lk 156 58 = some (.aload_n 0, 59, 0, 0, .null) := by decide +kernel
theorem x_156_58 : Tr sc d 156 (58, [some (.ref xk), l1], [], h) Q = Tr sc d 156 (59, [some (.ref xk), l1], [.ref xk], h) Q := t_aload_n k_156_58 rfl
theorem k_156_59 : lk 156 59 = some (.bipush 18, 61, 0, 0, .int 18) := by decide +kernel
theorem x_156_59 : Tr sc d 156 (59, [l0, l1], [.ref k0], h) Q = Tr sc d 156 (61, [l0, l1], [.int 18, .ref k0], h) Q := t_go k_156_59 rfl
theorem k_156_61 : lk 156 61 = some (.newarray .int, 63, 11, 0, .null) := by decide +kernel
theorem x_156_61 : Tr sc d 156 (61, [l0, l1], [.int i1, .ref k0], h) Q = ((hN h < 1000 ∧ TG (hN h) = 11 ∧ (¬ i1 < 0) ∧ LN (hN h) = i1.toNatClampNeg ∧ LN (hN h) ≤ 60000) ∧ Tr sc d 156 (63, [l0, l1], [.ref (hN h), .ref k0], nH h) Q) := t_gd k_156_61 rfl
theorem k_156_63 : lk 156 63 = some (.putfield 32, 66, 10, 13, .null) := by decide +kernel
theorem x_156_63 : Tr sc d 156 (63, [l0, l1], [.ref k1, .ref k0], h) Q = (okp h k0 10 = true ∧ Tr sc d 156 (66, [l0, l1], [], (sR h k0 13 (some k1))) Q) := t_gd k_156_63 rfl
theorem k_156_66 : lk 156 66 = some (.aload_n 0, 67, 0, 0, .null) := by decide +kernel
theorem x_156_66 : Tr sc d 156 (66, [some (.ref xk), l1], [], h) Q = Tr sc d 156 (67, [some (.ref xk), l1], [.ref xk], h) Q := t_aload_n k_156_66 rfl
theorem k_156_67 : lk 156 67 = some (.bipush 8, 69, 0, 0, .int 8) := by decide +kernel
theorem x_156_67 : Tr sc d 156 (67, [l0, l1], [.ref k0], h) Q = Tr sc d 156 (69, [l0, l1], [.int 8, .ref k0], h) Q := t_go k_156_67 rfl
theorem k_156_69 : lk 156 69 = some (.newarray .int, 71, 11, 0, .null) := by decide +kernel
theorem x_156_69 : Tr sc d 156 (69, [l0, l1], [.int i1, .ref k0], h) Q = ((hN h < 1000 ∧ TG (hN h) = 11 ∧ (¬ i1 < 0) ∧ LN (hN h) = i1.toNatClampNeg ∧ LN (hN h) ≤ 60000) ∧ Tr sc d 156 (71, [l0, l1], [.ref (hN h), .ref k0], nH h) Q) := t_gd k_156_69 rfl
theorem k_156_71 : lk 156 71 = some (.putfield 35, 74, 10, 16, .null) := by decide +kernel
theorem x_156_71 : Tr sc d 156 (71, [l0, l1], [.ref k1, .ref k0], h) Q = (okp h k0 10 = true ∧ Tr sc d 156 (74, [l0, l1], [], (sR h k0 16 (some k1))) Q) := t_gd k_156_71 rfl
theorem k_156_74 : lk 156 74 = some (.aload_n 0, 75, 0, 0, .null) := by decide +kernel
theorem x_156_74 : Tr sc d 156 (74, [some (.ref xk), l1], [], h) Q = Tr sc d 156 (75, [some (.ref xk), l1], [.ref xk], h) Q := t_aload_n k_156_74 rfl
theorem k_156_75 : lk 156 75 = some (.bipush 8, 77, 0, 0, .int 8) := by decide +kernel
theorem x_156_75 : Tr sc d 156 (75, [l0, l1], [.ref k0], h) Q = Tr sc d 156 (77, [l0, l1], [.int 8, .ref k0], h) Q := t_go k_156_75 rfl
theorem k_156_77 : lk 156 77 = some (.newarray .int, 79, 11, 0, .null) := by decide +kernel
theorem x_156_77 : Tr sc d 156 (77, [l0, l1], [.int i1, .ref k0], h) Q = ((hN h < 1000 ∧ TG (hN h) = 11 ∧ (¬ i1 < 0) ∧ LN (hN h) = i1.toNatClampNeg ∧ LN (hN h) ≤ 60000) ∧ Tr sc d 156 (79, [l0, l1], [.ref (hN h), .ref k0], nH h) Q) := t_gd k_156_77 rfl
theorem k_156_79 : lk 156 79 = some (.putfield 38, 82, 10, 17, .null) := by decide +kernel
theorem x_156_79 : Tr sc d 156 (79, [l0, l1], [.ref k1, .ref k0], h) Q = (okp h k0 10 = true ∧ Tr sc d 156 (82, [l0, l1], [], (sR h k0 17 (some k1))) Q) := t_gd k_156_79 rfl
theorem k_156_82 : lk 156 82 = some (.aload_n 0, 83, 0, 0, .null) := by decide +kernel
theorem x_156_82 : Tr sc d 156 (82, [some (.ref xk), l1], [], h) Q = Tr sc d 156 (83, [some (.ref xk), l1], [.ref xk], h) Q := t_aload_n k_156_82 rfl
theorem k_156_83 : lk 156 83 = some (.bipush 8, 85, 0, 0, .int 8) := by decide +kernel
theorem x_156_83 : Tr sc d 156 (83, [l0, l1], [.ref k0], h) Q = Tr sc d 156 (85, [l0, l1], [.int 8, .ref k0], h) Q := t_go k_156_83 rfl
theorem k_156_85 : lk 156 85 = some (.newarray .int, 87, 11, 0, .null) := by decide +kernel
theorem x_156_85 : Tr sc d 156 (85, [l0, l1], [.int i1, .ref k0], h) Q = ((hN h < 1000 ∧ TG (hN h) = 11 ∧ (¬ i1 < 0) ∧ LN (hN h) = i1.toNatClampNeg ∧ LN (hN h) ≤ 60000) ∧ Tr sc d 156 (87, [l0, l1], [.ref (hN h), .ref k0], nH h) Q) := t_gd k_156_85 rfl
theorem k_156_87 : lk 156 87 = some (.putfield 41, 90, 10, 18, .null) := by decide +kernel
theorem x_156_87 : Tr sc d 156 (87, [l0, l1], [.ref k1, .ref k0], h) Q = (okp h k0 10 = true ∧ Tr sc d 156 (90, [l0, l1], [], (sR h k0 18 (some k1))) Q) := t_gd k_156_87 rfl
theorem k_156_90 : lk 156 90 = some (.aload_n 0, 91, 0, 0, .null) := by decide +kernel
theorem x_156_90 : Tr sc d 156 (90, [some (.ref xk), l1], [], h) Q = Tr sc d 156 (91, [some (.ref xk), l1], [.ref xk], h) Q := t_aload_n k_156_90 rfl
theorem k_156_91 : lk 156 91 = some (.bipush 48, 93, 0, 0, .int 48) := by decide +kernel
theorem x_156_91 : Tr sc d 156 (91, [l0, l1], [.ref k0], h) Q = Tr sc d 156 (93, [l0, l1], [.int 48, .ref k0], h) Q := t_go k_156_91 rfl
theorem k_156_93 : lk 156 93 = some (.newarray .int, 95, 11, 0, .null) := by decide +kernel
theorem x_156_93 : Tr sc d 156 (93, [l0, l1], [.int i1, .ref k0], h) Q = ((hN h < 1000 ∧ TG (hN h) = 11 ∧ (¬ i1 < 0) ∧ LN (hN h) = i1.toNatClampNeg ∧ LN (hN h) ≤ 60000) ∧ Tr sc d 156 (95, [l0, l1], [.ref (hN h), .ref k0], nH h) Q) := t_gd k_156_93 rfl
theorem k_156_95 : lk 156 95 = some (.putfield 44, 98, 10, 19, .null) := by decide +kernel
theorem x_156_95 : Tr sc d 156 (95, [l0, l1], [.ref k1, .ref k0], h) Q = (okp h k0 10 = true ∧ Tr sc d 156 (98, [l0, l1], [], (sR h k0 19 (some k1))) Q) := t_gd k_156_95 rfl
theorem k_156_98 : lk 156 98 = some (.aload_n 0, 99, 0, 0, .null) := by decide +kernel
theorem x_156_98 : Tr sc d 156 (98, [some (.ref xk), l1], [], h) Q = Tr sc d 156 (99, [some (.ref xk), l1], [.ref xk], h) Q := t_aload_n k_156_98 rfl
theorem k_156_99 : lk 156 99 = some (.bipush 48, 101, 0, 0, .int 48) := by decide +kernel
theorem x_156_99 : Tr sc d 156 (99, [l0, l1], [.ref k0], h) Q = Tr sc d 156 (101, [l0, l1], [.int 48, .ref k0], h) Q := t_go k_156_99 rfl
theorem k_156_101 : lk 156 101 = some (.newarray .int, 103, 11, 0, .null) := by decide +kernel
theorem x_156_101 : Tr sc d 156 (101, [l0, l1], [.int i1, .ref k0], h) Q = ((hN h < 1000 ∧ TG (hN h) = 11 ∧ (¬ i1 < 0) ∧ LN (hN h) = i1.toNatClampNeg ∧ LN (hN h) ≤ 60000) ∧ Tr sc d 156 (103, [l0, l1], [.ref (hN h), .ref k0], nH h) Q) := t_gd k_156_101 rfl
theorem k_156_103 : lk 156 103 = some (.putfield 47, 106, 10, 20, .null) := by decide +kernel
theorem x_156_103 : Tr sc d 156 (103, [l0, l1], [.ref k1, .ref k0], h) Q = (okp h k0 10 = true ∧ Tr sc d 156 (106, [l0, l1], [], (sR h k0 20 (some k1))) Q) := t_gd k_156_103 rfl
theorem k_156_106 : lk 156 106 = some (.aload_n 0, 107, 0, 0, .null) := by decide +kernel
theorem x_156_106 : Tr sc d 156 (106, [some (.ref xk), l1], [], h) Q = Tr sc d 156 (107, [some (.ref xk), l1], [.ref xk], h) Q := t_aload_n k_156_106 rfl
theorem k_156_107 : lk 156 107 = some (.bipush 48, 109, 0, 0, .int 48) := by decide +kernel
theorem x_156_107 : Tr sc d 156 (107, [l0, l1], [.ref k0], h) Q = Tr sc d 156 (109, [l0, l1], [.int 48, .ref k0], h) Q := t_go k_156_107 rfl
theorem k_156_109 : lk 156 109 = some (.newarray .int, 111, 11, 0, .null) := by decide +kernel
theorem x_156_109 : Tr sc d 156 (109, [l0, l1], [.int i1, .ref k0], h) Q = ((hN h < 1000 ∧ TG (hN h) = 11 ∧ (¬ i1 < 0) ∧ LN (hN h) = i1.toNatClampNeg ∧ LN (hN h) ≤ 60000) ∧ Tr sc d 156 (111, [l0, l1], [.ref (hN h), .ref k0], nH h) Q) := t_gd k_156_109 rfl
theorem k_156_111 : lk 156 111 = some (.putfield 50, 114, 10, 21, .null) := by decide +kernel
theorem x_156_111 : Tr sc d 156 (111, [l0, l1], [.ref k1, .ref k0], h) Q = (okp h k0 10 = true ∧ Tr sc d 156 (114, [l0, l1], [], (sR h k0 21 (some k1))) Q) := t_gd k_156_111 rfl
theorem k_156_114 : lk 156 114 = some (.aload_n 0, 115, 0, 0, .null) := by decide +kernel
theorem x_156_114 : Tr sc d 156 (114, [some (.ref xk), l1], [], h) Q = Tr sc d 156 (115, [some (.ref xk), l1], [.ref xk], h) Q := t_aload_n k_156_114 rfl
theorem k_156_115 : lk 156 115 = some (.bipush 48, 117, 0, 0, .int 48) := by decide +kernel
theorem x_156_115 : Tr sc d 156 (115, [l0, l1], [.ref k0], h) Q = Tr sc d 156 (117, [l0, l1], [.int 48, .ref k0], h) Q := t_go k_156_115 rfl
theorem k_156_117 : lk 156 117 = some (.newarray .int, 119, 11, 0, .null) := by decide +kernel
theorem x_156_117 : Tr sc d 156 (117, [l0, l1], [.int i1, .ref k0], h) Q = ((hN h < 1000 ∧ TG (hN h) = 11 ∧ (¬ i1 < 0) ∧ LN (hN h) = i1.toNatClampNeg ∧ LN (hN h) ≤ 60000) ∧ Tr sc d 156 (119, [l0, l1], [.ref (hN h), .ref k0], nH h) Q) := t_gd k_156_117 rfl
theorem k_156_119 : lk 156 119 = some (.putfield 53, 122, 10, 22, .null) := by decide +kernel
theorem x_156_119 : Tr sc d 156 (119, [l0, l1], [.ref k1, .ref k0], h) Q = (okp h k0 10 = true ∧ Tr sc d 156 (122, [l0, l1], [], (sR h k0 22 (some k1))) Q) := t_gd k_156_119 rfl
theorem k_156_122 : lk 156 122 = some (.aload_n 0, 123, 0, 0, .null) := by decide +kernel
theorem x_156_122 : Tr sc d 156 (122, [some (.ref xk), l1], [], h) Q = Tr sc d 156 (123, [some (.ref xk), l1], [.ref xk], h) Q := t_aload_n k_156_122 rfl
theorem k_156_123 : lk 156 123 = some (.bipush 6, 125, 0, 0, .int 6) := by decide +kernel
theorem x_156_123 : Tr sc d 156 (123, [l0, l1], [.ref k0], h) Q = Tr sc d 156 (125, [l0, l1], [.int 6, .ref k0], h) Q := t_go k_156_123 rfl
theorem k_156_125 : lk 156 125 = some (.newarray .long, 127, 12, 0, .null) := by decide +kernel
theorem x_156_125 : Tr sc d 156 (125, [l0, l1], [.int i1, .ref k0], h) Q = ((hN h < 1000 ∧ TG (hN h) = 12 ∧ (¬ i1 < 0) ∧ LN (hN h) = i1.toNatClampNeg ∧ LN (hN h) ≤ 60000) ∧ Tr sc d 156 (127, [l0, l1], [.ref (hN h), .ref k0], nH h) Q) := t_gd k_156_125 rfl
theorem k_156_127 : lk 156 127 = some (.putfield 56, 130, 10, 29, .null) := by decide +kernel
theorem x_156_127 : Tr sc d 156 (127, [l0, l1], [.ref k1, .ref k0], h) Q = (okp h k0 10 = true ∧ Tr sc d 156 (130, [l0, l1], [], (sR h k0 29 (some k1))) Q) := t_gd k_156_127 rfl
theorem k_156_130 : lk 156 130 = some (.aload_n 0, 131, 0, 0, .null) := by decide +kernel
theorem x_156_130 : Tr sc d 156 (130, [some (.ref xk), l1], [], h) Q = Tr sc d 156 (131, [some (.ref xk), l1], [.ref xk], h) Q := t_aload_n k_156_130 rfl
theorem k_156_131 : lk 156 131 = some (.bipush 6, 133, 0, 0, .int 6) := by decide +kernel
theorem x_156_131 : Tr sc d 156 (131, [l0, l1], [.ref k0], h) Q = Tr sc d 156 (133, [l0, l1], [.int 6, .ref k0], h) Q := t_go k_156_131 rfl
theorem k_156_133 : lk 156 133 = some (.newarray .long, 135, 12, 0, .null) := by decide +kernel
theorem x_156_133 : Tr sc d 156 (133, [l0, l1], [.int i1, .ref k0], h) Q = ((hN h < 1000 ∧ TG (hN h) = 12 ∧ (¬ i1 < 0) ∧ LN (hN h) = i1.toNatClampNeg ∧ LN (hN h) ≤ 60000) ∧ Tr sc d 156 (135, [l0, l1], [.ref (hN h), .ref k0], nH h) Q) := t_gd k_156_133 rfl
theorem k_156_135 : lk 156 135 = some (.putfield 60, 138, 10, 30, .null) := by decide +kernel
theorem x_156_135 : Tr sc d 156 (135, [l0, l1], [.ref k1, .ref k0], h) Q = (okp h k0 10 = true ∧ Tr sc d 156 (138, [l0, l1], [], (sR h k0 30 (some k1))) Q) := t_gd k_156_135 rfl
theorem k_156_138 : lk 156 138 = some (.aload_n 0, 139, 0, 0, .null) := by decide +kernel
theorem x_156_138 : Tr sc d 156 (138, [some (.ref xk), l1], [], h) Q = Tr sc d 156 (139, [some (.ref xk), l1], [.ref xk], h) Q := t_aload_n k_156_138 rfl
theorem k_156_139 : lk 156 139 = some (.sipush 7776, 142, 0, 0, .int 7776) := by decide +kernel
theorem x_156_139 : Tr sc d 156 (139, [l0, l1], [.ref k0], h) Q = Tr sc d 156 (142, [l0, l1], [.int 7776, .ref k0], h) Q := t_go k_156_139 rfl
theorem k_156_142 : lk 156 142 = some (.newarray .int, 144, 11, 0, .null) := by decide +kernel
theorem x_156_142 : Tr sc d 156 (142, [l0, l1], [.int i1, .ref k0], h) Q = ((hN h < 1000 ∧ TG (hN h) = 11 ∧ (¬ i1 < 0) ∧ LN (hN h) = i1.toNatClampNeg ∧ LN (hN h) ≤ 60000) ∧ Tr sc d 156 (144, [l0, l1], [.ref (hN h), .ref k0], nH h) Q) := t_gd k_156_142 rfl
theorem k_156_144 : lk 156 144 = some (.putfield 63, 147, 10, 32, .null) := by decide +kernel
theorem x_156_144 : Tr sc d 156 (144, [l0, l1], [.ref k1, .ref k0], h) Q = (okp h k0 10 = true ∧ Tr sc d 156 (147, [l0, l1], [], (sR h k0 32 (some k1))) Q) := t_gd k_156_144 rfl
theorem k_156_147 : lk 156 147 = some (.aload_n 0, 148, 0, 0, .null) := by decide +kernel
theorem x_156_147 : Tr sc d 156 (147, [some (.ref xk), l1], [], h) Q = Tr sc d 156 (148, [some (.ref xk), l1], [.ref xk], h) Q := t_aload_n k_156_147 rfl
theorem k_156_148 : lk 156 148 = some (.sipush 7776, 151, 0, 0, .int 7776) := by decide +kernel
theorem x_156_148 : Tr sc d 156 (148, [l0, l1], [.ref k0], h) Q = Tr sc d 156 (151, [l0, l1], [.int 7776, .ref k0], h) Q := t_go k_156_148 rfl
theorem k_156_151 : lk 156 151 = some (.newarray .int, 153, 11, 0, .null) := by decide +kernel
theorem x_156_151 : Tr sc d 156 (151, [l0, l1], [.int i1, .ref k0], h) Q = ((hN h < 1000 ∧ TG (hN h) = 11 ∧ (¬ i1 < 0) ∧ LN (hN h) = i1.toNatClampNeg ∧ LN (hN h) ≤ 60000) ∧ Tr sc d 156 (153, [l0, l1], [.ref (hN h), .ref k0], nH h) Q) := t_gd k_156_151 rfl
theorem k_156_153 : lk 156 153 = some (.putfield 66, 156, 10, 33, .null) := by decide +kernel
theorem x_156_153 : Tr sc d 156 (153, [l0, l1], [.ref k1, .ref k0], h) Q = (okp h k0 10 = true ∧ Tr sc d 156 (156, [l0, l1], [], (sR h k0 33 (some k1))) Q) := t_gd k_156_153 rfl
theorem k_156_156 : lk 156 156 = some (.aload_n 0, 157, 0, 0, .null) := by decide +kernel
theorem x_156_156 : Tr sc d 156 (156, [some (.ref xk), l1], [], h) Q = Tr sc d 156 (157, [some (.ref xk), l1], [.ref xk], h) Q := t_aload_n k_156_156 rfl
theorem k_156_157 : lk 156 157 = some (.sipush 7776, 160, 0, 0, .int 7776) := by decide +kernel
theorem x_156_157 : Tr sc d 156 (157, [l0, l1], [.ref k0], h) Q = Tr sc d 156 (160, [l0, l1], [.int 7776, .ref k0], h) Q := t_go k_156_157 rfl
theorem k_156_160 : lk 156 160 = some (.newarray .int, 162, 11, 0, .null) := by decide +kernel
theorem x_156_160 : Tr sc d 156 (160, [l0, l1], [.int i1, .ref k0], h) Q = ((hN h < 1000 ∧ TG (hN h) = 11 ∧ (¬ i1 < 0) ∧ LN (hN h) = i1.toNatClampNeg ∧ LN (hN h) ≤ 60000) ∧ Tr sc d 156 (162, [l0, l1], [.ref (hN h), .ref k0], nH h) Q) := t_gd k_156_160 rfl
theorem k_156_162 : lk 156 162 = some (.putfield 69, 165, 10, 34, .null) := by decide +kernel
theorem x_156_162 : Tr sc d 156 (162, [l0, l1], [.ref k1, .ref k0], h) Q = (okp h k0 10 = true ∧ Tr sc d 156 (165, [l0, l1], [], (sR h k0 34 (some k1))) Q) := t_gd k_156_162 rfl
theorem k_156_165 : lk 156 165 = some (.aload_n 0, 166, 0, 0, .null) := by decide +kernel
theorem x_156_165 : Tr sc d 156 (165, [some (.ref xk), l1], [], h) Q = Tr sc d 156 (166, [some (.ref xk), l1], [.ref xk], h) Q := t_aload_n k_156_165 rfl
theorem k_156_166 : lk 156 166 = some (.sipush 7776, 169, 0, 0, .int 7776) := by decide +kernel
theorem x_156_166 : Tr sc d 156 (166, [l0, l1], [.ref k0], h) Q = Tr sc d 156 (169, [l0, l1], [.int 7776, .ref k0], h) Q := t_go k_156_166 rfl
theorem k_156_169 : lk 156 169 = some (.newarray .long, 171, 12, 0, .null) := by decide +kernel
theorem x_156_169 : Tr sc d 156 (169, [l0, l1], [.int i1, .ref k0], h) Q = ((hN h < 1000 ∧ TG (hN h) = 12 ∧ (¬ i1 < 0) ∧ LN (hN h) = i1.toNatClampNeg ∧ LN (hN h) ≤ 60000) ∧ Tr sc d 156 (171, [l0, l1], [.ref (hN h), .ref k0], nH h) Q) := t_gd k_156_169 rfl
theorem k_156_171 : lk 156 171 = some (.putfield 72, 174, 10, 35, .null) := by decide +kernel
theorem x_156_171 : Tr sc d 156 (171, [l0, l1], [.ref k1, .ref k0], h) Q = (okp h k0 10 = true ∧ Tr sc d 156 (174, [l0, l1], [], (sR h k0 35 (some k1))) Q) := t_gd k_156_171 rfl
theorem k_156_174 : lk 156 174 = some (.aload_n 0, 175, 0, 0, .null) := by decide +kernel
theorem x_156_174 : Tr sc d 156 (174, [some (.ref xk), l1], [], h) Q = Tr sc d 156 (175, [some (.ref xk), l1], [.ref xk], h) Q := t_aload_n k_156_174 rfl
theorem k_156_175 : lk 156 175 = some (.sipush 7776, 178, 0, 0, .int 7776) := by decide +kernel
theorem x_156_175 : Tr sc d 156 (175, [l0, l1], [.ref k0], h) Q = Tr sc d 156 (178, [l0, l1], [.int 7776, .ref k0], h) Q := t_go k_156_175 rfl
theorem k_156_178 : lk 156 178 = some (.newarray .long, 180, 12, 0, .null) := by decide +kernel
theorem x_156_178 : Tr sc d 156 (178, [l0, l1], [.int i1, .ref k0], h) Q = ((hN h < 1000 ∧ TG (hN h) = 12 ∧ (¬ i1 < 0) ∧ LN (hN h) = i1.toNatClampNeg ∧ LN (hN h) ≤ 60000) ∧ Tr sc d 156 (180, [l0, l1], [.ref (hN h), .ref k0], nH h) Q) := t_gd k_156_178 rfl
theorem k_156_180 : lk 156 180 = some (.putfield 75, 183, 10, 38, .null) := by decide +kernel
theorem x_156_180 : Tr sc d 156 (180, [l0, l1], [.ref k1, .ref k0], h) Q = (okp h k0 10 = true ∧ Tr sc d 156 (183, [l0, l1], [], (sR h k0 38 (some k1))) Q) := t_gd k_156_180 rfl
theorem k_156_183 : lk 156 183 = some (.aload_n 0, 184, 0, 0, .null) := by decide +kernel
theorem x_156_183 : Tr sc d 156 (183, [some (.ref xk), l1], [], h) Q = Tr sc d 156 (184, [some (.ref xk), l1], [.ref xk], h) Q := t_aload_n k_156_183 rfl
theorem k_156_184 : lk 156 184 = some (.sipush 7776, 187, 0, 0, .int 7776) := by decide +kernel
theorem x_156_184 : Tr sc d 156 (184, [l0, l1], [.ref k0], h) Q = Tr sc d 156 (187, [l0, l1], [.int 7776, .ref k0], h) Q := t_go k_156_184 rfl
theorem k_156_187 : lk 156 187 = some (.newarray .int, 189, 11, 0, .null) := by decide +kernel
theorem x_156_187 : Tr sc d 156 (187, [l0, l1], [.int i1, .ref k0], h) Q = ((hN h < 1000 ∧ TG (hN h) = 11 ∧ (¬ i1 < 0) ∧ LN (hN h) = i1.toNatClampNeg ∧ LN (hN h) ≤ 60000) ∧ Tr sc d 156 (189, [l0, l1], [.ref (hN h), .ref k0], nH h) Q) := t_gd k_156_187 rfl
theorem k_156_189 : lk 156 189 = some (.putfield 78, 192, 10, 39, .null) := by decide +kernel
theorem x_156_189 : Tr sc d 156 (189, [l0, l1], [.ref k1, .ref k0], h) Q = (okp h k0 10 = true ∧ Tr sc d 156 (192, [l0, l1], [], (sR h k0 39 (some k1))) Q) := t_gd k_156_189 rfl
theorem k_156_192 : lk 156 192 = some (.aload_n 0, 193, 0, 0, .null) := by decide +kernel
theorem x_156_192 : Tr sc d 156 (192, [some (.ref xk), l1], [], h) Q = Tr sc d 156 (193, [some (.ref xk), l1], [.ref xk], h) Q := t_aload_n k_156_192 rfl
theorem k_156_193 : lk 156 193 = some (.sipush 7776, 196, 0, 0, .int 7776) := by decide +kernel
theorem x_156_193 : Tr sc d 156 (193, [l0, l1], [.ref k0], h) Q = Tr sc d 156 (196, [l0, l1], [.int 7776, .ref k0], h) Q := t_go k_156_193 rfl
theorem k_156_196 : lk 156 196 = some (.newarray .int, 198, 11, 0, .null) := by decide +kernel
theorem x_156_196 : Tr sc d 156 (196, [l0, l1], [.int i1, .ref k0], h) Q = ((hN h < 1000 ∧ TG (hN h) = 11 ∧ (¬ i1 < 0) ∧ LN (hN h) = i1.toNatClampNeg ∧ LN (hN h) ≤ 60000) ∧ Tr sc d 156 (198, [l0, l1], [.ref (hN h), .ref k0], nH h) Q) := t_gd k_156_196 rfl
theorem k_156_198 : lk 156 198 = some (.putfield 81, 201, 10, 40, .null) := by decide +kernel
theorem x_156_198 : Tr sc d 156 (198, [l0, l1], [.ref k1, .ref k0], h) Q = (okp h k0 10 = true ∧ Tr sc d 156 (201, [l0, l1], [], (sR h k0 40 (some k1))) Q) := t_gd k_156_198 rfl
theorem k_156_201 : lk 156 201 = some (.aload_n 0, 202, 0, 0, .null) := by decide +kernel
theorem x_156_201 : Tr sc d 156 (201, [some (.ref xk), l1], [], h) Q = Tr sc d 156 (202, [some (.ref xk), l1], [.ref xk], h) Q := t_aload_n k_156_201 rfl
theorem k_156_202 : lk 156 202 = some (.sipush 1369, 205, 0, 0, .int 1369) := by decide +kernel
theorem x_156_202 : Tr sc d 156 (202, [l0, l1], [.ref k0], h) Q = Tr sc d 156 (205, [l0, l1], [.int 1369, .ref k0], h) Q := t_go k_156_202 rfl
theorem k_156_205 : lk 156 205 = some (.newarray .boolean, 207, 13, 0, .null) := by decide +kernel
theorem x_156_205 : Tr sc d 156 (205, [l0, l1], [.int i1, .ref k0], h) Q = ((hN h < 1000 ∧ TG (hN h) = 13 ∧ (¬ i1 < 0) ∧ LN (hN h) = i1.toNatClampNeg ∧ LN (hN h) ≤ 60000) ∧ Tr sc d 156 (207, [l0, l1], [.ref (hN h), .ref k0], nH h) Q) := t_gd k_156_205 rfl
theorem k_156_207 : lk 156 207 = some (.putfield 84, 210, 10, 45, .null) := by decide +kernel
theorem x_156_207 : Tr sc d 156 (207, [l0, l1], [.ref k1, .ref k0], h) Q = (okp h k0 10 = true ∧ Tr sc d 156 (210, [l0, l1], [], (sR h k0 45 (some k1))) Q) := t_gd k_156_207 rfl
theorem k_156_210 : lk 156 210 = some (.aload_n 0, 211, 0, 0, .null) := by decide +kernel
theorem x_156_210 : Tr sc d 156 (210, [some (.ref xk), l1], [], h) Q = Tr sc d 156 (211, [some (.ref xk), l1], [.ref xk], h) Q := t_aload_n k_156_210 rfl
theorem k_156_211 : lk 156 211 = some (.sipush 1369, 214, 0, 0, .int 1369) := by decide +kernel
theorem x_156_211 : Tr sc d 156 (211, [l0, l1], [.ref k0], h) Q = Tr sc d 156 (214, [l0, l1], [.int 1369, .ref k0], h) Q := t_go k_156_211 rfl
theorem k_156_214 : lk 156 214 = some (.newarray .boolean, 216, 13, 0, .null) := by decide +kernel
theorem x_156_214 : Tr sc d 156 (214, [l0, l1], [.int i1, .ref k0], h) Q = ((hN h < 1000 ∧ TG (hN h) = 13 ∧ (¬ i1 < 0) ∧ LN (hN h) = i1.toNatClampNeg ∧ LN (hN h) ≤ 60000) ∧ Tr sc d 156 (216, [l0, l1], [.ref (hN h), .ref k0], nH h) Q) := t_gd k_156_214 rfl
theorem k_156_216 : lk 156 216 = some (.putfield 88, 219, 10, 46, .null) := by decide +kernel
theorem x_156_216 : Tr sc d 156 (216, [l0, l1], [.ref k1, .ref k0], h) Q = (okp h k0 10 = true ∧ Tr sc d 156 (219, [l0, l1], [], (sR h k0 46 (some k1))) Q) := t_gd k_156_216 rfl
theorem k_156_219 : lk 156 219 = some (.aload_n 0, 220, 0, 0, .null) := by decide +kernel
theorem x_156_219 : Tr sc d 156 (219, [some (.ref xk), l1], [], h) Q = Tr sc d 156 (220, [some (.ref xk), l1], [.ref xk], h) Q := t_aload_n k_156_219 rfl
theorem k_156_220 : lk 156 220 = some (.ldc 91, 222, 0, 1179, .int 46656) := by decide +kernel
theorem x_156_220 : Tr sc d 156 (220, [l0, l1], [.ref k0], h) Q = Tr sc d 156 (222, [l0, l1], [.int 46656, .ref k0], h) Q := t_go k_156_220 rfl
theorem k_156_222 : lk 156 222 = some (.newarray .boolean, 224, 13, 0, .null) := by decide +kernel
theorem x_156_222 : Tr sc d 156 (222, [l0, l1], [.int i1, .ref k0], h) Q = ((hN h < 1000 ∧ TG (hN h) = 13 ∧ (¬ i1 < 0) ∧ LN (hN h) = i1.toNatClampNeg ∧ LN (hN h) ≤ 60000) ∧ Tr sc d 156 (224, [l0, l1], [.ref (hN h), .ref k0], nH h) Q) := t_gd k_156_222 rfl
theorem k_156_224 : lk 156 224 = some (.putfield 92, 227, 10, 47, .null) := by decide +kernel
theorem x_156_224 : Tr sc d 156 (224, [l0, l1], [.ref k1, .ref k0], h) Q = (okp h k0 10 = true ∧ Tr sc d 156 (227, [l0, l1], [], (sR h k0 47 (some k1))) Q) := t_gd k_156_224 rfl
theorem k_156_227 : lk 156 227 = some (.aload_n 0, 228, 0, 0, .null) := by decide +kernel
theorem x_156_227 : Tr sc d 156 (227, [some (.ref xk), l1], [], h) Q = Tr sc d 156 (228, [some (.ref xk), l1], [.ref xk], h) Q := t_aload_n k_156_227 rfl
theorem k_156_228 : lk 156 228 = some (.sipush 216, 231, 0, 0, .int 216) := by decide +kernel
theorem x_156_228 : Tr sc d 156 (228, [l0, l1], [.ref k0], h) Q = Tr sc d 156 (231, [l0, l1], [.int 216, .ref k0], h) Q := t_go k_156_228 rfl
theorem k_156_231 : lk 156 231 = some (.newarray .boolean, 233, 13, 0, .null) := by decide +kernel
theorem x_156_231 : Tr sc d 156 (231, [l0, l1], [.int i1, .ref k0], h) Q = ((hN h < 1000 ∧ TG (hN h) = 13 ∧ (¬ i1 < 0) ∧ LN (hN h) = i1.toNatClampNeg ∧ LN (hN h) ≤ 60000) ∧ Tr sc d 156 (233, [l0, l1], [.ref (hN h), .ref k0], nH h) Q) := t_gd k_156_231 rfl
theorem k_156_233 : lk 156 233 = some (.putfield 95, 236, 10, 48, .null) := by decide +kernel
theorem x_156_233 : Tr sc d 156 (233, [l0, l1], [.ref k1, .ref k0], h) Q = (okp h k0 10 = true ∧ Tr sc d 156 (236, [l0, l1], [], (sR h k0 48 (some k1))) Q) := t_gd k_156_233 rfl
theorem k_156_236 : lk 156 236 = some (.aload_n 0, 237, 0, 0, .null) := by decide +kernel
theorem x_156_236 : Tr sc d 156 (236, [some (.ref xk), l1], [], h) Q = Tr sc d 156 (237, [some (.ref xk), l1], [.ref xk], h) Q := t_aload_n k_156_236 rfl
theorem k_156_237 : lk 156 237 = some (.sipush 216, 240, 0, 0, .int 216) := by decide +kernel
theorem x_156_237 : Tr sc d 156 (237, [l0, l1], [.ref k0], h) Q = Tr sc d 156 (240, [l0, l1], [.int 216, .ref k0], h) Q := t_go k_156_237 rfl
theorem k_156_240 : lk 156 240 = some (.newarray .int, 242, 11, 0, .null) := by decide +kernel
theorem x_156_240 : Tr sc d 156 (240, [l0, l1], [.int i1, .ref k0], h) Q = ((hN h < 1000 ∧ TG (hN h) = 11 ∧ (¬ i1 < 0) ∧ LN (hN h) = i1.toNatClampNeg ∧ LN (hN h) ≤ 60000) ∧ Tr sc d 156 (242, [l0, l1], [.ref (hN h), .ref k0], nH h) Q) := t_gd k_156_240 rfl
theorem k_156_242 : lk 156 242 = some (.putfield 98, 245, 10, 49, .null) := by decide +kernel
theorem x_156_242 : Tr sc d 156 (242, [l0, l1], [.ref k1, .ref k0], h) Q = (okp h k0 10 = true ∧ Tr sc d 156 (245, [l0, l1], [], (sR h k0 49 (some k1))) Q) := t_gd k_156_242 rfl
theorem k_156_245 : lk 156 245 = some (.aload_n 0, 246, 0, 0, .null) := by decide +kernel
theorem x_156_245 : Tr sc d 156 (245, [some (.ref xk), l1], [], h) Q = Tr sc d 156 (246, [some (.ref xk), l1], [.ref xk], h) Q := t_aload_n k_156_245 rfl
theorem k_156_246 : lk 156 246 = some (.sipush 2001, 249, 0, 0, .int 2001) := by decide +kernel
theorem x_156_246 : Tr sc d 156 (246, [l0, l1], [.ref k0], h) Q = Tr sc d 156 (249, [l0, l1], [.int 2001, .ref k0], h) Q := t_go k_156_246 rfl
theorem k_156_249 : lk 156 249 = some (.newarray .int, 251, 11, 0, .null) := by decide +kernel
theorem x_156_249 : Tr sc d 156 (249, [l0, l1], [.int i1, .ref k0], h) Q = ((hN h < 1000 ∧ TG (hN h) = 11 ∧ (¬ i1 < 0) ∧ LN (hN h) = i1.toNatClampNeg ∧ LN (hN h) ≤ 60000) ∧ Tr sc d 156 (251, [l0, l1], [.ref (hN h), .ref k0], nH h) Q) := t_gd k_156_249 rfl
theorem k_156_251 : lk 156 251 = some (.putfield 101, 254, 10, 51, .null) := by decide +kernel
theorem x_156_251 : Tr sc d 156 (251, [l0, l1], [.ref k1, .ref k0], h) Q = (okp h k0 10 = true ∧ Tr sc d 156 (254, [l0, l1], [], (sR h k0 51 (some k1))) Q) := t_gd k_156_251 rfl
theorem k_156_254 : lk 156 254 = some (.aload_n 0, 255, 0, 0, .null) := by decide +kernel
theorem x_156_254 : Tr sc d 156 (254, [some (.ref xk), l1], [], h) Q = Tr sc d 156 (255, [some (.ref xk), l1], [.ref xk], h) Q := t_aload_n k_156_254 rfl
theorem k_156_255 : lk 156 255 = some (.sipush 2001, 258, 0, 0, .int 2001) := by decide +kernel
theorem x_156_255 : Tr sc d 156 (255, [l0, l1], [.ref k0], h) Q = Tr sc d 156 (258, [l0, l1], [.int 2001, .ref k0], h) Q := t_go k_156_255 rfl
theorem k_156_258 : lk 156 258 = some (.newarray .int, 260, 11, 0, .null) := by decide +kernel
theorem x_156_258 : Tr sc d 156 (258, [l0, l1], [.int i1, .ref k0], h) Q = ((hN h < 1000 ∧ TG (hN h) = 11 ∧ (¬ i1 < 0) ∧ LN (hN h) = i1.toNatClampNeg ∧ LN (hN h) ≤ 60000) ∧ Tr sc d 156 (260, [l0, l1], [.ref (hN h), .ref k0], nH h) Q) := t_gd k_156_258 rfl
theorem k_156_260 : lk 156 260 = some (.putfield 104, 263, 10, 52, .null) := by decide +kernel
theorem x_156_260 : Tr sc d 156 (260, [l0, l1], [.ref k1, .ref k0], h) Q = (okp h k0 10 = true ∧ Tr sc d 156 (263, [l0, l1], [], (sR h k0 52 (some k1))) Q) := t_gd k_156_260 rfl
theorem k_156_263 : lk 156 263 = some (.aload_n 0, 264, 0, 0, .null) := by decide +kernel
theorem x_156_263 : Tr sc d 156 (263, [some (.ref xk), l1], [], h) Q = Tr sc d 156 (264, [some (.ref xk), l1], [.ref xk], h) Q := t_aload_n k_156_263 rfl
theorem k_156_264 : lk 156 264 = some (.sipush 2001, 267, 0, 0, .int 2001) := by decide +kernel
theorem x_156_264 : Tr sc d 156 (264, [l0, l1], [.ref k0], h) Q = Tr sc d 156 (267, [l0, l1], [.int 2001, .ref k0], h) Q := t_go k_156_264 rfl
theorem k_156_267 : lk 156 267 = some (.newarray .boolean, 269, 13, 0, .null) := by decide +kernel
theorem x_156_267 : Tr sc d 156 (267, [l0, l1], [.int i1, .ref k0], h) Q = ((hN h < 1000 ∧ TG (hN h) = 13 ∧ (¬ i1 < 0) ∧ LN (hN h) = i1.toNatClampNeg ∧ LN (hN h) ≤ 60000) ∧ Tr sc d 156 (269, [l0, l1], [.ref (hN h), .ref k0], nH h) Q) := t_gd k_156_267 rfl
theorem k_156_269 : lk 156 269 = some (.putfield 107, 272, 10, 53, .null) := by decide +kernel
theorem x_156_269 : Tr sc d 156 (269, [l0, l1], [.ref k1, .ref k0], h) Q = (okp h k0 10 = true ∧ Tr sc d 156 (272, [l0, l1], [], (sR h k0 53 (some k1))) Q) := t_gd k_156_269 rfl
theorem k_156_272 : lk 156 272 = some (.aload_n 0, 273, 0, 0, .null) := by decide +kernel
theorem x_156_272 : Tr sc d 156 (272, [some (.ref xk), l1], [], h) Q = Tr sc d 156 (273, [some (.ref xk), l1], [.ref xk], h) Q := t_aload_n k_156_272 rfl
theorem k_156_273 : lk 156 273 = some (.sipush 12006, 276, 0, 0, .int 12006) := by decide +kernel
theorem x_156_273 : Tr sc d 156 (273, [l0, l1], [.ref k0], h) Q = Tr sc d 156 (276, [l0, l1], [.int 12006, .ref k0], h) Q := t_go k_156_273 rfl
theorem k_156_276 : lk 156 276 = some (.newarray .int, 278, 11, 0, .null) := by decide +kernel
theorem x_156_276 : Tr sc d 156 (276, [l0, l1], [.int i1, .ref k0], h) Q = ((hN h < 1000 ∧ TG (hN h) = 11 ∧ (¬ i1 < 0) ∧ LN (hN h) = i1.toNatClampNeg ∧ LN (hN h) ≤ 60000) ∧ Tr sc d 156 (278, [l0, l1], [.ref (hN h), .ref k0], nH h) Q) := t_gd k_156_276 rfl
theorem k_156_278 : lk 156 278 = some (.putfield 110, 281, 10, 54, .null) := by decide +kernel
theorem x_156_278 : Tr sc d 156 (278, [l0, l1], [.ref k1, .ref k0], h) Q = (okp h k0 10 = true ∧ Tr sc d 156 (281, [l0, l1], [], (sR h k0 54 (some k1))) Q) := t_gd k_156_278 rfl
theorem k_156_281 : lk 156 281 = some (.aload_n 0, 282, 0, 0, .null) := by decide +kernel
theorem x_156_281 : Tr sc d 156 (281, [some (.ref xk), l1], [], h) Q = Tr sc d 156 (282, [some (.ref xk), l1], [.ref xk], h) Q := t_aload_n k_156_281 rfl
theorem k_156_282 : lk 156 282 = some (.iconst 4, 283, 0, 0, .int 4) := by decide +kernel
theorem x_156_282 : Tr sc d 156 (282, [l0, l1], [.ref k0], h) Q = Tr sc d 156 (283, [l0, l1], [.int 4, .ref k0], h) Q := t_go k_156_282 rfl
theorem k_156_283 : lk 156 283 = some (.newarray .int, 285, 11, 0, .null) := by decide +kernel
theorem x_156_283 : Tr sc d 156 (283, [l0, l1], [.int i1, .ref k0], h) Q = ((hN h < 1000 ∧ TG (hN h) = 11 ∧ (¬ i1 < 0) ∧ LN (hN h) = i1.toNatClampNeg ∧ LN (hN h) ≤ 60000) ∧ Tr sc d 156 (285, [l0, l1], [.ref (hN h), .ref k0], nH h) Q) := t_gd k_156_283 rfl
theorem k_156_285 : lk 156 285 = some (.putfield 113, 288, 10, 55, .null) := by decide +kernel
theorem x_156_285 : Tr sc d 156 (285, [l0, l1], [.ref k1, .ref k0], h) Q = (okp h k0 10 = true ∧ Tr sc d 156 (288, [l0, l1], [], (sR h k0 55 (some k1))) Q) := t_gd k_156_285 rfl
theorem k_156_288 : lk 156 288 = some (.aload_n 0, 289, 0, 0, .null) := by decide +kernel
theorem x_156_288 : Tr sc d 156 (288, [some (.ref xk), l1], [], h) Q = Tr sc d 156 (289, [some (.ref xk), l1], [.ref xk], h) Q := t_aload_n k_156_288 rfl
theorem k_156_289 : lk 156 289 = some (.sipush 1369, 292, 0, 0, .int 1369) := by decide +kernel
theorem x_156_289 : Tr sc d 156 (289, [l0, l1], [.ref k0], h) Q = Tr sc d 156 (292, [l0, l1], [.int 1369, .ref k0], h) Q := t_go k_156_289 rfl
theorem k_156_292 : lk 156 292 = some (.newarray .long, 294, 12, 0, .null) := by decide +kernel
theorem x_156_292 : Tr sc d 156 (292, [l0, l1], [.int i1, .ref k0], h) Q = ((hN h < 1000 ∧ TG (hN h) = 12 ∧ (¬ i1 < 0) ∧ LN (hN h) = i1.toNatClampNeg ∧ LN (hN h) ≤ 60000) ∧ Tr sc d 156 (294, [l0, l1], [.ref (hN h), .ref k0], nH h) Q) := t_gd k_156_292 rfl
theorem k_156_294 : lk 156 294 = some (.putfield 116, 297, 10, 56, .null) := by decide +kernel
theorem x_156_294 : Tr sc d 156 (294, [l0, l1], [.ref k1, .ref k0], h) Q = (okp h k0 10 = true ∧ Tr sc d 156 (297, [l0, l1], [], (sR h k0 56 (some k1))) Q) := t_gd k_156_294 rfl
theorem k_156_297 : lk 156 297 = some (.aload_n 0, 298, 0, 0, .null) := by decide +kernel
theorem x_156_297 : Tr sc d 156 (297, [some (.ref xk), l1], [], h) Q = Tr sc d 156 (298, [some (.ref xk), l1], [.ref xk], h) Q := t_aload_n k_156_297 rfl
theorem k_156_298 : lk 156 298 = some (.sipush 1369, 301, 0, 0, .int 1369) := by decide +kernel
theorem x_156_298 : Tr sc d 156 (298, [l0, l1], [.ref k0], h) Q = Tr sc d 156 (301, [l0, l1], [.int 1369, .ref k0], h) Q := t_go k_156_298 rfl
theorem k_156_301 : lk 156 301 = some (.newarray .long, 303, 12, 0, .null) := by decide +kernel
theorem x_156_301 : Tr sc d 156 (301, [l0, l1], [.int i1, .ref k0], h) Q = ((hN h < 1000 ∧ TG (hN h) = 12 ∧ (¬ i1 < 0) ∧ LN (hN h) = i1.toNatClampNeg ∧ LN (hN h) ≤ 60000) ∧ Tr sc d 156 (303, [l0, l1], [.ref (hN h), .ref k0], nH h) Q) := t_gd k_156_301 rfl
theorem k_156_303 : lk 156 303 = some (.putfield 119, 306, 10, 57, .null) := by decide +kernel
theorem x_156_303 : Tr sc d 156 (303, [l0, l1], [.ref k1, .ref k0], h) Q = (okp h k0 10 = true ∧ Tr sc d 156 (306, [l0, l1], [], (sR h k0 57 (some k1))) Q) := t_gd k_156_303 rfl
theorem k_156_306 : lk 156 306 = some (.aload_n 0, 307, 0, 0, .null) := by decide +kernel
theorem x_156_306 : Tr sc d 156 (306, [some (.ref xk), l1], [], h) Q = Tr sc d 156 (307, [some (.ref xk), l1], [.ref xk], h) Q := t_aload_n k_156_306 rfl
theorem k_156_307 : lk 156 307 = some (.sipush 1600, 310, 0, 0, .int 1600) := by decide +kernel
theorem x_156_307 : Tr sc d 156 (307, [l0, l1], [.ref k0], h) Q = Tr sc d 156 (310, [l0, l1], [.int 1600, .ref k0], h) Q := t_go k_156_307 rfl
theorem k_156_310 : lk 156 310 = some (.newarray .int, 312, 11, 0, .null) := by decide +kernel
theorem x_156_310 : Tr sc d 156 (310, [l0, l1], [.int i1, .ref k0], h) Q = ((hN h < 1000 ∧ TG (hN h) = 11 ∧ (¬ i1 < 0) ∧ LN (hN h) = i1.toNatClampNeg ∧ LN (hN h) ≤ 60000) ∧ Tr sc d 156 (312, [l0, l1], [.ref (hN h), .ref k0], nH h) Q) := t_gd k_156_310 rfl
theorem k_156_312 : lk 156 312 = some (.putfield 122, 315, 10, 58, .null) := by decide +kernel
theorem x_156_312 : Tr sc d 156 (312, [l0, l1], [.ref k1, .ref k0], h) Q = (okp h k0 10 = true ∧ Tr sc d 156 (315, [l0, l1], [], (sR h k0 58 (some k1))) Q) := t_gd k_156_312 rfl
theorem k_156_315 : lk 156 315 = some (.aload_n 0, 316, 0, 0, .null) := by decide +kernel
theorem x_156_315 : Tr sc d 156 (315, [some (.ref xk), l1], [], h) Q = Tr sc d 156 (316, [some (.ref xk), l1], [.ref xk], h) Q := t_aload_n k_156_315 rfl
theorem k_156_316 : lk 156 316 = some (.sipush 1600, 319, 0, 0, .int 1600) := by decide +kernel
theorem x_156_316 : Tr sc d 156 (316, [l0, l1], [.ref k0], h) Q = Tr sc d 156 (319, [l0, l1], [.int 1600, .ref k0], h) Q := t_go k_156_316 rfl
theorem k_156_319 : lk 156 319 = some (.newarray .int, 321, 11, 0, .null) := by decide +kernel
theorem x_156_319 : Tr sc d 156 (319, [l0, l1], [.int i1, .ref k0], h) Q = ((hN h < 1000 ∧ TG (hN h) = 11 ∧ (¬ i1 < 0) ∧ LN (hN h) = i1.toNatClampNeg ∧ LN (hN h) ≤ 60000) ∧ Tr sc d 156 (321, [l0, l1], [.ref (hN h), .ref k0], nH h) Q) := t_gd k_156_319 rfl
theorem k_156_321 : lk 156 321 = some (.putfield 125, 324, 10, 59, .null) := by decide +kernel
theorem x_156_321 : Tr sc d 156 (321, [l0, l1], [.ref k1, .ref k0], h) Q = (okp h k0 10 = true ∧ Tr sc d 156 (324, [l0, l1], [], (sR h k0 59 (some k1))) Q) := t_gd k_156_321 rfl
theorem k_156_324 : lk 156 324 = some (.aload_n 0, 325, 0, 0, .null) := by decide +kernel
theorem x_156_324 : Tr sc d 156 (324, [some (.ref xk), l1], [], h) Q = Tr sc d 156 (325, [some (.ref xk), l1], [.ref xk], h) Q := t_aload_n k_156_324 rfl
theorem k_156_325 : lk 156 325 = some (.sipush 1296, 328, 0, 0, .int 1296) := by decide +kernel
theorem x_156_325 : Tr sc d 156 (325, [l0, l1], [.ref k0], h) Q = Tr sc d 156 (328, [l0, l1], [.int 1296, .ref k0], h) Q := t_go k_156_325 rfl
theorem k_156_328 : lk 156 328 = some (.newarray .int, 330, 11, 0, .null) := by decide +kernel
theorem x_156_328 : Tr sc d 156 (328, [l0, l1], [.int i1, .ref k0], h) Q = ((hN h < 1000 ∧ TG (hN h) = 11 ∧ (¬ i1 < 0) ∧ LN (hN h) = i1.toNatClampNeg ∧ LN (hN h) ≤ 60000) ∧ Tr sc d 156 (330, [l0, l1], [.ref (hN h), .ref k0], nH h) Q) := t_gd k_156_328 rfl
theorem k_156_330 : lk 156 330 = some (.putfield 128, 333, 10, 60, .null) := by decide +kernel
theorem x_156_330 : Tr sc d 156 (330, [l0, l1], [.ref k1, .ref k0], h) Q = (okp h k0 10 = true ∧ Tr sc d 156 (333, [l0, l1], [], (sR h k0 60 (some k1))) Q) := t_gd k_156_330 rfl
theorem k_156_333 : lk 156 333 = some (.aload_n 0, 334, 0, 0, .null) := by decide +kernel
theorem x_156_333 : Tr sc d 156 (333, [some (.ref xk), l1], [], h) Q = Tr sc d 156 (334, [some (.ref xk), l1], [.ref xk], h) Q := t_aload_n k_156_333 rfl
theorem k_156_334 : lk 156 334 = some (.sipush 1296, 337, 0, 0, .int 1296) := by decide +kernel
theorem x_156_334 : Tr sc d 156 (334, [l0, l1], [.ref k0], h) Q = Tr sc d 156 (337, [l0, l1], [.int 1296, .ref k0], h) Q := t_go k_156_334 rfl
theorem k_156_337 : lk 156 337 = some (.newarray .int, 339, 11, 0, .null) := by decide +kernel
theorem x_156_337 : Tr sc d 156 (337, [l0, l1], [.int i1, .ref k0], h) Q = ((hN h < 1000 ∧ TG (hN h) = 11 ∧ (¬ i1 < 0) ∧ LN (hN h) = i1.toNatClampNeg ∧ LN (hN h) ≤ 60000) ∧ Tr sc d 156 (339, [l0, l1], [.ref (hN h), .ref k0], nH h) Q) := t_gd k_156_337 rfl
theorem k_156_339 : lk 156 339 = some (.putfield 131, 342, 10, 61, .null) := by decide +kernel
theorem x_156_339 : Tr sc d 156 (339, [l0, l1], [.ref k1, .ref k0], h) Q = (okp h k0 10 = true ∧ Tr sc d 156 (342, [l0, l1], [], (sR h k0 61 (some k1))) Q) := t_gd k_156_339 rfl
theorem k_156_342 : lk 156 342 = some (.iconst 0, 343, 0, 0, .int 0) := by decide +kernel
theorem x_156_342 : Tr sc d 156 (342, [l0, l1], [], h) Q = Tr sc d 156 (343, [l0, l1], [.int 0], h) Q := t_go k_156_342 rfl
theorem k_156_343 : lk 156 343 = some (.istore_n 1, 344, 1, 0, .null) := by decide +kernel
theorem x_156_343 : Tr sc d 156 (343, [l0, l1], [.int i0], h) Q = Tr sc d 156 (344, [cl2 l0, some (.int i0)], [], h) Q := t_istore_n k_156_343 (Nat.le_of_ble_eq_true rfl)
theorem k_156_344 : lk 156 344 = some (.iload_n 1, 345, 1, 0, .null) := by decide +kernel
theorem x_156_344 : Tr sc d 156 (344, [l0, some (.int x)], [], h) Q = Tr sc d 156 (345, [l0, some (.int x)], [.int x], h) Q := t_iload_n k_156_344 rfl
theorem k_156_345 : lk 156 345 = some (.bipush 6, 347, 0, 0, .int 6) := by decide +kernel
theorem x_156_345 : Tr sc d 156 (345, [l0, l1], [.int i0], h) Q = Tr sc d 156 (347, [l0, l1], [.int 6, .int i0], h) Q := t_go k_156_345 rfl
theorem k_156_347 : lk 156 347 = some (.if_icmp .ge 17, 350, 364, 0, .null) := by decide +kernel
theorem x_156_347 : Tr sc d 156 (347, [l0, l1], [.int i1, .int i0], h) Q = if i1 ≤ i0 then Tr sc d 156 (364, [l0, l1], [], h) Q else Tr sc d 156 (350, [l0, l1], [], h) Q := t_if k_156_347 rfl
theorem k_156_350 : lk 156 350 = some (.aload_n 0, 351, 0, 0, .null) := by decide +kernel
theorem x_156_350 : Tr sc d 156 (350, [some (.ref xk), l1], [], h) Q = Tr sc d 156 (351, [some (.ref xk), l1], [.ref xk], h) Q := t_aload_n k_156_350 rfl
theorem k_156_351 : lk 156 351 = some (.getfield 17, 354, 10, 6, .null) := by decide +kernel
theorem x_156_351 : Tr sc d 156 (351, [l0, l1], [.ref k0], h) Q = (okp h k0 10 = true ∧ ∃ q, hR h k0 6 = some q ∧ Tr sc d 156 (354, [l0, l1], [.ref q], h) Q) := t_getr k_156_351
theorem k_156_354 : lk 156 354 = some (.iload_n 1, 355, 1, 0, .null) := by decide +kernel
theorem x_156_354 : Tr sc d 156 (354, [l0, some (.int x)], [.ref k0], h) Q = Tr sc d 156 (355, [l0, some (.int x)], [.int x, .ref k0], h) Q := t_iload_n k_156_354 rfl
theorem k_156_355 : lk 156 355 = some (.bipush (-9), 357, 0, 0, .int (-9)) := by decide +kernel
theorem x_156_355 : Tr sc d 156 (355, [l0, l1], [.int i1, .ref k0], h) Q = Tr sc d 156 (357, [l0, l1], [.int (-9), .int i1, .ref k0], h) Q := t_go k_156_355 rfl
theorem k_156_357 : lk 156 357 = some (.iastore, 358, 0, 0, .null) := by decide +kernel
theorem x_156_357 : Tr sc d 156 (357, [l0, l1], [.int i2, .int i1, .ref k0], h) Q = ((okp h k0 11 && inb i1 (LN k0)) = true ∧ Tr sc d 156 (358, [l0, l1], [], (sI h k0 i1.toNatClampNeg i2)) Q) := t_gd k_156_357 rfl
theorem k_156_358 : lk 156 358 = some (.iinc 1 1, 361, 1, 0, .int 1) := by decide +kernel
theorem x_156_358 : Tr sc d 156 (358, [l0, some (.int x)], [], h) Q = Tr sc d 156 (361, [cl2 l0, some (.int (x + 1))], [], h) Q := t_inc k_156_358 rfl (Nat.le_of_ble_eq_true rfl)
theorem k_156_361 : lk 156 361 = some (.goto (-17), 364, 344, 0, .null) := by decide +kernel
theorem x_156_361 : Tr sc d 156 (361, [l0, l1], [], h) Q = Tr sc d 156 (344, [l0, l1], [], h) Q := t_go k_156_361 rfl
theorem k_156_364 : lk 156 364 = some (.iconst 0, 365, 0, 0, .int 0) := by decide +kernel
theorem x_156_364 : Tr sc d 156 (364, [l0, l1], [], h) Q = Tr sc d 156 (365, [l0, l1], [.int 0], h) Q := t_go k_156_364 rfl
theorem k_156_365 : lk 156 365 = some (.istore_n 1, 366, 1, 0, .null) := by decide +kernel
theorem x_156_365 : Tr sc d 156 (365, [l0, l1], [.int i0], h) Q = Tr sc d 156 (366, [cl2 l0, some (.int i0)], [], h) Q := t_istore_n k_156_365 (Nat.le_of_ble_eq_true rfl)
theorem k_156_366 : lk 156 366 = some (.iload_n 1, 367, 1, 0, .null) := by decide +kernel
theorem x_156_366 : Tr sc d 156 (366, [l0, some (.int x)], [], h) Q = Tr sc d 156 (367, [l0, some (.int x)], [.int x], h) Q := t_iload_n k_156_366 rfl
theorem k_156_367 : lk 156 367 = some (.iconst 4, 368, 0, 0, .int 4) := by decide +kernel
theorem x_156_367 : Tr sc d 156 (367, [l0, l1], [.int i0], h) Q = Tr sc d 156 (368, [l0, l1], [.int 4, .int i0], h) Q := t_go k_156_367 rfl
theorem k_156_368 : lk 156 368 = some (.if_icmp .ge 17, 371, 385, 0, .null) := by decide +kernel
theorem x_156_368 : Tr sc d 156 (368, [l0, l1], [.int i1, .int i0], h) Q = if i1 ≤ i0 then Tr sc d 156 (385, [l0, l1], [], h) Q else Tr sc d 156 (371, [l0, l1], [], h) Q := t_if k_156_368 rfl
theorem k_156_371 : lk 156 371 = some (.aload_n 0, 372, 0, 0, .null) := by decide +kernel
theorem x_156_371 : Tr sc d 156 (371, [some (.ref xk), l1], [], h) Q = Tr sc d 156 (372, [some (.ref xk), l1], [.ref xk], h) Q := t_aload_n k_156_371 rfl
theorem k_156_372 : lk 156 372 = some (.getfield 26, 375, 10, 9, .null) := by decide +kernel
theorem x_156_372 : Tr sc d 156 (372, [l0, l1], [.ref k0], h) Q = (okp h k0 10 = true ∧ ∃ q, hR h k0 9 = some q ∧ Tr sc d 156 (375, [l0, l1], [.ref q], h) Q) := t_getr k_156_372
theorem k_156_375 : lk 156 375 = some (.iload_n 1, 376, 1, 0, .null) := by decide +kernel
theorem x_156_375 : Tr sc d 156 (375, [l0, some (.int x)], [.ref k0], h) Q = Tr sc d 156 (376, [l0, some (.int x)], [.int x, .ref k0], h) Q := t_iload_n k_156_375 rfl
theorem k_156_376 : lk 156 376 = some (.bipush (-9), 378, 0, 0, .int (-9)) := by decide +kernel
theorem x_156_376 : Tr sc d 156 (376, [l0, l1], [.int i1, .ref k0], h) Q = Tr sc d 156 (378, [l0, l1], [.int (-9), .int i1, .ref k0], h) Q := t_go k_156_376 rfl
theorem k_156_378 : lk 156 378 = some (.iastore, 379, 0, 0, .null) := by decide +kernel
theorem x_156_378 : Tr sc d 156 (378, [l0, l1], [.int i2, .int i1, .ref k0], h) Q = ((okp h k0 11 && inb i1 (LN k0)) = true ∧ Tr sc d 156 (379, [l0, l1], [], (sI h k0 i1.toNatClampNeg i2)) Q) := t_gd k_156_378 rfl
theorem k_156_379 : lk 156 379 = some (.iinc 1 1, 382, 1, 0, .int 1) := by decide +kernel
theorem x_156_379 : Tr sc d 156 (379, [l0, some (.int x)], [], h) Q = Tr sc d 156 (382, [cl2 l0, some (.int (x + 1))], [], h) Q := t_inc k_156_379 rfl (Nat.le_of_ble_eq_true rfl)
theorem k_156_382 : lk 156 382 = some (.goto (-16), 385, 366, 0, .null) := by decide +kernel
theorem x_156_382 : Tr sc d 156 (382, [l0, l1], [], h) Q = Tr sc d 156 (366, [l0, l1], [], h) Q := t_go k_156_382 rfl
theorem k_156_385 : lk 156 385 = some (.return_, 386, 0, 0, .null) := by decide +kernel
theorem x_156_385 : Tr sc d 156 (385, [l0, l1], [], h) Q = Q (none, h) := t_ret k_156_385 (by rw [r_156]; rfl)
theorem e_156 : Tr sc d 156 (ent0 156 [.ref k0] h) Q = Tr sc d 156 (0, [some (.ref k0), none], [], h) Q := by
  have e : mL 156 = 2 := by decide +kernel
  unfold ent0
  rw [e]
  rfl
theorem r_157 : mR 157 = some .boolean := by decide +kernel
theorem k_157_0 : lk 157 0 = some (.iload_n 0, 1, 0, 0, .null) := by decide +kernel
theorem x_157_0 : Tr sc d 157 (0, [some (.int x), l1, l2], [], h) Q = Tr sc d 157 (1, [some (.int x), l1, l2], [.int x], h) Q := t_iload_n k_157_0 rfl
theorem k_157_1 : lk 157 1 = some (.iload_n 1, 2, 1, 0, .null) := by decide +kernel
theorem x_157_1 : Tr sc d 157 (1, [l0, some (.int x), l2], [.int i0], h) Q = Tr sc d 157 (2, [l0, some (.int x), l2], [.int x, .int i0], h) Q := t_iload_n k_157_1 rfl
theorem k_157_2 : lk 157 2 = some (.if_icmp .lt 12, 5, 14, 0, .null) := by decide +kernel
theorem x_157_2 : Tr sc d 157 (2, [l0, l1, l2], [.int i1, .int i0], h) Q = if i0 < i1 then Tr sc d 157 (14, [l0, l1, l2], [], h) Q else Tr sc d 157 (5, [l0, l1, l2], [], h) Q := t_if k_157_2 rfl
theorem k_157_5 : lk 157 5 = some (.iload_n 0, 6, 0, 0, .null) := by decide +kernel
theorem x_157_5 : Tr sc d 157 (5, [some (.int x), l1, l2], [], h) Q = Tr sc d 157 (6, [some (.int x), l1, l2], [.int x], h) Q := t_iload_n k_157_5 rfl
theorem k_157_6 : lk 157 6 = some (.iload_n 2, 7, 2, 0, .null) := by decide +kernel
theorem x_157_6 : Tr sc d 157 (6, [l0, l1, some (.int x)], [.int i0], h) Q = Tr sc d 157 (7, [l0, l1, some (.int x)], [.int x, .int i0], h) Q := t_iload_n k_157_6 rfl
theorem k_157_7 : lk 157 7 = some (.if_icmp .gt 7, 10, 14, 0, .null) := by decide +kernel
theorem x_157_7 : Tr sc d 157 (7, [l0, l1, l2], [.int i1, .int i0], h) Q = if i1 < i0 then Tr sc d 157 (14, [l0, l1, l2], [], h) Q else Tr sc d 157 (10, [l0, l1, l2], [], h) Q := t_if k_157_7 rfl
theorem k_157_10 : lk 157 10 = some (.iconst 1, 11, 0, 0, .int 1) := by decide +kernel
theorem x_157_10 : Tr sc d 157 (10, [l0, l1, l2], [], h) Q = Tr sc d 157 (11, [l0, l1, l2], [.int 1], h) Q := t_go k_157_10 rfl
theorem k_157_11 : lk 157 11 = some (.goto 4, 14, 15, 0, .null) := by decide +kernel
theorem x_157_11 : Tr sc d 157 (11, [l0, l1, l2], [.int i0], h) Q = Tr sc d 157 (15, [l0, l1, l2], [.int i0], h) Q := t_go k_157_11 rfl
theorem k_157_14 : lk 157 14 = some (.iconst 0, 15, 0, 0, .int 0) := by decide +kernel
theorem x_157_14 : Tr sc d 157 (14, [l0, l1, l2], [], h) Q = Tr sc d 157 (15, [l0, l1, l2], [.int 0], h) Q := t_go k_157_14 rfl
theorem k_157_15 : lk 157 15 = some (.ireturn, 16, 0, 0, .null) := by decide +kernel
theorem x_157_15 : Tr sc d 157 (15, [l0, l1, l2], [.int i0], h) Q = (vp_nar .boolean i0 = i0 ∧ Q (some (.int i0), h)) := t_zret k_157_15 r_157
theorem e_157 : Tr sc d 157 (ent0 157 [.int i0, .int i1, .int i2] h) Q = Tr sc d 157 (0, [some (.int i0), some (.int i1), some (.int i2)], [], h) Q := by
  have e : mL 157 = 3 := by decide +kernel
  unfold ent0
  rw [e]
  rfl
theorem r_158 : mR 158 = some .int := by decide +kernel
theorem k_158_0 : lk 158 0 = some (.aload_n 0, 1, 0, 0, .null) := by decide +kernel
theorem x_158_0 : Tr sc d 158 (0, [some (.ref xk), l1], [], h) Q = Tr sc d 158 (1, [some (.ref xk), l1], [.ref xk], h) Q := t_aload_n k_158_0 rfl
theorem k_158_1 : lk 158 1 = some (.iload_n 1, 2, 1, 0, .null) := by decide +kernel
theorem x_158_1 : Tr sc d 158 (1, [l0, some (.int x)], [.ref k0], h) Q = Tr sc d 158 (2, [l0, some (.int x)], [.int x, .ref k0], h) Q := t_iload_n k_158_1 rfl
theorem k_158_2 : lk 158 2 = some (.putfield 134, 5, 10, 0, .int 0) := by decide +kernel
theorem x_158_2 : Tr sc d 158 (2, [l0, l1], [.int i1, .ref k0], h) Q = (okp h k0 10 = true ∧ Tr sc d 158 (5, [l0, l1], [], (sI h k0 0 i1)) Q) := t_gd k_158_2 rfl
theorem k_158_5 : lk 158 5 = some (.aload_n 0, 6, 0, 0, .null) := by decide +kernel
theorem x_158_5 : Tr sc d 158 (5, [some (.ref xk), l1], [], h) Q = Tr sc d 158 (6, [some (.ref xk), l1], [.ref xk], h) Q := t_aload_n k_158_5 rfl
theorem k_158_6 : lk 158 6 = some (.getfield 7, 9, 10, 1, .null) := by decide +kernel
theorem x_158_6 : Tr sc d 158 (6, [l0, l1], [.ref k0], h) Q = (okp h k0 10 = true ∧ ∃ q, hR h k0 1 = some q ∧ Tr sc d 158 (9, [l0, l1], [.ref q], h) Q) := t_getr k_158_6
theorem k_158_9 : lk 158 9 = some (.iload_n 1, 10, 1, 0, .null) := by decide +kernel
theorem x_158_9 : Tr sc d 158 (9, [l0, some (.int x)], [.ref k0], h) Q = Tr sc d 158 (10, [l0, some (.int x)], [.int x, .ref k0], h) Q := t_iload_n k_158_9 rfl
theorem k_158_10 : lk 158 10 = some (.dup2, 11, 0, 0, .null) := by decide +kernel
theorem x_158_10 : Tr sc d 158 (10, [l0, l1], [.int i1, .ref k0], h) Q = Tr sc d 158 (11, [l0, l1], [.int i1, .ref k0, .int i1, .ref k0], h) Q := t_go k_158_10 rfl
theorem k_158_11 : lk 158 11 = some (.iaload, 12, 0, 0, .null) := by decide +kernel
theorem x_158_11 : Tr sc d 158 (11, [l0, l1], [.int i3, .ref k2, .int i1, .ref k0], h) Q = (iOk sc h k2 i3 ∧ Tr sc d 158 (12, [l0, l1], [.int (iRd sc h k2 i3), .int i1, .ref k0], h) Q) := t_iald k_158_11
theorem k_158_12 : lk 158 12 = some (.iconst 1, 13, 0, 0, .int 1) := by decide +kernel
theorem x_158_12 : Tr sc d 158 (12, [l0, l1], [.int i2, .int i1, .ref k0], h) Q = Tr sc d 158 (13, [l0, l1], [.int 1, .int i2, .int i1, .ref k0], h) Q := t_go k_158_12 rfl
theorem k_158_13 : lk 158 13 = some (.iadd, 14, 0, 0, .null) := by decide +kernel
theorem x_158_13 : Tr sc d 158 (13, [l0, l1], [.int i3, .int i2, .int i1, .ref k0], h) Q = Tr sc d 158 (14, [l0, l1], [.int (i2 + i3), .int i1, .ref k0], h) Q := t_go k_158_13 rfl
theorem k_158_14 : lk 158 14 = some (.iastore, 15, 0, 0, .null) := by decide +kernel
theorem x_158_14 : Tr sc d 158 (14, [l0, l1], [.int i2, .int i1, .ref k0], h) Q = ((okp h k0 11 && inb i1 (LN k0)) = true ∧ Tr sc d 158 (15, [l0, l1], [], (sI h k0 i1.toNatClampNeg i2)) Q) := t_gd k_158_14 rfl
theorem k_158_15 : lk 158 15 = some (.bipush (-3), 17, 0, 0, .int (-3)) := by decide +kernel
theorem x_158_15 : Tr sc d 158 (15, [l0, l1], [], h) Q = Tr sc d 158 (17, [l0, l1], [.int (-3)], h) Q := t_go k_158_15 rfl
theorem k_158_17 : lk 158 17 = some (.ireturn, 18, 0, 0, .null) := by decide +kernel
theorem x_158_17 : Tr sc d 158 (17, [l0, l1], [.int i0], h) Q = Q (some (.int i0), h) := t_ret k_158_17 (by rw [r_158]; rfl)
theorem e_158 : Tr sc d 158 (ent0 158 [.ref k0, .int i1] h) Q = Tr sc d 158 (0, [some (.ref k0), some (.int i1)], [], h) Q := by
  have e : mL 158 = 2 := by decide +kernel
  unfold ent0
  rw [e]
  rfl
theorem r_159 : mR 159 = some .int := by decide +kernel
theorem k_159_0 : lk 159 0 = some (.aload_n 0, 1, 0, 0, .null) := by decide +kernel
theorem x_159_0 : Tr sc d 159 (0, [some (.ref xk), l1, l2], [], h) Q = Tr sc d 159 (1, [some (.ref xk), l1, l2], [.ref xk], h) Q := t_aload_n k_159_0 rfl
theorem k_159_1 : lk 159 1 = some (.iload_n 1, 2, 1, 0, .null) := by decide +kernel
theorem x_159_1 : Tr sc d 159 (1, [l0, some (.int x), l2], [.ref k0], h) Q = Tr sc d 159 (2, [l0, some (.int x), l2], [.int x, .ref k0], h) Q := t_iload_n k_159_1 rfl
theorem k_159_2 : lk 159 2 = some (.putfield 138, 5, 10, 2, .int 0) := by decide +kernel
theorem x_159_2 : Tr sc d 159 (2, [l0, l1, l2], [.int i1, .ref k0], h) Q = (okp h k0 10 = true ∧ Tr sc d 159 (5, [l0, l1, l2], [], (sI h k0 2 i1)) Q) := t_gd k_159_2 rfl
theorem k_159_5 : lk 159 5 = some (.iload_n 2, 6, 2, 0, .null) := by decide +kernel
theorem x_159_5 : Tr sc d 159 (5, [l0, l1, some (.int x)], [], h) Q = Tr sc d 159 (6, [l0, l1, some (.int x)], [.int x], h) Q := t_iload_n k_159_5 rfl
theorem k_159_6 : lk 159 6 = some (.ireturn, 7, 0, 0, .null) := by decide +kernel
theorem x_159_6 : Tr sc d 159 (6, [l0, l1, l2], [.int i0], h) Q = Q (some (.int i0), h) := t_ret k_159_6 (by rw [r_159]; rfl)
theorem e_159 : Tr sc d 159 (ent0 159 [.ref k0, .int i1, .int i2] h) Q = Tr sc d 159 (0, [some (.ref k0), some (.int i1), some (.int i2)], [], h) Q := by
  have e : mL 159 = 3 := by decide +kernel
  unfold ent0
  rw [e]
  rfl
theorem r_160 : mR 160 = some .int := by decide +kernel
theorem k_160_0 : lk 160 0 = some (.lload_n 1, 1, 1, 0, .null) := by decide +kernel
theorem x_160_0 : Tr sc d 160 (0, [l0, some (.long xl), l2, l3, l4, l5, l6, l7, l8, l9, l10], [], h) Q = Tr sc d 160 (1, [l0, some (.long xl), l2, l3, l4, l5, l6, l7, l8, l9, l10], [.long xl], h) Q := t_lload_n k_160_0 rfl
theorem k_160_1 : lk 160 1 = some (.lconst 0, 2, 0, 0, .long 0) := by decide +kernel
theorem x_160_1 : Tr sc d 160 (1, [l0, l1, l2, l3, l4, l5, l6, l7, l8, l9, l10], [.long j0], h) Q = Tr sc d 160 (2, [l0, l1, l2, l3, l4, l5, l6, l7, l8, l9, l10], [.long 0, .long j0], h) Q := t_go k_160_1 rfl
theorem k_160_2 : lk 160 2 = some (.lcmp, 3, 0, 0, .null) := by decide +kernel
theorem x_160_2 : Tr sc d 160 (2, [l0, l1, l2, l3, l4, l5, l6, l7, l8, l9, l10], [.long j1, .long j0], h) Q = Tr sc d 160 (3, [l0, l1, l2, l3, l4, l5, l6, l7, l8, l9, l10], [.int (lg_cmp j0 j1)], h) Q := t_go k_160_2 rfl
theorem k_160_3 : lk 160 3 = some (.ifCond .ge 8, 6, 11, 0, .null) := by decide +kernel
theorem x_160_3 : Tr sc d 160 (3, [l0, l1, l2, l3, l4, l5, l6, l7, l8, l9, l10], [.int i0], h) Q = if 0 ≤ i0 then Tr sc d 160 (11, [l0, l1, l2, l3, l4, l5, l6, l7, l8, l9, l10], [], h) Q else Tr sc d 160 (6, [l0, l1, l2, l3, l4, l5, l6, l7, l8, l9, l10], [], h) Q := t_if k_160_3 rfl
theorem k_160_6 : lk 160 6 = some (.lload_n 1, 7, 1, 0, .null) := by decide +kernel
theorem x_160_6 : Tr sc d 160 (6, [l0, some (.long xl), l2, l3, l4, l5, l6, l7, l8, l9, l10], [], h) Q = Tr sc d 160 (7, [l0, some (.long xl), l2, l3, l4, l5, l6, l7, l8, l9, l10], [.long xl], h) Q := t_lload_n k_160_6 rfl
theorem k_160_7 : lk 160 7 = some (.lneg, 8, 0, 0, .null) := by decide +kernel
theorem x_160_7 : Tr sc d 160 (7, [l0, l1, l2, l3, l4, l5, l6, l7, l8, l9, l10], [.long j0], h) Q = Tr sc d 160 (8, [l0, l1, l2, l3, l4, l5, l6, l7, l8, l9, l10], [.long (-j0)], h) Q := t_go k_160_7 rfl
theorem k_160_8 : lk 160 8 = some (.goto 4, 11, 12, 0, .null) := by decide +kernel
theorem x_160_8 : Tr sc d 160 (8, [l0, l1, l2, l3, l4, l5, l6, l7, l8, l9, l10], [.long j0], h) Q = Tr sc d 160 (12, [l0, l1, l2, l3, l4, l5, l6, l7, l8, l9, l10], [.long j0], h) Q := t_go k_160_8 rfl
theorem k_160_11 : lk 160 11 = some (.lload_n 1, 12, 1, 0, .null) := by decide +kernel
theorem x_160_11 : Tr sc d 160 (11, [l0, some (.long xl), l2, l3, l4, l5, l6, l7, l8, l9, l10], [], h) Q = Tr sc d 160 (12, [l0, some (.long xl), l2, l3, l4, l5, l6, l7, l8, l9, l10], [.long xl], h) Q := t_lload_n k_160_11 rfl
theorem k_160_12 : lk 160 12 = some (.lstore 5, 14, 5, 0, .null) := by decide +kernel
theorem x_160_12 : Tr sc d 160 (12, [l0, l1, l2, l3, l4, l5, l6, l7, l8, l9, l10], [.long j0], h) Q = Tr sc d 160 (14, [l0, l1, l2, l3, cl2 l4, some (.long j0), none, l7, l8, l9, l10], [], h) Q := t_lstore k_160_12 (Nat.le_of_ble_eq_true rfl)
theorem k_160_14 : lk 160 14 = some (.lload_n 3, 15, 3, 0, .null) := by decide +kernel
theorem x_160_14 : Tr sc d 160 (14, [l0, l1, l2, some (.long xl), l4, l5, l6, l7, l8, l9, l10], [], h) Q = Tr sc d 160 (15, [l0, l1, l2, some (.long xl), l4, l5, l6, l7, l8, l9, l10], [.long xl], h) Q := t_lload_n k_160_14 rfl
theorem k_160_15 : lk 160 15 = some (.lconst 0, 16, 0, 0, .long 0) := by decide +kernel
theorem x_160_15 : Tr sc d 160 (15, [l0, l1, l2, l3, l4, l5, l6, l7, l8, l9, l10], [.long j0], h) Q = Tr sc d 160 (16, [l0, l1, l2, l3, l4, l5, l6, l7, l8, l9, l10], [.long 0, .long j0], h) Q := t_go k_160_15 rfl
theorem k_160_16 : lk 160 16 = some (.lcmp, 17, 0, 0, .null) := by decide +kernel
theorem x_160_16 : Tr sc d 160 (16, [l0, l1, l2, l3, l4, l5, l6, l7, l8, l9, l10], [.long j1, .long j0], h) Q = Tr sc d 160 (17, [l0, l1, l2, l3, l4, l5, l6, l7, l8, l9, l10], [.int (lg_cmp j0 j1)], h) Q := t_go k_160_16 rfl
theorem k_160_17 : lk 160 17 = some (.ifCond .ge 8, 20, 25, 0, .null) := by decide +kernel
theorem x_160_17 : Tr sc d 160 (17, [l0, l1, l2, l3, l4, l5, l6, l7, l8, l9, l10], [.int i0], h) Q = if 0 ≤ i0 then Tr sc d 160 (25, [l0, l1, l2, l3, l4, l5, l6, l7, l8, l9, l10], [], h) Q else Tr sc d 160 (20, [l0, l1, l2, l3, l4, l5, l6, l7, l8, l9, l10], [], h) Q := t_if k_160_17 rfl
theorem k_160_20 : lk 160 20 = some (.lload_n 3, 21, 3, 0, .null) := by decide +kernel
theorem x_160_20 : Tr sc d 160 (20, [l0, l1, l2, some (.long xl), l4, l5, l6, l7, l8, l9, l10], [], h) Q = Tr sc d 160 (21, [l0, l1, l2, some (.long xl), l4, l5, l6, l7, l8, l9, l10], [.long xl], h) Q := t_lload_n k_160_20 rfl
theorem k_160_21 : lk 160 21 = some (.lneg, 22, 0, 0, .null) := by decide +kernel
theorem x_160_21 : Tr sc d 160 (21, [l0, l1, l2, l3, l4, l5, l6, l7, l8, l9, l10], [.long j0], h) Q = Tr sc d 160 (22, [l0, l1, l2, l3, l4, l5, l6, l7, l8, l9, l10], [.long (-j0)], h) Q := t_go k_160_21 rfl
theorem k_160_22 : lk 160 22 = some (.goto 4, 25, 26, 0, .null) := by decide +kernel
theorem x_160_22 : Tr sc d 160 (22, [l0, l1, l2, l3, l4, l5, l6, l7, l8, l9, l10], [.long j0], h) Q = Tr sc d 160 (26, [l0, l1, l2, l3, l4, l5, l6, l7, l8, l9, l10], [.long j0], h) Q := t_go k_160_22 rfl
theorem k_160_25 : lk 160 25 = some (.lload_n 3, 26, 3, 0, .null) := by decide +kernel
theorem x_160_25 : Tr sc d 160 (25, [l0, l1, l2, some (.long xl), l4, l5, l6, l7, l8, l9, l10], [], h) Q = Tr sc d 160 (26, [l0, l1, l2, some (.long xl), l4, l5, l6, l7, l8, l9, l10], [.long xl], h) Q := t_lload_n k_160_25 rfl
theorem k_160_26 : lk 160 26 = some (.lstore 7, 28, 7, 0, .null) := by decide +kernel
theorem x_160_26 : Tr sc d 160 (26, [l0, l1, l2, l3, l4, l5, l6, l7, l8, l9, l10], [.long j0], h) Q = Tr sc d 160 (28, [l0, l1, l2, l3, l4, l5, cl2 l6, some (.long j0), none, l9, l10], [], h) Q := t_lstore k_160_26 (Nat.le_of_ble_eq_true rfl)
theorem k_160_28 : lk 160 28 = some (.lload 7, 30, 7, 0, .null) := by decide +kernel
theorem x_160_28 : Tr sc d 160 (28, [l0, l1, l2, l3, l4, l5, l6, some (.long xl), l8, l9, l10], [], h) Q = Tr sc d 160 (30, [l0, l1, l2, l3, l4, l5, l6, some (.long xl), l8, l9, l10], [.long xl], h) Q := t_lload k_160_28 rfl
theorem k_160_30 : lk 160 30 = some (.lconst 0, 31, 0, 0, .long 0) := by decide +kernel
theorem x_160_30 : Tr sc d 160 (30, [l0, l1, l2, l3, l4, l5, l6, l7, l8, l9, l10], [.long j0], h) Q = Tr sc d 160 (31, [l0, l1, l2, l3, l4, l5, l6, l7, l8, l9, l10], [.long 0, .long j0], h) Q := t_go k_160_30 rfl
theorem k_160_31 : lk 160 31 = some (.lcmp, 32, 0, 0, .null) := by decide +kernel
theorem x_160_31 : Tr sc d 160 (31, [l0, l1, l2, l3, l4, l5, l6, l7, l8, l9, l10], [.long j1, .long j0], h) Q = Tr sc d 160 (32, [l0, l1, l2, l3, l4, l5, l6, l7, l8, l9, l10], [.int (lg_cmp j0 j1)], h) Q := t_go k_160_31 rfl
theorem k_160_32 : lk 160 32 = some (.ifCond .eq 21, 35, 53, 0, .null) := by decide +kernel
theorem x_160_32 : Tr sc d 160 (32, [l0, l1, l2, l3, l4, l5, l6, l7, l8, l9, l10], [.int i0], h) Q = if i0 = 0 then Tr sc d 160 (53, [l0, l1, l2, l3, l4, l5, l6, l7, l8, l9, l10], [], h) Q else Tr sc d 160 (35, [l0, l1, l2, l3, l4, l5, l6, l7, l8, l9, l10], [], h) Q := t_if k_160_32 rfl
theorem k_160_35 : lk 160 35 = some (.lload 5, 37, 5, 0, .null) := by decide +kernel
theorem x_160_35 : Tr sc d 160 (35, [l0, l1, l2, l3, l4, some (.long xl), l6, l7, l8, l9, l10], [], h) Q = Tr sc d 160 (37, [l0, l1, l2, l3, l4, some (.long xl), l6, l7, l8, l9, l10], [.long xl], h) Q := t_lload k_160_35 rfl
theorem k_160_37 : lk 160 37 = some (.lload 7, 39, 7, 0, .null) := by decide +kernel
theorem x_160_37 : Tr sc d 160 (37, [l0, l1, l2, l3, l4, l5, l6, some (.long xl), l8, l9, l10], [.long j0], h) Q = Tr sc d 160 (39, [l0, l1, l2, l3, l4, l5, l6, some (.long xl), l8, l9, l10], [.long xl, .long j0], h) Q := t_lload k_160_37 rfl
theorem k_160_39 : lk 160 39 = some (.lrem, 40, 0, 0, .null) := by decide +kernel
theorem x_160_39 : Tr sc d 160 (39, [l0, l1, l2, l3, l4, l5, l6, l7, l8, l9, l10], [.long j1, .long j0], h) Q = (¬ j1 = 0 ∧ Tr sc d 160 (40, [l0, l1, l2, l3, l4, l5, l6, l7, l8, l9, l10], [.long (j0 - j0 / j1 * j1)], h) Q) := t_ng k_160_39 rfl
theorem k_160_40 : lk 160 40 = some (.lstore 9, 42, 9, 0, .null) := by decide +kernel
theorem x_160_40 : Tr sc d 160 (40, [l0, l1, l2, l3, l4, l5, l6, l7, l8, l9, l10], [.long j0], h) Q = Tr sc d 160 (42, [l0, l1, l2, l3, l4, l5, l6, l7, cl2 l8, some (.long j0), none], [], h) Q := t_lstore k_160_40 (Nat.le_of_ble_eq_true rfl)
theorem k_160_42 : lk 160 42 = some (.lload 7, 44, 7, 0, .null) := by decide +kernel
theorem x_160_42 : Tr sc d 160 (42, [l0, l1, l2, l3, l4, l5, l6, some (.long xl), l8, l9, l10], [], h) Q = Tr sc d 160 (44, [l0, l1, l2, l3, l4, l5, l6, some (.long xl), l8, l9, l10], [.long xl], h) Q := t_lload k_160_42 rfl
theorem k_160_44 : lk 160 44 = some (.lstore 5, 46, 5, 0, .null) := by decide +kernel
theorem x_160_44 : Tr sc d 160 (44, [l0, l1, l2, l3, l4, l5, l6, l7, l8, l9, l10], [.long j0], h) Q = Tr sc d 160 (46, [l0, l1, l2, l3, cl2 l4, some (.long j0), none, l7, l8, l9, l10], [], h) Q := t_lstore k_160_44 (Nat.le_of_ble_eq_true rfl)
theorem k_160_46 : lk 160 46 = some (.lload 9, 48, 9, 0, .null) := by decide +kernel
theorem x_160_46 : Tr sc d 160 (46, [l0, l1, l2, l3, l4, l5, l6, l7, l8, some (.long xl), l10], [], h) Q = Tr sc d 160 (48, [l0, l1, l2, l3, l4, l5, l6, l7, l8, some (.long xl), l10], [.long xl], h) Q := t_lload k_160_46 rfl
theorem k_160_48 : lk 160 48 = some (.lstore 7, 50, 7, 0, .null) := by decide +kernel
theorem x_160_48 : Tr sc d 160 (48, [l0, l1, l2, l3, l4, l5, l6, l7, l8, l9, l10], [.long j0], h) Q = Tr sc d 160 (50, [l0, l1, l2, l3, l4, l5, cl2 l6, some (.long j0), none, l9, l10], [], h) Q := t_lstore k_160_48 (Nat.le_of_ble_eq_true rfl)
theorem k_160_50 : lk 160 50 = some (.goto (-22), 53, 28, 0, .null) := by decide +kernel
theorem x_160_50 : Tr sc d 160 (50, [l0, l1, l2, l3, l4, l5, l6, l7, l8, l9, l10], [], h) Q = Tr sc d 160 (28, [l0, l1, l2, l3, l4, l5, l6, l7, l8, l9, l10], [], h) Q := t_go k_160_50 rfl
theorem k_160_53 : lk 160 53 = some (.lload_n 3, 54, 3, 0, .null) := by decide +kernel
theorem x_160_53 : Tr sc d 160 (53, [l0, l1, l2, some (.long xl), l4, l5, l6, l7, l8, l9, l10], [], h) Q = Tr sc d 160 (54, [l0, l1, l2, some (.long xl), l4, l5, l6, l7, l8, l9, l10], [.long xl], h) Q := t_lload_n k_160_53 rfl
theorem k_160_54 : lk 160 54 = some (.lconst 0, 55, 0, 0, .long 0) := by decide +kernel
theorem x_160_54 : Tr sc d 160 (54, [l0, l1, l2, l3, l4, l5, l6, l7, l8, l9, l10], [.long j0], h) Q = Tr sc d 160 (55, [l0, l1, l2, l3, l4, l5, l6, l7, l8, l9, l10], [.long 0, .long j0], h) Q := t_go k_160_54 rfl
theorem k_160_55 : lk 160 55 = some (.lcmp, 56, 0, 0, .null) := by decide +kernel
theorem x_160_55 : Tr sc d 160 (55, [l0, l1, l2, l3, l4, l5, l6, l7, l8, l9, l10], [.long j1, .long j0], h) Q = Tr sc d 160 (56, [l0, l1, l2, l3, l4, l5, l6, l7, l8, l9, l10], [.int (lg_cmp j0 j1)], h) Q := t_go k_160_55 rfl
theorem k_160_56 : lk 160 56 = some (.ifCond .ge 9, 59, 65, 0, .null) := by decide +kernel
theorem x_160_56 : Tr sc d 160 (56, [l0, l1, l2, l3, l4, l5, l6, l7, l8, l9, l10], [.int i0], h) Q = if 0 ≤ i0 then Tr sc d 160 (65, [l0, l1, l2, l3, l4, l5, l6, l7, l8, l9, l10], [], h) Q else Tr sc d 160 (59, [l0, l1, l2, l3, l4, l5, l6, l7, l8, l9, l10], [], h) Q := t_if k_160_56 rfl
theorem k_160_59 : lk 160 59 = some (.lload 5, 61, 5, 0, .null) := by decide +kernel
theorem x_160_59 : Tr sc d 160 (59, [l0, l1, l2, l3, l4, some (.long xl), l6, l7, l8, l9, l10], [], h) Q = Tr sc d 160 (61, [l0, l1, l2, l3, l4, some (.long xl), l6, l7, l8, l9, l10], [.long xl], h) Q := t_lload k_160_59 rfl
theorem k_160_61 : lk 160 61 = some (.lneg, 62, 0, 0, .null) := by decide +kernel
theorem x_160_61 : Tr sc d 160 (61, [l0, l1, l2, l3, l4, l5, l6, l7, l8, l9, l10], [.long j0], h) Q = Tr sc d 160 (62, [l0, l1, l2, l3, l4, l5, l6, l7, l8, l9, l10], [.long (-j0)], h) Q := t_go k_160_61 rfl
theorem k_160_62 : lk 160 62 = some (.goto 5, 65, 67, 0, .null) := by decide +kernel
theorem x_160_62 : Tr sc d 160 (62, [l0, l1, l2, l3, l4, l5, l6, l7, l8, l9, l10], [.long j0], h) Q = Tr sc d 160 (67, [l0, l1, l2, l3, l4, l5, l6, l7, l8, l9, l10], [.long j0], h) Q := t_go k_160_62 rfl
theorem k_160_65 : lk 160 65 = some (.lload 5, 67, 5, 0, .null) := by decide +kernel
theorem x_160_65 : Tr sc d 160 (65, [l0, l1, l2, l3, l4, some (.long xl), l6, l7, l8, l9, l10], [], h) Q = Tr sc d 160 (67, [l0, l1, l2, l3, l4, some (.long xl), l6, l7, l8, l9, l10], [.long xl], h) Q := t_lload k_160_65 rfl
theorem k_160_67 : lk 160 67 = some (.lstore 9, 69, 9, 0, .null) := by decide +kernel
theorem x_160_67 : Tr sc d 160 (67, [l0, l1, l2, l3, l4, l5, l6, l7, l8, l9, l10], [.long j0], h) Q = Tr sc d 160 (69, [l0, l1, l2, l3, l4, l5, l6, l7, cl2 l8, some (.long j0), none], [], h) Q := t_lstore k_160_67 (Nat.le_of_ble_eq_true rfl)
theorem k_160_69 : lk 160 69 = some (.aload_n 0, 70, 0, 0, .null) := by decide +kernel
theorem x_160_69 : Tr sc d 160 (69, [some (.ref xk), l1, l2, l3, l4, l5, l6, l7, l8, l9, l10], [], h) Q = Tr sc d 160 (70, [some (.ref xk), l1, l2, l3, l4, l5, l6, l7, l8, l9, l10], [.ref xk], h) Q := t_aload_n k_160_69 rfl
theorem k_160_70 : lk 160 70 = some (.lload_n 1, 71, 1, 0, .null) := by decide +kernel
theorem x_160_70 : Tr sc d 160 (70, [l0, some (.long xl), l2, l3, l4, l5, l6, l7, l8, l9, l10], [.ref k0], h) Q = Tr sc d 160 (71, [l0, some (.long xl), l2, l3, l4, l5, l6, l7, l8, l9, l10], [.long xl, .ref k0], h) Q := t_lload_n k_160_70 rfl
theorem k_160_71 : lk 160 71 = some (.lload 9, 73, 9, 0, .null) := by decide +kernel
theorem x_160_71 : Tr sc d 160 (71, [l0, l1, l2, l3, l4, l5, l6, l7, l8, some (.long xl), l10], [.long j1, .ref k0], h) Q = Tr sc d 160 (73, [l0, l1, l2, l3, l4, l5, l6, l7, l8, some (.long xl), l10], [.long xl, .long j1, .ref k0], h) Q := t_lload k_160_71 rfl
theorem k_160_73 : lk 160 73 = some (.ldiv, 74, 0, 0, .null) := by decide +kernel
theorem x_160_73 : Tr sc d 160 (73, [l0, l1, l2, l3, l4, l5, l6, l7, l8, l9, l10], [.long j2, .long j1, .ref k0], h) Q = (¬ j2 = 0 ∧ Tr sc d 160 (74, [l0, l1, l2, l3, l4, l5, l6, l7, l8, l9, l10], [.long (j1 / j2), .ref k0], h) Q) := t_ng k_160_73 rfl
theorem k_160_74 : lk 160 74 = some (.putfield 141, 77, 10, 4, .long 0) := by decide +kernel
theorem x_160_74 : Tr sc d 160 (74, [l0, l1, l2, l3, l4, l5, l6, l7, l8, l9, l10], [.long j1, .ref k0], h) Q = (okp h k0 10 = true ∧ Tr sc d 160 (77, [l0, l1, l2, l3, l4, l5, l6, l7, l8, l9, l10], [], (sL h k0 4 j1)) Q) := t_gd k_160_74 rfl
theorem k_160_77 : lk 160 77 = some (.aload_n 0, 78, 0, 0, .null) := by decide +kernel
theorem x_160_77 : Tr sc d 160 (77, [some (.ref xk), l1, l2, l3, l4, l5, l6, l7, l8, l9, l10], [], h) Q = Tr sc d 160 (78, [some (.ref xk), l1, l2, l3, l4, l5, l6, l7, l8, l9, l10], [.ref xk], h) Q := t_aload_n k_160_77 rfl
theorem k_160_78 : lk 160 78 = some (.lload_n 3, 79, 3, 0, .null) := by decide +kernel
theorem x_160_78 : Tr sc d 160 (78, [l0, l1, l2, some (.long xl), l4, l5, l6, l7, l8, l9, l10], [.ref k0], h) Q = Tr sc d 160 (79, [l0, l1, l2, some (.long xl), l4, l5, l6, l7, l8, l9, l10], [.long xl, .ref k0], h) Q := t_lload_n k_160_78 rfl
theorem k_160_79 : lk 160 79 = some (.lload 9, 81, 9, 0, .null) := by decide +kernel
theorem x_160_79 : Tr sc d 160 (79, [l0, l1, l2, l3, l4, l5, l6, l7, l8, some (.long xl), l10], [.long j1, .ref k0], h) Q = Tr sc d 160 (81, [l0, l1, l2, l3, l4, l5, l6, l7, l8, some (.long xl), l10], [.long xl, .long j1, .ref k0], h) Q := t_lload k_160_79 rfl
theorem k_160_81 : lk 160 81 = some (.ldiv, 82, 0, 0, .null) := by decide +kernel
theorem x_160_81 : Tr sc d 160 (81, [l0, l1, l2, l3, l4, l5, l6, l7, l8, l9, l10], [.long j2, .long j1, .ref k0], h) Q = (¬ j2 = 0 ∧ Tr sc d 160 (82, [l0, l1, l2, l3, l4, l5, l6, l7, l8, l9, l10], [.long (j1 / j2), .ref k0], h) Q) := t_ng k_160_81 rfl
theorem k_160_82 : lk 160 82 = some (.putfield 13, 85, 10, 5, .long 0) := by decide +kernel
theorem x_160_82 : Tr sc d 160 (82, [l0, l1, l2, l3, l4, l5, l6, l7, l8, l9, l10], [.long j1, .ref k0], h) Q = (okp h k0 10 = true ∧ Tr sc d 160 (85, [l0, l1, l2, l3, l4, l5, l6, l7, l8, l9, l10], [], (sL h k0 5 j1)) Q) := t_gd k_160_82 rfl
theorem k_160_85 : lk 160 85 = some (.iconst 1, 86, 0, 0, .int 1) := by decide +kernel
theorem x_160_85 : Tr sc d 160 (85, [l0, l1, l2, l3, l4, l5, l6, l7, l8, l9, l10], [], h) Q = Tr sc d 160 (86, [l0, l1, l2, l3, l4, l5, l6, l7, l8, l9, l10], [.int 1], h) Q := t_go k_160_85 rfl
theorem k_160_86 : lk 160 86 = some (.ireturn, 87, 0, 0, .null) := by decide +kernel
theorem x_160_86 : Tr sc d 160 (86, [l0, l1, l2, l3, l4, l5, l6, l7, l8, l9, l10], [.int i0], h) Q = Q (some (.int i0), h) := t_ret k_160_86 (by rw [r_160]; rfl)
theorem e_160 : Tr sc d 160 (ent0 160 [.ref k0, .long j1, .long j2] h) Q = Tr sc d 160 (0, [some (.ref k0), some (.long j1), none, some (.long j2), none, none, none, none, none, none, none], [], h) Q := by
  have e : mL 160 = 11 := by decide +kernel
  unfold ent0
  rw [e]
  rfl
theorem r_161 : mR 161 = some .boolean := by decide +kernel
theorem k_161_0 : lk 161 0 = some (.iload_n 0, 1, 0, 0, .null) := by decide +kernel
theorem x_161_0 : Tr sc d 161 (0, [some (.int x)], [], h) Q = Tr sc d 161 (1, [some (.int x)], [.int x], h) Q := t_iload_n k_161_0 rfl
theorem k_161_1 : lk 161 1 = some (.iconst 0, 2, 0, 0, .int 0) := by decide +kernel
theorem x_161_1 : Tr sc d 161 (1, [l0], [.int i0], h) Q = Tr sc d 161 (2, [l0], [.int 0, .int i0], h) Q := t_go k_161_1 rfl
theorem k_161_2 : lk 161 2 = some (.iconst 5, 3, 0, 0, .int 5) := by decide +kernel
theorem x_161_2 : Tr sc d 161 (2, [l0], [.int i1, .int i0], h) Q = Tr sc d 161 (3, [l0], [.int 5, .int i1, .int i0], h) Q := t_go k_161_2 rfl
theorem k_161_3 : lk 161 3 = some (.invokestatic 144, 6, 157, 3, .null) := by decide +kernel
theorem x_161_3 : Tr sc (d + 1) 161 (3, [l0], [.int i2, .int i1, .int i0], h) Q = Tr sc d 157 (ent0 157 [.int i0, .int i1, .int i2] h) (fun z => Tr sc (d + 1) 161 (6, [l0], z.1.toList ++ [], z.2) Q) := t_cs (as := [.int i0, .int i1, .int i2]) (r := []) k_161_3 (by decide) rfl rfl (Nat.le_of_ble_eq_true rfl) (Nat.le_of_ble_eq_true rfl)
theorem k_161_6 : lk 161 6 = some (.ireturn, 7, 0, 0, .null) := by decide +kernel
theorem x_161_6 : Tr sc d 161 (6, [l0], [.int i0], h) Q = (vp_nar .boolean i0 = i0 ∧ Q (some (.int i0), h)) := t_zret k_161_6 r_161
theorem e_161 : Tr sc d 161 (ent0 161 [.int i0] h) Q = Tr sc d 161 (0, [some (.int i0)], [], h) Q := by
  have e : mL 161 = 1 := by decide +kernel
  unfold ent0
  rw [e]
  rfl
theorem r_162 : mR 162 = some .boolean := by decide +kernel
theorem k_162_0 : lk 162 0 = some (.iload_n 0, 1, 0, 0, .null) := by decide +kernel
theorem x_162_0 : Tr sc d 162 (0, [some (.int x)], [], h) Q = Tr sc d 162 (1, [some (.int x)], [.int x], h) Q := t_iload_n k_162_0 rfl
theorem k_162_1 : lk 162 1 = some (.iconst 0, 2, 0, 0, .int 0) := by decide +kernel
theorem x_162_1 : Tr sc d 162 (1, [l0], [.int i0], h) Q = Tr sc d 162 (2, [l0], [.int 0, .int i0], h) Q := t_go k_162_1 rfl
theorem k_162_2 : lk 162 2 = some (.iconst 3, 3, 0, 0, .int 3) := by decide +kernel
theorem x_162_2 : Tr sc d 162 (2, [l0], [.int i1, .int i0], h) Q = Tr sc d 162 (3, [l0], [.int 3, .int i1, .int i0], h) Q := t_go k_162_2 rfl
theorem k_162_3 : lk 162 3 = some (.invokestatic 144, 6, 157, 3, .null) := by decide +kernel
theorem x_162_3 : Tr sc (d + 1) 162 (3, [l0], [.int i2, .int i1, .int i0], h) Q = Tr sc d 157 (ent0 157 [.int i0, .int i1, .int i2] h) (fun z => Tr sc (d + 1) 162 (6, [l0], z.1.toList ++ [], z.2) Q) := t_cs (as := [.int i0, .int i1, .int i2]) (r := []) k_162_3 (by decide) rfl rfl (Nat.le_of_ble_eq_true rfl) (Nat.le_of_ble_eq_true rfl)
theorem k_162_6 : lk 162 6 = some (.ireturn, 7, 0, 0, .null) := by decide +kernel
theorem x_162_6 : Tr sc d 162 (6, [l0], [.int i0], h) Q = (vp_nar .boolean i0 = i0 ∧ Q (some (.int i0), h)) := t_zret k_162_6 r_162
theorem e_162 : Tr sc d 162 (ent0 162 [.int i0] h) Q = Tr sc d 162 (0, [some (.int i0)], [], h) Q := by
  have e : mL 162 = 1 := by decide +kernel
  unfold ent0
  rw [e]
  rfl
theorem r_163 : mR 163 = some .int := by decide +kernel
theorem k_163_0 : lk 163 0 = some (.iload_n 1, 1, 1, 0, .null) := by decide +kernel
theorem x_163_0 : Tr sc d 163 (0, [l0, some (.int x)], [], h) Q = Tr sc d 163 (1, [l0, some (.int x)], [.int x], h) Q := t_iload_n k_163_0 rfl
theorem k_163_1 : lk 163 1 = some (.invokestatic 148, 4, 161, 1, .null) := by decide +kernel
theorem x_163_1 : Tr sc (d + 1) 163 (1, [l0, l1], [.int i0], h) Q = Tr sc d 161 (ent0 161 [.int i0] h) (fun z => Tr sc (d + 1) 163 (4, [l0, l1], z.1.toList ++ [], z.2) Q) := t_cs (as := [.int i0]) (r := []) k_163_1 (by decide) rfl rfl (Nat.le_of_ble_eq_true rfl) (Nat.le_of_ble_eq_true rfl)
theorem k_163_4 : lk 163 4 = some (.ifCond .ne 7, 7, 11, 0, .null) := by decide +kernel
theorem x_163_4 : Tr sc d 163 (4, [l0, l1], [.int i0], h) Q = if i0 = 0 then Tr sc d 163 (7, [l0, l1], [], h) Q else Tr sc d 163 (11, [l0, l1], [], h) Q := t_if k_163_4 rfl
theorem k_163_7 : lk 163 7 = some (.iconst (-1), 8, 0, 0, .int (-1)) := by decide +kernel
theorem x_163_7 : Tr sc d 163 (7, [l0, l1], [], h) Q = Tr sc d 163 (8, [l0, l1], [.int (-1)], h) Q := t_go k_163_7 rfl
theorem k_163_8 : lk 163 8 = some (.goto 21, 11, 29, 0, .null) := by decide +kernel
theorem x_163_8 : Tr sc d 163 (8, [l0, l1], [.int i0], h) Q = Tr sc d 163 (29, [l0, l1], [.int i0], h) Q := t_go k_163_8 rfl
theorem k_163_11 : lk 163 11 = some (.aload_n 0, 12, 0, 0, .null) := by decide +kernel
theorem x_163_11 : Tr sc d 163 (11, [some (.ref xk), l1], [], h) Q = Tr sc d 163 (12, [some (.ref xk), l1], [.ref xk], h) Q := t_aload_n k_163_11 rfl
theorem k_163_12 : lk 163 12 = some (.getfield 17, 15, 10, 6, .null) := by decide +kernel
theorem x_163_12 : Tr sc d 163 (12, [l0, l1], [.ref k0], h) Q = (okp h k0 10 = true ∧ ∃ q, hR h k0 6 = some q ∧ Tr sc d 163 (15, [l0, l1], [.ref q], h) Q) := t_getr k_163_12
theorem k_163_15 : lk 163 15 = some (.iload_n 1, 16, 1, 0, .null) := by decide +kernel
theorem x_163_15 : Tr sc d 163 (15, [l0, some (.int x)], [.ref k0], h) Q = Tr sc d 163 (16, [l0, some (.int x)], [.int x, .ref k0], h) Q := t_iload_n k_163_15 rfl
theorem k_163_16 : lk 163 16 = some (.iaload, 17, 0, 0, .null) := by decide +kernel
theorem x_163_16 : Tr sc d 163 (16, [l0, l1], [.int i1, .ref k0], h) Q = (iOk sc h k0 i1 ∧ Tr sc d 163 (17, [l0, l1], [.int (iRd sc h k0 i1)], h) Q) := t_iald k_163_16
theorem k_163_17 : lk 163 17 = some (.ifCond .ge 11, 20, 28, 0, .null) := by decide +kernel
theorem x_163_17 : Tr sc d 163 (17, [l0, l1], [.int i0], h) Q = if 0 ≤ i0 then Tr sc d 163 (28, [l0, l1], [], h) Q else Tr sc d 163 (20, [l0, l1], [], h) Q := t_if k_163_17 rfl
theorem k_163_20 : lk 163 20 = some (.aload_n 0, 21, 0, 0, .null) := by decide +kernel
theorem x_163_20 : Tr sc d 163 (20, [some (.ref xk), l1], [], h) Q = Tr sc d 163 (21, [some (.ref xk), l1], [.ref xk], h) Q := t_aload_n k_163_20 rfl
theorem k_163_21 : lk 163 21 = some (.iconst 1, 22, 0, 0, .int 1) := by decide +kernel
theorem x_163_21 : Tr sc d 163 (21, [l0, l1], [.ref k0], h) Q = Tr sc d 163 (22, [l0, l1], [.int 1, .ref k0], h) Q := t_go k_163_21 rfl
theorem k_163_22 : lk 163 22 = some (.invokevirtual 152, 25, 158, 1, .null) := by decide +kernel
theorem x_163_22 : Tr sc (d + 1) 163 (22, [l0, l1], [.int i1, .ref k0], h) Q = (okp h k0 10 = true ∧ Tr sc d 158 (ent0 158 [.ref k0, .int i1] h) (fun z => Tr sc (d + 1) 163 (25, [l0, l1], z.1.toList ++ [], z.2) Q)) := t_cv (as := [.int i1]) (r := []) k_163_22 rfl rfl (Nat.le_of_ble_eq_true rfl) (Nat.le_of_ble_eq_true rfl) (Nat.le_of_ble_eq_true rfl)
theorem k_163_25 : lk 163 25 = some (.goto 4, 28, 29, 0, .null) := by decide +kernel
theorem x_163_25 : Tr sc d 163 (25, [l0, l1], [.int i0], h) Q = Tr sc d 163 (29, [l0, l1], [.int i0], h) Q := t_go k_163_25 rfl
theorem k_163_28 : lk 163 28 = some (.iconst 0, 29, 0, 0, .int 0) := by decide +kernel
theorem x_163_28 : Tr sc d 163 (28, [l0, l1], [], h) Q = Tr sc d 163 (29, [l0, l1], [.int 0], h) Q := t_go k_163_28 rfl
theorem k_163_29 : lk 163 29 = some (.ireturn, 30, 0, 0, .null) := by decide +kernel
theorem x_163_29 : Tr sc d 163 (29, [l0, l1], [.int i0], h) Q = Q (some (.int i0), h) := t_ret k_163_29 (by rw [r_163]; rfl)
theorem e_163 : Tr sc d 163 (ent0 163 [.ref k0, .int i1] h) Q = Tr sc d 163 (0, [some (.ref k0), some (.int i1)], [], h) Q := by
  have e : mL 163 = 2 := by decide +kernel
  unfold ent0
  rw [e]
  rfl
theorem r_164 : mR 164 = some .int := by decide +kernel
theorem k_164_0 : lk 164 0 = some (.iload_n 1, 1, 1, 0, .null) := by decide +kernel
theorem x_164_0 : Tr sc d 164 (0, [l0, some (.int x)], [], h) Q = Tr sc d 164 (1, [l0, some (.int x)], [.int x], h) Q := t_iload_n k_164_0 rfl
theorem k_164_1 : lk 164 1 = some (.invokestatic 156, 4, 162, 1, .null) := by decide +kernel
theorem x_164_1 : Tr sc (d + 1) 164 (1, [l0, l1], [.int i0], h) Q = Tr sc d 162 (ent0 162 [.int i0] h) (fun z => Tr sc (d + 1) 164 (4, [l0, l1], z.1.toList ++ [], z.2) Q) := t_cs (as := [.int i0]) (r := []) k_164_1 (by decide) rfl rfl (Nat.le_of_ble_eq_true rfl) (Nat.le_of_ble_eq_true rfl)
theorem k_164_4 : lk 164 4 = some (.ifCond .ne 7, 7, 11, 0, .null) := by decide +kernel
theorem x_164_4 : Tr sc d 164 (4, [l0, l1], [.int i0], h) Q = if i0 = 0 then Tr sc d 164 (7, [l0, l1], [], h) Q else Tr sc d 164 (11, [l0, l1], [], h) Q := t_if k_164_4 rfl
theorem k_164_7 : lk 164 7 = some (.iconst (-1), 8, 0, 0, .int (-1)) := by decide +kernel
theorem x_164_7 : Tr sc d 164 (7, [l0, l1], [], h) Q = Tr sc d 164 (8, [l0, l1], [.int (-1)], h) Q := t_go k_164_7 rfl
theorem k_164_8 : lk 164 8 = some (.goto 21, 11, 29, 0, .null) := by decide +kernel
theorem x_164_8 : Tr sc d 164 (8, [l0, l1], [.int i0], h) Q = Tr sc d 164 (29, [l0, l1], [.int i0], h) Q := t_go k_164_8 rfl
theorem k_164_11 : lk 164 11 = some (.aload_n 0, 12, 0, 0, .null) := by decide +kernel
theorem x_164_11 : Tr sc d 164 (11, [some (.ref xk), l1], [], h) Q = Tr sc d 164 (12, [some (.ref xk), l1], [.ref xk], h) Q := t_aload_n k_164_11 rfl
theorem k_164_12 : lk 164 12 = some (.getfield 26, 15, 10, 9, .null) := by decide +kernel
theorem x_164_12 : Tr sc d 164 (12, [l0, l1], [.ref k0], h) Q = (okp h k0 10 = true ∧ ∃ q, hR h k0 9 = some q ∧ Tr sc d 164 (15, [l0, l1], [.ref q], h) Q) := t_getr k_164_12
theorem k_164_15 : lk 164 15 = some (.iload_n 1, 16, 1, 0, .null) := by decide +kernel
theorem x_164_15 : Tr sc d 164 (15, [l0, some (.int x)], [.ref k0], h) Q = Tr sc d 164 (16, [l0, some (.int x)], [.int x, .ref k0], h) Q := t_iload_n k_164_15 rfl
theorem k_164_16 : lk 164 16 = some (.iaload, 17, 0, 0, .null) := by decide +kernel
theorem x_164_16 : Tr sc d 164 (16, [l0, l1], [.int i1, .ref k0], h) Q = (iOk sc h k0 i1 ∧ Tr sc d 164 (17, [l0, l1], [.int (iRd sc h k0 i1)], h) Q) := t_iald k_164_16
theorem k_164_17 : lk 164 17 = some (.ifCond .ge 11, 20, 28, 0, .null) := by decide +kernel
theorem x_164_17 : Tr sc d 164 (17, [l0, l1], [.int i0], h) Q = if 0 ≤ i0 then Tr sc d 164 (28, [l0, l1], [], h) Q else Tr sc d 164 (20, [l0, l1], [], h) Q := t_if k_164_17 rfl
theorem k_164_20 : lk 164 20 = some (.aload_n 0, 21, 0, 0, .null) := by decide +kernel
theorem x_164_20 : Tr sc d 164 (20, [some (.ref xk), l1], [], h) Q = Tr sc d 164 (21, [some (.ref xk), l1], [.ref xk], h) Q := t_aload_n k_164_20 rfl
theorem k_164_21 : lk 164 21 = some (.iconst 1, 22, 0, 0, .int 1) := by decide +kernel
theorem x_164_21 : Tr sc d 164 (21, [l0, l1], [.ref k0], h) Q = Tr sc d 164 (22, [l0, l1], [.int 1, .ref k0], h) Q := t_go k_164_21 rfl
theorem k_164_22 : lk 164 22 = some (.invokevirtual 152, 25, 158, 1, .null) := by decide +kernel
theorem x_164_22 : Tr sc (d + 1) 164 (22, [l0, l1], [.int i1, .ref k0], h) Q = (okp h k0 10 = true ∧ Tr sc d 158 (ent0 158 [.ref k0, .int i1] h) (fun z => Tr sc (d + 1) 164 (25, [l0, l1], z.1.toList ++ [], z.2) Q)) := t_cv (as := [.int i1]) (r := []) k_164_22 rfl rfl (Nat.le_of_ble_eq_true rfl) (Nat.le_of_ble_eq_true rfl) (Nat.le_of_ble_eq_true rfl)
theorem k_164_25 : lk 164 25 = some (.goto 4, 28, 29, 0, .null) := by decide +kernel
theorem x_164_25 : Tr sc d 164 (25, [l0, l1], [.int i0], h) Q = Tr sc d 164 (29, [l0, l1], [.int i0], h) Q := t_go k_164_25 rfl
theorem k_164_28 : lk 164 28 = some (.iconst 0, 29, 0, 0, .int 0) := by decide +kernel
theorem x_164_28 : Tr sc d 164 (28, [l0, l1], [], h) Q = Tr sc d 164 (29, [l0, l1], [.int 0], h) Q := t_go k_164_28 rfl
theorem k_164_29 : lk 164 29 = some (.ireturn, 30, 0, 0, .null) := by decide +kernel
theorem x_164_29 : Tr sc d 164 (29, [l0, l1], [.int i0], h) Q = Q (some (.int i0), h) := t_ret k_164_29 (by rw [r_164]; rfl)
theorem e_164 : Tr sc d 164 (ent0 164 [.ref k0, .int i1] h) Q = Tr sc d 164 (0, [some (.ref k0), some (.int i1)], [], h) Q := by
  have e : mL 164 = 2 := by decide +kernel
  unfold ent0
  rw [e]
  rfl
theorem r_165 : mR 165 = some .int := by decide +kernel
theorem k_165_0 : lk 165 0 = some (.iload_n 1, 1, 1, 0, .null) := by decide +kernel
theorem x_165_0 : Tr sc d 165 (0, [l0, some (.int x), l2, l3], [], h) Q = Tr sc d 165 (1, [l0, some (.int x), l2, l3], [.int x], h) Q := t_iload_n k_165_0 rfl
theorem k_165_1 : lk 165 1 = some (.invokestatic 148, 4, 161, 1, .null) := by decide +kernel
theorem x_165_1 : Tr sc (d + 1) 165 (1, [l0, l1, l2, l3], [.int i0], h) Q = Tr sc d 161 (ent0 161 [.int i0] h) (fun z => Tr sc (d + 1) 165 (4, [l0, l1, l2, l3], z.1.toList ++ [], z.2) Q) := t_cs (as := [.int i0]) (r := []) k_165_1 (by decide) rfl rfl (Nat.le_of_ble_eq_true rfl) (Nat.le_of_ble_eq_true rfl)
theorem k_165_4 : lk 165 4 = some (.ifCond .eq 9, 7, 13, 0, .null) := by decide +kernel
theorem x_165_4 : Tr sc d 165 (4, [l0, l1, l2, l3], [.int i0], h) Q = if i0 = 0 then Tr sc d 165 (13, [l0, l1, l2, l3], [], h) Q else Tr sc d 165 (7, [l0, l1, l2, l3], [], h) Q := t_if k_165_4 rfl
theorem k_165_7 : lk 165 7 = some (.iload_n 2, 8, 2, 0, .null) := by decide +kernel
theorem x_165_7 : Tr sc d 165 (7, [l0, l1, some (.int x), l3], [], h) Q = Tr sc d 165 (8, [l0, l1, some (.int x), l3], [.int x], h) Q := t_iload_n k_165_7 rfl
theorem k_165_8 : lk 165 8 = some (.bipush 40, 10, 0, 0, .int 40) := by decide +kernel
theorem x_165_8 : Tr sc d 165 (8, [l0, l1, l2, l3], [.int i0], h) Q = Tr sc d 165 (10, [l0, l1, l2, l3], [.int 40, .int i0], h) Q := t_go k_165_8 rfl
theorem k_165_10 : lk 165 10 = some (.if_icmp .le 5, 13, 15, 0, .null) := by decide +kernel
theorem x_165_10 : Tr sc d 165 (10, [l0, l1, l2, l3], [.int i1, .int i0], h) Q = if i0 ≤ i1 then Tr sc d 165 (15, [l0, l1, l2, l3], [], h) Q else Tr sc d 165 (13, [l0, l1, l2, l3], [], h) Q := t_if k_165_10 rfl
theorem k_165_13 : lk 165 13 = some (.iconst (-1), 14, 0, 0, .int (-1)) := by decide +kernel
theorem x_165_13 : Tr sc d 165 (13, [l0, l1, l2, l3], [], h) Q = Tr sc d 165 (14, [l0, l1, l2, l3], [.int (-1)], h) Q := t_go k_165_13 rfl
theorem k_165_14 : lk 165 14 = some (.ireturn, 15, 0, 0, .null) := by decide +kernel
theorem x_165_14 : Tr sc d 165 (14, [l0, l1, l2, l3], [.int i0], h) Q = Q (some (.int i0), h) := t_ret k_165_14 (by rw [r_165]; rfl)
theorem k_165_15 : lk 165 15 = some (.iload_n 2, 16, 2, 0, .null) := by decide +kernel
theorem x_165_15 : Tr sc d 165 (15, [l0, l1, some (.int x), l3], [], h) Q = Tr sc d 165 (16, [l0, l1, some (.int x), l3], [.int x], h) Q := t_iload_n k_165_15 rfl
theorem k_165_16 : lk 165 16 = some (.ifCond .ge 9, 19, 25, 0, .null) := by decide +kernel
theorem x_165_16 : Tr sc d 165 (16, [l0, l1, l2, l3], [.int i0], h) Q = if 0 ≤ i0 then Tr sc d 165 (25, [l0, l1, l2, l3], [], h) Q else Tr sc d 165 (19, [l0, l1, l2, l3], [], h) Q := t_if k_165_16 rfl
theorem k_165_19 : lk 165 19 = some (.aload_n 0, 20, 0, 0, .null) := by decide +kernel
theorem x_165_19 : Tr sc d 165 (19, [some (.ref xk), l1, l2, l3], [], h) Q = Tr sc d 165 (20, [some (.ref xk), l1, l2, l3], [.ref xk], h) Q := t_aload_n k_165_19 rfl
theorem k_165_20 : lk 165 20 = some (.iconst 5, 21, 0, 0, .int 5) := by decide +kernel
theorem x_165_20 : Tr sc d 165 (20, [l0, l1, l2, l3], [.ref k0], h) Q = Tr sc d 165 (21, [l0, l1, l2, l3], [.int 5, .ref k0], h) Q := t_go k_165_20 rfl
theorem k_165_21 : lk 165 21 = some (.invokevirtual 152, 24, 158, 1, .null) := by decide +kernel
theorem x_165_21 : Tr sc (d + 1) 165 (21, [l0, l1, l2, l3], [.int i1, .ref k0], h) Q = (okp h k0 10 = true ∧ Tr sc d 158 (ent0 158 [.ref k0, .int i1] h) (fun z => Tr sc (d + 1) 165 (24, [l0, l1, l2, l3], z.1.toList ++ [], z.2) Q)) := t_cv (as := [.int i1]) (r := []) k_165_21 rfl rfl (Nat.le_of_ble_eq_true rfl) (Nat.le_of_ble_eq_true rfl) (Nat.le_of_ble_eq_true rfl)
theorem k_165_24 : lk 165 24 = some (.ireturn, 25, 0, 0, .null) := by decide +kernel
theorem x_165_24 : Tr sc d 165 (24, [l0, l1, l2, l3], [.int i0], h) Q = Q (some (.int i0), h) := t_ret k_165_24 (by rw [r_165]; rfl)
theorem k_165_25 : lk 165 25 = some (.aload_n 0, 26, 0, 0, .null) := by decide +kernel
theorem x_165_25 : Tr sc d 165 (25, [some (.ref xk), l1, l2, l3], [], h) Q = Tr sc d 165 (26, [some (.ref xk), l1, l2, l3], [.ref xk], h) Q := t_aload_n k_165_25 rfl
theorem k_165_26 : lk 165 26 = some (.getfield 17, 29, 10, 6, .null) := by decide +kernel
theorem x_165_26 : Tr sc d 165 (26, [l0, l1, l2, l3], [.ref k0], h) Q = (okp h k0 10 = true ∧ ∃ q, hR h k0 6 = some q ∧ Tr sc d 165 (29, [l0, l1, l2, l3], [.ref q], h) Q) := t_getr k_165_26
theorem k_165_29 : lk 165 29 = some (.iload_n 1, 30, 1, 0, .null) := by decide +kernel
theorem x_165_29 : Tr sc d 165 (29, [l0, some (.int x), l2, l3], [.ref k0], h) Q = Tr sc d 165 (30, [l0, some (.int x), l2, l3], [.int x, .ref k0], h) Q := t_iload_n k_165_29 rfl
theorem k_165_30 : lk 165 30 = some (.iload_n 2, 31, 2, 0, .null) := by decide +kernel
theorem x_165_30 : Tr sc d 165 (30, [l0, l1, some (.int x), l3], [.int i1, .ref k0], h) Q = Tr sc d 165 (31, [l0, l1, some (.int x), l3], [.int x, .int i1, .ref k0], h) Q := t_iload_n k_165_30 rfl
theorem k_165_31 : lk 165 31 = some (.iastore, 32, 0, 0, .null) := by decide +kernel
theorem x_165_31 : Tr sc d 165 (31, [l0, l1, l2, l3], [.int i2, .int i1, .ref k0], h) Q = ((okp h k0 11 && inb i1 (LN k0)) = true ∧ Tr sc d 165 (32, [l0, l1, l2, l3], [], (sI h k0 i1.toNatClampNeg i2)) Q) := t_gd k_165_31 rfl
theorem k_165_32 : lk 165 32 = some (.iconst 0, 33, 0, 0, .int 0) := by decide +kernel
theorem x_165_32 : Tr sc d 165 (32, [l0, l1, l2, l3], [], h) Q = Tr sc d 165 (33, [l0, l1, l2, l3], [.int 0], h) Q := t_go k_165_32 rfl
theorem k_165_33 : lk 165 33 = some (.istore_n 3, 34, 3, 0, .null) := by decide +kernel
theorem x_165_33 : Tr sc d 165 (33, [l0, l1, l2, l3], [.int i0], h) Q = Tr sc d 165 (34, [l0, l1, cl2 l2, some (.int i0)], [], h) Q := t_istore_n k_165_33 (Nat.le_of_ble_eq_true rfl)
theorem k_165_34 : lk 165 34 = some (.iload_n 3, 35, 3, 0, .null) := by decide +kernel
theorem x_165_34 : Tr sc d 165 (34, [l0, l1, l2, some (.int x)], [], h) Q = Tr sc d 165 (35, [l0, l1, l2, some (.int x)], [.int x], h) Q := t_iload_n k_165_34 rfl
theorem k_165_35 : lk 165 35 = some (.bipush 40, 37, 0, 0, .int 40) := by decide +kernel
theorem x_165_35 : Tr sc d 165 (35, [l0, l1, l2, l3], [.int i0], h) Q = Tr sc d 165 (37, [l0, l1, l2, l3], [.int 40, .int i0], h) Q := t_go k_165_35 rfl
theorem k_165_37 : lk 165 37 = some (.if_icmp .ge 21, 40, 58, 0, .null) := by decide +kernel
theorem x_165_37 : Tr sc d 165 (37, [l0, l1, l2, l3], [.int i1, .int i0], h) Q = if i1 ≤ i0 then Tr sc d 165 (58, [l0, l1, l2, l3], [], h) Q else Tr sc d 165 (40, [l0, l1, l2, l3], [], h) Q := t_if k_165_37 rfl
theorem k_165_40 : lk 165 40 = some (.aload_n 0, 41, 0, 0, .null) := by decide +kernel
theorem x_165_40 : Tr sc d 165 (40, [some (.ref xk), l1, l2, l3], [], h) Q = Tr sc d 165 (41, [some (.ref xk), l1, l2, l3], [.ref xk], h) Q := t_aload_n k_165_40 rfl
theorem k_165_41 : lk 165 41 = some (.getfield 20, 44, 10, 7, .null) := by decide +kernel
theorem x_165_41 : Tr sc d 165 (41, [l0, l1, l2, l3], [.ref k0], h) Q = (okp h k0 10 = true ∧ ∃ q, hR h k0 7 = some q ∧ Tr sc d 165 (44, [l0, l1, l2, l3], [.ref q], h) Q) := t_getr k_165_41
theorem k_165_44 : lk 165 44 = some (.bipush 40, 46, 0, 0, .int 40) := by decide +kernel
theorem x_165_44 : Tr sc d 165 (44, [l0, l1, l2, l3], [.ref k0], h) Q = Tr sc d 165 (46, [l0, l1, l2, l3], [.int 40, .ref k0], h) Q := t_go k_165_44 rfl
theorem k_165_46 : lk 165 46 = some (.iload_n 1, 47, 1, 0, .null) := by decide +kernel
theorem x_165_46 : Tr sc d 165 (46, [l0, some (.int x), l2, l3], [.int i1, .ref k0], h) Q = Tr sc d 165 (47, [l0, some (.int x), l2, l3], [.int x, .int i1, .ref k0], h) Q := t_iload_n k_165_46 rfl
theorem k_165_47 : lk 165 47 = some (.imul, 48, 0, 0, .null) := by decide +kernel
theorem x_165_47 : Tr sc d 165 (47, [l0, l1, l2, l3], [.int i2, .int i1, .ref k0], h) Q = Tr sc d 165 (48, [l0, l1, l2, l3], [.int (i1 * i2), .ref k0], h) Q := t_go k_165_47 rfl
theorem k_165_48 : lk 165 48 = some (.iload_n 3, 49, 3, 0, .null) := by decide +kernel
theorem x_165_48 : Tr sc d 165 (48, [l0, l1, l2, some (.int x)], [.int i1, .ref k0], h) Q = Tr sc d 165 (49, [l0, l1, l2, some (.int x)], [.int x, .int i1, .ref k0], h) Q := t_iload_n k_165_48 rfl
theorem k_165_49 : lk 165 49 = some (.iadd, 50, 0, 0, .null) := by decide +kernel
theorem x_165_49 : Tr sc d 165 (49, [l0, l1, l2, l3], [.int i2, .int i1, .ref k0], h) Q = Tr sc d 165 (50, [l0, l1, l2, l3], [.int (i1 + i2), .ref k0], h) Q := t_go k_165_49 rfl
theorem k_165_50 : lk 165 50 = some (.iconst 0, 51, 0, 0, .int 0) := by decide +kernel
theorem x_165_50 : Tr sc d 165 (50, [l0, l1, l2, l3], [.int i1, .ref k0], h) Q = Tr sc d 165 (51, [l0, l1, l2, l3], [.int 0, .int i1, .ref k0], h) Q := t_go k_165_50 rfl
theorem k_165_51 : lk 165 51 = some (.iastore, 52, 0, 0, .null) := by decide +kernel
theorem x_165_51 : Tr sc d 165 (51, [l0, l1, l2, l3], [.int i2, .int i1, .ref k0], h) Q = ((okp h k0 11 && inb i1 (LN k0)) = true ∧ Tr sc d 165 (52, [l0, l1, l2, l3], [], (sI h k0 i1.toNatClampNeg i2)) Q) := t_gd k_165_51 rfl
theorem k_165_52 : lk 165 52 = some (.iinc 3 1, 55, 3, 0, .int 1) := by decide +kernel
theorem x_165_52 : Tr sc d 165 (52, [l0, l1, l2, some (.int x)], [], h) Q = Tr sc d 165 (55, [l0, l1, cl2 l2, some (.int (x + 1))], [], h) Q := t_inc k_165_52 rfl (Nat.le_of_ble_eq_true rfl)
theorem k_165_55 : lk 165 55 = some (.goto (-21), 58, 34, 0, .null) := by decide +kernel
theorem x_165_55 : Tr sc d 165 (55, [l0, l1, l2, l3], [], h) Q = Tr sc d 165 (34, [l0, l1, l2, l3], [], h) Q := t_go k_165_55 rfl
theorem k_165_58 : lk 165 58 = some (.iload_n 2, 59, 2, 0, .null) := by decide +kernel
theorem x_165_58 : Tr sc d 165 (58, [l0, l1, some (.int x), l3], [], h) Q = Tr sc d 165 (59, [l0, l1, some (.int x), l3], [.int x], h) Q := t_iload_n k_165_58 rfl
theorem k_165_59 : lk 165 59 = some (.ireturn, 60, 0, 0, .null) := by decide +kernel
theorem x_165_59 : Tr sc d 165 (59, [l0, l1, l2, l3], [.int i0], h) Q = Q (some (.int i0), h) := t_ret k_165_59 (by rw [r_165]; rfl)
theorem e_165 : Tr sc d 165 (ent0 165 [.ref k0, .int i1, .int i2] h) Q = Tr sc d 165 (0, [some (.ref k0), some (.int i1), some (.int i2), none], [], h) Q := by
  have e : mL 165 = 4 := by decide +kernel
  unfold ent0
  rw [e]
  rfl
theorem r_166 : mR 166 = some .int := by decide +kernel
theorem k_166_0 : lk 166 0 = some (.aload_n 0, 1, 0, 0, .null) := by decide +kernel
theorem x_166_0 : Tr sc d 166 (0, [some (.ref xk), l1, l2, l3, l4], [], h) Q = Tr sc d 166 (1, [some (.ref xk), l1, l2, l3, l4], [.ref xk], h) Q := t_aload_n k_166_0 rfl
theorem k_166_1 : lk 166 1 = some (.iload_n 1, 2, 1, 0, .null) := by decide +kernel
theorem x_166_1 : Tr sc d 166 (1, [l0, some (.int x), l2, l3, l4], [.ref k0], h) Q = Tr sc d 166 (2, [l0, some (.int x), l2, l3, l4], [.int x, .ref k0], h) Q := t_iload_n k_166_1 rfl
theorem k_166_2 : lk 166 2 = some (.invokevirtual 159, 5, 163, 1, .null) := by decide +kernel
theorem x_166_2 : Tr sc (d + 1) 166 (2, [l0, l1, l2, l3, l4], [.int i1, .ref k0], h) Q = (okp h k0 10 = true ∧ Tr sc d 163 (ent0 163 [.ref k0, .int i1] h) (fun z => Tr sc (d + 1) 166 (5, [l0, l1, l2, l3, l4], z.1.toList ++ [], z.2) Q)) := t_cv (as := [.int i1]) (r := []) k_166_2 rfl rfl (Nat.le_of_ble_eq_true rfl) (Nat.le_of_ble_eq_true rfl) (Nat.le_of_ble_eq_true rfl)
theorem k_166_5 : lk 166 5 = some (.istore 4, 7, 4, 0, .null) := by decide +kernel
theorem x_166_5 : Tr sc d 166 (5, [l0, l1, l2, l3, l4], [.int i0], h) Q = Tr sc d 166 (7, [l0, l1, l2, cl2 l3, some (.int i0)], [], h) Q := t_istore k_166_5 (Nat.le_of_ble_eq_true rfl)
theorem k_166_7 : lk 166 7 = some (.iload 4, 9, 4, 0, .null) := by decide +kernel
theorem x_166_7 : Tr sc d 166 (7, [l0, l1, l2, l3, some (.int x)], [], h) Q = Tr sc d 166 (9, [l0, l1, l2, l3, some (.int x)], [.int x], h) Q := t_iload k_166_7 rfl
theorem k_166_9 : lk 166 9 = some (.ifCond .ge 6, 12, 15, 0, .null) := by decide +kernel
theorem x_166_9 : Tr sc d 166 (9, [l0, l1, l2, l3, l4], [.int i0], h) Q = if 0 ≤ i0 then Tr sc d 166 (15, [l0, l1, l2, l3, l4], [], h) Q else Tr sc d 166 (12, [l0, l1, l2, l3, l4], [], h) Q := t_if k_166_9 rfl
theorem k_166_12 : lk 166 12 = some (.iload 4, 14, 4, 0, .null) := by decide +kernel
theorem x_166_12 : Tr sc d 166 (12, [l0, l1, l2, l3, some (.int x)], [], h) Q = Tr sc d 166 (14, [l0, l1, l2, l3, some (.int x)], [.int x], h) Q := t_iload k_166_12 rfl
theorem k_166_14 : lk 166 14 = some (.ireturn, 15, 0, 0, .null) := by decide +kernel
theorem x_166_14 : Tr sc d 166 (14, [l0, l1, l2, l3, l4], [.int i0], h) Q = Q (some (.int i0), h) := t_ret k_166_14 (by rw [r_166]; rfl)
theorem k_166_15 : lk 166 15 = some (.iload_n 2, 16, 2, 0, .null) := by decide +kernel
theorem x_166_15 : Tr sc d 166 (15, [l0, l1, some (.int x), l3, l4], [], h) Q = Tr sc d 166 (16, [l0, l1, some (.int x), l3, l4], [.int x], h) Q := t_iload_n k_166_15 rfl
theorem k_166_16 : lk 166 16 = some (.iconst 0, 17, 0, 0, .int 0) := by decide +kernel
theorem x_166_16 : Tr sc d 166 (16, [l0, l1, l2, l3, l4], [.int i0], h) Q = Tr sc d 166 (17, [l0, l1, l2, l3, l4], [.int 0, .int i0], h) Q := t_go k_166_16 rfl
theorem k_166_17 : lk 166 17 = some (.aload_n 0, 18, 0, 0, .null) := by decide +kernel
theorem x_166_17 : Tr sc d 166 (17, [some (.ref xk), l1, l2, l3, l4], [.int i1, .int i0], h) Q = Tr sc d 166 (18, [some (.ref xk), l1, l2, l3, l4], [.ref xk, .int i1, .int i0], h) Q := t_aload_n k_166_17 rfl
theorem k_166_18 : lk 166 18 = some (.getfield 17, 21, 10, 6, .null) := by decide +kernel
theorem x_166_18 : Tr sc d 166 (18, [l0, l1, l2, l3, l4], [.ref k2, .int i1, .int i0], h) Q = (okp h k2 10 = true ∧ ∃ q, hR h k2 6 = some q ∧ Tr sc d 166 (21, [l0, l1, l2, l3, l4], [.ref q, .int i1, .int i0], h) Q) := t_getr k_166_18
theorem k_166_21 : lk 166 21 = some (.iload_n 1, 22, 1, 0, .null) := by decide +kernel
theorem x_166_21 : Tr sc d 166 (21, [l0, some (.int x), l2, l3, l4], [.ref k2, .int i1, .int i0], h) Q = Tr sc d 166 (22, [l0, some (.int x), l2, l3, l4], [.int x, .ref k2, .int i1, .int i0], h) Q := t_iload_n k_166_21 rfl
theorem k_166_22 : lk 166 22 = some (.iaload, 23, 0, 0, .null) := by decide +kernel
theorem x_166_22 : Tr sc d 166 (22, [l0, l1, l2, l3, l4], [.int i3, .ref k2, .int i1, .int i0], h) Q = (iOk sc h k2 i3 ∧ Tr sc d 166 (23, [l0, l1, l2, l3, l4], [.int (iRd sc h k2 i3), .int i1, .int i0], h) Q) := t_iald k_166_22
theorem k_166_23 : lk 166 23 = some (.iconst 1, 24, 0, 0, .int 1) := by decide +kernel
theorem x_166_23 : Tr sc d 166 (23, [l0, l1, l2, l3, l4], [.int i2, .int i1, .int i0], h) Q = Tr sc d 166 (24, [l0, l1, l2, l3, l4], [.int 1, .int i2, .int i1, .int i0], h) Q := t_go k_166_23 rfl
theorem k_166_24 : lk 166 24 = some (.isub, 25, 0, 0, .null) := by decide +kernel
theorem x_166_24 : Tr sc d 166 (24, [l0, l1, l2, l3, l4], [.int i3, .int i2, .int i1, .int i0], h) Q = Tr sc d 166 (25, [l0, l1, l2, l3, l4], [.int (i2 - i3), .int i1, .int i0], h) Q := t_go k_166_24 rfl
theorem k_166_25 : lk 166 25 = some (.invokestatic 144, 28, 157, 3, .null) := by decide +kernel
theorem x_166_25 : Tr sc (d + 1) 166 (25, [l0, l1, l2, l3, l4], [.int i2, .int i1, .int i0], h) Q = Tr sc d 157 (ent0 157 [.int i0, .int i1, .int i2] h) (fun z => Tr sc (d + 1) 166 (28, [l0, l1, l2, l3, l4], z.1.toList ++ [], z.2) Q) := t_cs (as := [.int i0, .int i1, .int i2]) (r := []) k_166_25 (by decide) rfl rfl (Nat.le_of_ble_eq_true rfl) (Nat.le_of_ble_eq_true rfl)
theorem k_166_28 : lk 166 28 = some (.ifCond .ne 9, 31, 37, 0, .null) := by decide +kernel
theorem x_166_28 : Tr sc d 166 (28, [l0, l1, l2, l3, l4], [.int i0], h) Q = if i0 = 0 then Tr sc d 166 (31, [l0, l1, l2, l3, l4], [], h) Q else Tr sc d 166 (37, [l0, l1, l2, l3, l4], [], h) Q := t_if k_166_28 rfl
theorem k_166_31 : lk 166 31 = some (.aload_n 0, 32, 0, 0, .null) := by decide +kernel
theorem x_166_31 : Tr sc d 166 (31, [some (.ref xk), l1, l2, l3, l4], [], h) Q = Tr sc d 166 (32, [some (.ref xk), l1, l2, l3, l4], [.ref xk], h) Q := t_aload_n k_166_31 rfl
theorem k_166_32 : lk 166 32 = some (.iconst 2, 33, 0, 0, .int 2) := by decide +kernel
theorem x_166_32 : Tr sc d 166 (32, [l0, l1, l2, l3, l4], [.ref k0], h) Q = Tr sc d 166 (33, [l0, l1, l2, l3, l4], [.int 2, .ref k0], h) Q := t_go k_166_32 rfl
theorem k_166_33 : lk 166 33 = some (.invokevirtual 152, 36, 158, 1, .null) := by decide +kernel
theorem x_166_33 : Tr sc (d + 1) 166 (33, [l0, l1, l2, l3, l4], [.int i1, .ref k0], h) Q = (okp h k0 10 = true ∧ Tr sc d 158 (ent0 158 [.ref k0, .int i1] h) (fun z => Tr sc (d + 1) 166 (36, [l0, l1, l2, l3, l4], z.1.toList ++ [], z.2) Q)) := t_cv (as := [.int i1]) (r := []) k_166_33 rfl rfl (Nat.le_of_ble_eq_true rfl) (Nat.le_of_ble_eq_true rfl) (Nat.le_of_ble_eq_true rfl)
theorem k_166_36 : lk 166 36 = some (.ireturn, 37, 0, 0, .null) := by decide +kernel
theorem x_166_36 : Tr sc d 166 (36, [l0, l1, l2, l3, l4], [.int i0], h) Q = Q (some (.int i0), h) := t_ret k_166_36 (by rw [r_166]; rfl)
theorem k_166_37 : lk 166 37 = some (.aload_n 0, 38, 0, 0, .null) := by decide +kernel
theorem x_166_37 : Tr sc d 166 (37, [some (.ref xk), l1, l2, l3, l4], [], h) Q = Tr sc d 166 (38, [some (.ref xk), l1, l2, l3, l4], [.ref xk], h) Q := t_aload_n k_166_37 rfl
theorem k_166_38 : lk 166 38 = some (.aload_n 0, 39, 0, 0, .null) := by decide +kernel
theorem x_166_38 : Tr sc d 166 (38, [some (.ref xk), l1, l2, l3, l4], [.ref k0], h) Q = Tr sc d 166 (39, [some (.ref xk), l1, l2, l3, l4], [.ref xk, .ref k0], h) Q := t_aload_n k_166_38 rfl
theorem k_166_39 : lk 166 39 = some (.getfield 20, 42, 10, 7, .null) := by decide +kernel
theorem x_166_39 : Tr sc d 166 (39, [l0, l1, l2, l3, l4], [.ref k1, .ref k0], h) Q = (okp h k1 10 = true ∧ ∃ q, hR h k1 7 = some q ∧ Tr sc d 166 (42, [l0, l1, l2, l3, l4], [.ref q, .ref k0], h) Q) := t_getr k_166_39
theorem k_166_42 : lk 166 42 = some (.bipush 40, 44, 0, 0, .int 40) := by decide +kernel
theorem x_166_42 : Tr sc d 166 (42, [l0, l1, l2, l3, l4], [.ref k1, .ref k0], h) Q = Tr sc d 166 (44, [l0, l1, l2, l3, l4], [.int 40, .ref k1, .ref k0], h) Q := t_go k_166_42 rfl
theorem k_166_44 : lk 166 44 = some (.iload_n 1, 45, 1, 0, .null) := by decide +kernel
theorem x_166_44 : Tr sc d 166 (44, [l0, some (.int x), l2, l3, l4], [.int i2, .ref k1, .ref k0], h) Q = Tr sc d 166 (45, [l0, some (.int x), l2, l3, l4], [.int x, .int i2, .ref k1, .ref k0], h) Q := t_iload_n k_166_44 rfl
theorem k_166_45 : lk 166 45 = some (.imul, 46, 0, 0, .null) := by decide +kernel
theorem x_166_45 : Tr sc d 166 (45, [l0, l1, l2, l3, l4], [.int i3, .int i2, .ref k1, .ref k0], h) Q = Tr sc d 166 (46, [l0, l1, l2, l3, l4], [.int (i2 * i3), .ref k1, .ref k0], h) Q := t_go k_166_45 rfl
theorem k_166_46 : lk 166 46 = some (.iload_n 2, 47, 2, 0, .null) := by decide +kernel
theorem x_166_46 : Tr sc d 166 (46, [l0, l1, some (.int x), l3, l4], [.int i2, .ref k1, .ref k0], h) Q = Tr sc d 166 (47, [l0, l1, some (.int x), l3, l4], [.int x, .int i2, .ref k1, .ref k0], h) Q := t_iload_n k_166_46 rfl
theorem k_166_47 : lk 166 47 = some (.iadd, 48, 0, 0, .null) := by decide +kernel
theorem x_166_47 : Tr sc d 166 (47, [l0, l1, l2, l3, l4], [.int i3, .int i2, .ref k1, .ref k0], h) Q = Tr sc d 166 (48, [l0, l1, l2, l3, l4], [.int (i2 + i3), .ref k1, .ref k0], h) Q := t_go k_166_47 rfl
theorem k_166_48 : lk 166 48 = some (.iaload, 49, 0, 0, .null) := by decide +kernel
theorem x_166_48 : Tr sc d 166 (48, [l0, l1, l2, l3, l4], [.int i2, .ref k1, .ref k0], h) Q = (iOk sc h k1 i2 ∧ Tr sc d 166 (49, [l0, l1, l2, l3, l4], [.int (iRd sc h k1 i2), .ref k0], h) Q) := t_iald k_166_48
theorem k_166_49 : lk 166 49 = some (.putfield 138, 52, 10, 2, .int 0) := by decide +kernel
theorem x_166_49 : Tr sc d 166 (49, [l0, l1, l2, l3, l4], [.int i1, .ref k0], h) Q = (okp h k0 10 = true ∧ Tr sc d 166 (52, [l0, l1, l2, l3, l4], [], (sI h k0 2 i1)) Q) := t_gd k_166_49 rfl
theorem k_166_52 : lk 166 52 = some (.aload_n 0, 53, 0, 0, .null) := by decide +kernel
theorem x_166_52 : Tr sc d 166 (52, [some (.ref xk), l1, l2, l3, l4], [], h) Q = Tr sc d 166 (53, [some (.ref xk), l1, l2, l3, l4], [.ref xk], h) Q := t_aload_n k_166_52 rfl
theorem k_166_53 : lk 166 53 = some (.getfield 20, 56, 10, 7, .null) := by decide +kernel
theorem x_166_53 : Tr sc d 166 (53, [l0, l1, l2, l3, l4], [.ref k0], h) Q = (okp h k0 10 = true ∧ ∃ q, hR h k0 7 = some q ∧ Tr sc d 166 (56, [l0, l1, l2, l3, l4], [.ref q], h) Q) := t_getr k_166_53
theorem k_166_56 : lk 166 56 = some (.bipush 40, 58, 0, 0, .int 40) := by decide +kernel
theorem x_166_56 : Tr sc d 166 (56, [l0, l1, l2, l3, l4], [.ref k0], h) Q = Tr sc d 166 (58, [l0, l1, l2, l3, l4], [.int 40, .ref k0], h) Q := t_go k_166_56 rfl
theorem k_166_58 : lk 166 58 = some (.iload_n 1, 59, 1, 0, .null) := by decide +kernel
theorem x_166_58 : Tr sc d 166 (58, [l0, some (.int x), l2, l3, l4], [.int i1, .ref k0], h) Q = Tr sc d 166 (59, [l0, some (.int x), l2, l3, l4], [.int x, .int i1, .ref k0], h) Q := t_iload_n k_166_58 rfl
theorem k_166_59 : lk 166 59 = some (.imul, 60, 0, 0, .null) := by decide +kernel
theorem x_166_59 : Tr sc d 166 (59, [l0, l1, l2, l3, l4], [.int i2, .int i1, .ref k0], h) Q = Tr sc d 166 (60, [l0, l1, l2, l3, l4], [.int (i1 * i2), .ref k0], h) Q := t_go k_166_59 rfl
theorem k_166_60 : lk 166 60 = some (.iload_n 2, 61, 2, 0, .null) := by decide +kernel
theorem x_166_60 : Tr sc d 166 (60, [l0, l1, some (.int x), l3, l4], [.int i1, .ref k0], h) Q = Tr sc d 166 (61, [l0, l1, some (.int x), l3, l4], [.int x, .int i1, .ref k0], h) Q := t_iload_n k_166_60 rfl
theorem k_166_61 : lk 166 61 = some (.iadd, 62, 0, 0, .null) := by decide +kernel
theorem x_166_61 : Tr sc d 166 (61, [l0, l1, l2, l3, l4], [.int i2, .int i1, .ref k0], h) Q = Tr sc d 166 (62, [l0, l1, l2, l3, l4], [.int (i1 + i2), .ref k0], h) Q := t_go k_166_61 rfl
theorem k_166_62 : lk 166 62 = some (.iload_n 3, 63, 3, 0, .null) := by decide +kernel
theorem x_166_62 : Tr sc d 166 (62, [l0, l1, l2, some (.int x), l4], [.int i1, .ref k0], h) Q = Tr sc d 166 (63, [l0, l1, l2, some (.int x), l4], [.int x, .int i1, .ref k0], h) Q := t_iload_n k_166_62 rfl
theorem k_166_63 : lk 166 63 = some (.iastore, 64, 0, 0, .null) := by decide +kernel
theorem x_166_63 : Tr sc d 166 (63, [l0, l1, l2, l3, l4], [.int i2, .int i1, .ref k0], h) Q = ((okp h k0 11 && inb i1 (LN k0)) = true ∧ Tr sc d 166 (64, [l0, l1, l2, l3, l4], [], (sI h k0 i1.toNatClampNeg i2)) Q) := t_gd k_166_63 rfl
theorem k_166_64 : lk 166 64 = some (.iconst 1, 65, 0, 0, .int 1) := by decide +kernel
theorem x_166_64 : Tr sc d 166 (64, [l0, l1, l2, l3, l4], [], h) Q = Tr sc d 166 (65, [l0, l1, l2, l3, l4], [.int 1], h) Q := t_go k_166_64 rfl
theorem k_166_65 : lk 166 65 = some (.ireturn, 66, 0, 0, .null) := by decide +kernel
theorem x_166_65 : Tr sc d 166 (65, [l0, l1, l2, l3, l4], [.int i0], h) Q = Q (some (.int i0), h) := t_ret k_166_65 (by rw [r_166]; rfl)
theorem e_166 : Tr sc d 166 (ent0 166 [.ref k0, .int i1, .int i2, .int i3] h) Q = Tr sc d 166 (0, [some (.ref k0), some (.int i1), some (.int i2), some (.int i3), none], [], h) Q := by
  have e : mL 166 = 5 := by decide +kernel
  unfold ent0
  rw [e]
  rfl
theorem r_167 : mR 167 = some .int := by decide +kernel
theorem k_167_0 : lk 167 0 = some (.aload_n 0, 1, 0, 0, .null) := by decide +kernel
theorem x_167_0 : Tr sc d 167 (0, [some (.ref xk), l1, l2], [], h) Q = Tr sc d 167 (1, [some (.ref xk), l1, l2], [.ref xk], h) Q := t_aload_n k_167_0 rfl
theorem k_167_1 : lk 167 1 = some (.iload_n 1, 2, 1, 0, .null) := by decide +kernel
theorem x_167_1 : Tr sc d 167 (1, [l0, some (.int x), l2], [.ref k0], h) Q = Tr sc d 167 (2, [l0, some (.int x), l2], [.int x, .ref k0], h) Q := t_iload_n k_167_1 rfl
theorem k_167_2 : lk 167 2 = some (.invokevirtual 159, 5, 163, 1, .null) := by decide +kernel
theorem x_167_2 : Tr sc (d + 1) 167 (2, [l0, l1, l2], [.int i1, .ref k0], h) Q = (okp h k0 10 = true ∧ Tr sc d 163 (ent0 163 [.ref k0, .int i1] h) (fun z => Tr sc (d + 1) 167 (5, [l0, l1, l2], z.1.toList ++ [], z.2) Q)) := t_cv (as := [.int i1]) (r := []) k_167_2 rfl rfl (Nat.le_of_ble_eq_true rfl) (Nat.le_of_ble_eq_true rfl) (Nat.le_of_ble_eq_true rfl)
theorem k_167_5 : lk 167 5 = some (.istore_n 2, 6, 2, 0, .null) := by decide +kernel
theorem x_167_5 : Tr sc d 167 (5, [l0, l1, l2], [.int i0], h) Q = Tr sc d 167 (6, [l0, cl2 l1, some (.int i0)], [], h) Q := t_istore_n k_167_5 (Nat.le_of_ble_eq_true rfl)
theorem k_167_6 : lk 167 6 = some (.iload_n 2, 7, 2, 0, .null) := by decide +kernel
theorem x_167_6 : Tr sc d 167 (6, [l0, l1, some (.int x)], [], h) Q = Tr sc d 167 (7, [l0, l1, some (.int x)], [.int x], h) Q := t_iload_n k_167_6 rfl
theorem k_167_7 : lk 167 7 = some (.ifCond .ge 5, 10, 12, 0, .null) := by decide +kernel
theorem x_167_7 : Tr sc d 167 (7, [l0, l1, l2], [.int i0], h) Q = if 0 ≤ i0 then Tr sc d 167 (12, [l0, l1, l2], [], h) Q else Tr sc d 167 (10, [l0, l1, l2], [], h) Q := t_if k_167_7 rfl
theorem k_167_10 : lk 167 10 = some (.iload_n 2, 11, 2, 0, .null) := by decide +kernel
theorem x_167_10 : Tr sc d 167 (10, [l0, l1, some (.int x)], [], h) Q = Tr sc d 167 (11, [l0, l1, some (.int x)], [.int x], h) Q := t_iload_n k_167_10 rfl
theorem k_167_11 : lk 167 11 = some (.ireturn, 12, 0, 0, .null) := by decide +kernel
theorem x_167_11 : Tr sc d 167 (11, [l0, l1, l2], [.int i0], h) Q = Q (some (.int i0), h) := t_ret k_167_11 (by rw [r_167]; rfl)
theorem k_167_12 : lk 167 12 = some (.aload_n 0, 13, 0, 0, .null) := by decide +kernel
theorem x_167_12 : Tr sc d 167 (12, [some (.ref xk), l1, l2], [], h) Q = Tr sc d 167 (13, [some (.ref xk), l1, l2], [.ref xk], h) Q := t_aload_n k_167_12 rfl
theorem k_167_13 : lk 167 13 = some (.getfield 17, 16, 10, 6, .null) := by decide +kernel
theorem x_167_13 : Tr sc d 167 (13, [l0, l1, l2], [.ref k0], h) Q = (okp h k0 10 = true ∧ ∃ q, hR h k0 6 = some q ∧ Tr sc d 167 (16, [l0, l1, l2], [.ref q], h) Q) := t_getr k_167_13
theorem k_167_16 : lk 167 16 = some (.iload_n 1, 17, 1, 0, .null) := by decide +kernel
theorem x_167_16 : Tr sc d 167 (16, [l0, some (.int x), l2], [.ref k0], h) Q = Tr sc d 167 (17, [l0, some (.int x), l2], [.int x, .ref k0], h) Q := t_iload_n k_167_16 rfl
theorem k_167_17 : lk 167 17 = some (.bipush (-9), 19, 0, 0, .int (-9)) := by decide +kernel
theorem x_167_17 : Tr sc d 167 (17, [l0, l1, l2], [.int i1, .ref k0], h) Q = Tr sc d 167 (19, [l0, l1, l2], [.int (-9), .int i1, .ref k0], h) Q := t_go k_167_17 rfl
theorem k_167_19 : lk 167 19 = some (.iastore, 20, 0, 0, .null) := by decide +kernel
theorem x_167_19 : Tr sc d 167 (19, [l0, l1, l2], [.int i2, .int i1, .ref k0], h) Q = ((okp h k0 11 && inb i1 (LN k0)) = true ∧ Tr sc d 167 (20, [l0, l1, l2], [], (sI h k0 i1.toNatClampNeg i2)) Q) := t_gd k_167_19 rfl
theorem k_167_20 : lk 167 20 = some (.iconst 1, 21, 0, 0, .int 1) := by decide +kernel
theorem x_167_20 : Tr sc d 167 (20, [l0, l1, l2], [], h) Q = Tr sc d 167 (21, [l0, l1, l2], [.int 1], h) Q := t_go k_167_20 rfl
theorem k_167_21 : lk 167 21 = some (.ireturn, 22, 0, 0, .null) := by decide +kernel
theorem x_167_21 : Tr sc d 167 (21, [l0, l1, l2], [.int i0], h) Q = Q (some (.int i0), h) := t_ret k_167_21 (by rw [r_167]; rfl)
theorem e_167 : Tr sc d 167 (ent0 167 [.ref k0, .int i1] h) Q = Tr sc d 167 (0, [some (.ref k0), some (.int i1), none], [], h) Q := by
  have e : mL 167 = 3 := by decide +kernel
  unfold ent0
  rw [e]
  rfl
theorem r_168 : mR 168 = some .int := by decide +kernel
theorem k_168_0 : lk 168 0 = some (.iload_n 1, 1, 1, 0, .null) := by decide +kernel
theorem x_168_0 : Tr sc d 168 (0, [l0, some (.int x), l2, l3, l4, l5, l6], [], h) Q = Tr sc d 168 (1, [l0, some (.int x), l2, l3, l4, l5, l6], [.int x], h) Q := t_iload_n k_168_0 rfl
theorem k_168_1 : lk 168 1 = some (.invokestatic 148, 4, 161, 1, .null) := by decide +kernel
theorem x_168_1 : Tr sc (d + 1) 168 (1, [l0, l1, l2, l3, l4, l5, l6], [.int i0], h) Q = Tr sc d 161 (ent0 161 [.int i0] h) (fun z => Tr sc (d + 1) 168 (4, [l0, l1, l2, l3, l4, l5, l6], z.1.toList ++ [], z.2) Q) := t_cs (as := [.int i0]) (r := []) k_168_1 (by decide) rfl rfl (Nat.le_of_ble_eq_true rfl) (Nat.le_of_ble_eq_true rfl)
theorem k_168_4 : lk 168 4 = some (.ifCond .eq 10, 7, 14, 0, .null) := by decide +kernel
theorem x_168_4 : Tr sc d 168 (4, [l0, l1, l2, l3, l4, l5, l6], [.int i0], h) Q = if i0 = 0 then Tr sc d 168 (14, [l0, l1, l2, l3, l4, l5, l6], [], h) Q else Tr sc d 168 (7, [l0, l1, l2, l3, l4, l5, l6], [], h) Q := t_if k_168_4 rfl
theorem k_168_7 : lk 168 7 = some (.iload_n 3, 8, 3, 0, .null) := by decide +kernel
theorem x_168_7 : Tr sc d 168 (7, [l0, l1, l2, some (.int x), l4, l5, l6], [], h) Q = Tr sc d 168 (8, [l0, l1, l2, some (.int x), l4, l5, l6], [.int x], h) Q := t_iload_n k_168_7 rfl
theorem k_168_8 : lk 168 8 = some (.invokestatic 148, 11, 161, 1, .null) := by decide +kernel
theorem x_168_8 : Tr sc (d + 1) 168 (8, [l0, l1, l2, l3, l4, l5, l6], [.int i0], h) Q = Tr sc d 161 (ent0 161 [.int i0] h) (fun z => Tr sc (d + 1) 168 (11, [l0, l1, l2, l3, l4, l5, l6], z.1.toList ++ [], z.2) Q) := t_cs (as := [.int i0]) (r := []) k_168_8 (by decide) rfl rfl (Nat.le_of_ble_eq_true rfl) (Nat.le_of_ble_eq_true rfl)
theorem k_168_11 : lk 168 11 = some (.ifCond .ne 5, 14, 16, 0, .null) := by decide +kernel
theorem x_168_11 : Tr sc d 168 (11, [l0, l1, l2, l3, l4, l5, l6], [.int i0], h) Q = if i0 = 0 then Tr sc d 168 (14, [l0, l1, l2, l3, l4, l5, l6], [], h) Q else Tr sc d 168 (16, [l0, l1, l2, l3, l4, l5, l6], [], h) Q := t_if k_168_11 rfl
theorem k_168_14 : lk 168 14 = some (.iconst (-1), 15, 0, 0, .int (-1)) := by decide +kernel
theorem x_168_14 : Tr sc d 168 (14, [l0, l1, l2, l3, l4, l5, l6], [], h) Q = Tr sc d 168 (15, [l0, l1, l2, l3, l4, l5, l6], [.int (-1)], h) Q := t_go k_168_14 rfl
theorem k_168_15 : lk 168 15 = some (.ireturn, 16, 0, 0, .null) := by decide +kernel
theorem x_168_15 : Tr sc d 168 (15, [l0, l1, l2, l3, l4, l5, l6], [.int i0], h) Q = Q (some (.int i0), h) := t_ret k_168_15 (by rw [r_168]; rfl)
theorem k_168_16 : lk 168 16 = some (.iload 5, 18, 5, 0, .null) := by decide +kernel
theorem x_168_16 : Tr sc d 168 (16, [l0, l1, l2, l3, l4, some (.int x), l6], [], h) Q = Tr sc d 168 (18, [l0, l1, l2, l3, l4, some (.int x), l6], [.int x], h) Q := t_iload k_168_16 rfl
theorem k_168_18 : lk 168 18 = some (.ifCond .ge 9, 21, 27, 0, .null) := by decide +kernel
theorem x_168_18 : Tr sc d 168 (18, [l0, l1, l2, l3, l4, l5, l6], [.int i0], h) Q = if 0 ≤ i0 then Tr sc d 168 (27, [l0, l1, l2, l3, l4, l5, l6], [], h) Q else Tr sc d 168 (21, [l0, l1, l2, l3, l4, l5, l6], [], h) Q := t_if k_168_18 rfl
theorem k_168_21 : lk 168 21 = some (.aload_n 0, 22, 0, 0, .null) := by decide +kernel
theorem x_168_21 : Tr sc d 168 (21, [some (.ref xk), l1, l2, l3, l4, l5, l6], [], h) Q = Tr sc d 168 (22, [some (.ref xk), l1, l2, l3, l4, l5, l6], [.ref xk], h) Q := t_aload_n k_168_21 rfl
theorem k_168_22 : lk 168 22 = some (.iconst 5, 23, 0, 0, .int 5) := by decide +kernel
theorem x_168_22 : Tr sc d 168 (22, [l0, l1, l2, l3, l4, l5, l6], [.ref k0], h) Q = Tr sc d 168 (23, [l0, l1, l2, l3, l4, l5, l6], [.int 5, .ref k0], h) Q := t_go k_168_22 rfl
theorem k_168_23 : lk 168 23 = some (.invokevirtual 152, 26, 158, 1, .null) := by decide +kernel
theorem x_168_23 : Tr sc (d + 1) 168 (23, [l0, l1, l2, l3, l4, l5, l6], [.int i1, .ref k0], h) Q = (okp h k0 10 = true ∧ Tr sc d 158 (ent0 158 [.ref k0, .int i1] h) (fun z => Tr sc (d + 1) 168 (26, [l0, l1, l2, l3, l4, l5, l6], z.1.toList ++ [], z.2) Q)) := t_cv (as := [.int i1]) (r := []) k_168_23 rfl rfl (Nat.le_of_ble_eq_true rfl) (Nat.le_of_ble_eq_true rfl) (Nat.le_of_ble_eq_true rfl)
theorem k_168_26 : lk 168 26 = some (.ireturn, 27, 0, 0, .null) := by decide +kernel
theorem x_168_26 : Tr sc d 168 (26, [l0, l1, l2, l3, l4, l5, l6], [.int i0], h) Q = Q (some (.int i0), h) := t_ret k_168_26 (by rw [r_168]; rfl)
theorem k_168_27 : lk 168 27 = some (.aload_n 0, 28, 0, 0, .null) := by decide +kernel
theorem x_168_27 : Tr sc d 168 (27, [some (.ref xk), l1, l2, l3, l4, l5, l6], [], h) Q = Tr sc d 168 (28, [some (.ref xk), l1, l2, l3, l4, l5, l6], [.ref xk], h) Q := t_aload_n k_168_27 rfl
theorem k_168_28 : lk 168 28 = some (.getfield 17, 31, 10, 6, .null) := by decide +kernel
theorem x_168_28 : Tr sc d 168 (28, [l0, l1, l2, l3, l4, l5, l6], [.ref k0], h) Q = (okp h k0 10 = true ∧ ∃ q, hR h k0 6 = some q ∧ Tr sc d 168 (31, [l0, l1, l2, l3, l4, l5, l6], [.ref q], h) Q) := t_getr k_168_28
theorem k_168_31 : lk 168 31 = some (.iload_n 1, 32, 1, 0, .null) := by decide +kernel
theorem x_168_31 : Tr sc d 168 (31, [l0, some (.int x), l2, l3, l4, l5, l6], [.ref k0], h) Q = Tr sc d 168 (32, [l0, some (.int x), l2, l3, l4, l5, l6], [.int x, .ref k0], h) Q := t_iload_n k_168_31 rfl
theorem k_168_32 : lk 168 32 = some (.iaload, 33, 0, 0, .null) := by decide +kernel
theorem x_168_32 : Tr sc d 168 (32, [l0, l1, l2, l3, l4, l5, l6], [.int i1, .ref k0], h) Q = (iOk sc h k0 i1 ∧ Tr sc d 168 (33, [l0, l1, l2, l3, l4, l5, l6], [.int (iRd sc h k0 i1)], h) Q) := t_iald k_168_32
theorem k_168_33 : lk 168 33 = some (.ifCond .lt 12, 36, 45, 0, .null) := by decide +kernel
theorem x_168_33 : Tr sc d 168 (33, [l0, l1, l2, l3, l4, l5, l6], [.int i0], h) Q = if i0 < 0 then Tr sc d 168 (45, [l0, l1, l2, l3, l4, l5, l6], [], h) Q else Tr sc d 168 (36, [l0, l1, l2, l3, l4, l5, l6], [], h) Q := t_if k_168_33 rfl
theorem k_168_36 : lk 168 36 = some (.aload_n 0, 37, 0, 0, .null) := by decide +kernel
theorem x_168_36 : Tr sc d 168 (36, [some (.ref xk), l1, l2, l3, l4, l5, l6], [], h) Q = Tr sc d 168 (37, [some (.ref xk), l1, l2, l3, l4, l5, l6], [.ref xk], h) Q := t_aload_n k_168_36 rfl
theorem k_168_37 : lk 168 37 = some (.getfield 17, 40, 10, 6, .null) := by decide +kernel
theorem x_168_37 : Tr sc d 168 (37, [l0, l1, l2, l3, l4, l5, l6], [.ref k0], h) Q = (okp h k0 10 = true ∧ ∃ q, hR h k0 6 = some q ∧ Tr sc d 168 (40, [l0, l1, l2, l3, l4, l5, l6], [.ref q], h) Q) := t_getr k_168_37
theorem k_168_40 : lk 168 40 = some (.iload_n 3, 41, 3, 0, .null) := by decide +kernel
theorem x_168_40 : Tr sc d 168 (40, [l0, l1, l2, some (.int x), l4, l5, l6], [.ref k0], h) Q = Tr sc d 168 (41, [l0, l1, l2, some (.int x), l4, l5, l6], [.int x, .ref k0], h) Q := t_iload_n k_168_40 rfl
theorem k_168_41 : lk 168 41 = some (.iaload, 42, 0, 0, .null) := by decide +kernel
theorem x_168_41 : Tr sc d 168 (41, [l0, l1, l2, l3, l4, l5, l6], [.int i1, .ref k0], h) Q = (iOk sc h k0 i1 ∧ Tr sc d 168 (42, [l0, l1, l2, l3, l4, l5, l6], [.int (iRd sc h k0 i1)], h) Q) := t_iald k_168_41
theorem k_168_42 : lk 168 42 = some (.ifCond .ge 9, 45, 51, 0, .null) := by decide +kernel
theorem x_168_42 : Tr sc d 168 (42, [l0, l1, l2, l3, l4, l5, l6], [.int i0], h) Q = if 0 ≤ i0 then Tr sc d 168 (51, [l0, l1, l2, l3, l4, l5, l6], [], h) Q else Tr sc d 168 (45, [l0, l1, l2, l3, l4, l5, l6], [], h) Q := t_if k_168_42 rfl
theorem k_168_45 : lk 168 45 = some (.aload_n 0, 46, 0, 0, .null) := by decide +kernel
theorem x_168_45 : Tr sc d 168 (45, [some (.ref xk), l1, l2, l3, l4, l5, l6], [], h) Q = Tr sc d 168 (46, [some (.ref xk), l1, l2, l3, l4, l5, l6], [.ref xk], h) Q := t_aload_n k_168_45 rfl
theorem k_168_46 : lk 168 46 = some (.iconst 1, 47, 0, 0, .int 1) := by decide +kernel
theorem x_168_46 : Tr sc d 168 (46, [l0, l1, l2, l3, l4, l5, l6], [.ref k0], h) Q = Tr sc d 168 (47, [l0, l1, l2, l3, l4, l5, l6], [.int 1, .ref k0], h) Q := t_go k_168_46 rfl
theorem k_168_47 : lk 168 47 = some (.invokevirtual 152, 50, 158, 1, .null) := by decide +kernel
theorem x_168_47 : Tr sc (d + 1) 168 (47, [l0, l1, l2, l3, l4, l5, l6], [.int i1, .ref k0], h) Q = (okp h k0 10 = true ∧ Tr sc d 158 (ent0 158 [.ref k0, .int i1] h) (fun z => Tr sc (d + 1) 168 (50, [l0, l1, l2, l3, l4, l5, l6], z.1.toList ++ [], z.2) Q)) := t_cv (as := [.int i1]) (r := []) k_168_47 rfl rfl (Nat.le_of_ble_eq_true rfl) (Nat.le_of_ble_eq_true rfl) (Nat.le_of_ble_eq_true rfl)
theorem k_168_50 : lk 168 50 = some (.ireturn, 51, 0, 0, .null) := by decide +kernel
theorem x_168_50 : Tr sc d 168 (50, [l0, l1, l2, l3, l4, l5, l6], [.int i0], h) Q = Q (some (.int i0), h) := t_ret k_168_50 (by rw [r_168]; rfl)
theorem k_168_51 : lk 168 51 = some (.iload_n 2, 52, 2, 0, .null) := by decide +kernel
theorem x_168_51 : Tr sc d 168 (51, [l0, l1, some (.int x), l3, l4, l5, l6], [], h) Q = Tr sc d 168 (52, [l0, l1, some (.int x), l3, l4, l5, l6], [.int x], h) Q := t_iload_n k_168_51 rfl
theorem k_168_52 : lk 168 52 = some (.ifCond .lt 43, 55, 95, 0, .null) := by decide +kernel
theorem x_168_52 : Tr sc d 168 (52, [l0, l1, l2, l3, l4, l5, l6], [.int i0], h) Q = if i0 < 0 then Tr sc d 168 (95, [l0, l1, l2, l3, l4, l5, l6], [], h) Q else Tr sc d 168 (55, [l0, l1, l2, l3, l4, l5, l6], [], h) Q := t_if k_168_52 rfl
theorem k_168_55 : lk 168 55 = some (.iload 4, 57, 4, 0, .null) := by decide +kernel
theorem x_168_55 : Tr sc d 168 (55, [l0, l1, l2, l3, some (.int x), l5, l6], [], h) Q = Tr sc d 168 (57, [l0, l1, l2, l3, some (.int x), l5, l6], [.int x], h) Q := t_iload k_168_55 rfl
theorem k_168_57 : lk 168 57 = some (.ifCond .lt 38, 60, 95, 0, .null) := by decide +kernel
theorem x_168_57 : Tr sc d 168 (57, [l0, l1, l2, l3, l4, l5, l6], [.int i0], h) Q = if i0 < 0 then Tr sc d 168 (95, [l0, l1, l2, l3, l4, l5, l6], [], h) Q else Tr sc d 168 (60, [l0, l1, l2, l3, l4, l5, l6], [], h) Q := t_if k_168_57 rfl
theorem k_168_60 : lk 168 60 = some (.iload_n 2, 61, 2, 0, .null) := by decide +kernel
theorem x_168_60 : Tr sc d 168 (60, [l0, l1, some (.int x), l3, l4, l5, l6], [], h) Q = Tr sc d 168 (61, [l0, l1, some (.int x), l3, l4, l5, l6], [.int x], h) Q := t_iload_n k_168_60 rfl
theorem k_168_61 : lk 168 61 = some (.i2l, 62, 0, 0, .null) := by decide +kernel
theorem x_168_61 : Tr sc d 168 (61, [l0, l1, l2, l3, l4, l5, l6], [.int i0], h) Q = Tr sc d 168 (62, [l0, l1, l2, l3, l4, l5, l6], [.long i0.toInt64], h) Q := t_go k_168_61 rfl
theorem k_168_62 : lk 168 62 = some (.iload 5, 64, 5, 0, .null) := by decide +kernel
theorem x_168_62 : Tr sc d 168 (62, [l0, l1, l2, l3, l4, some (.int x), l6], [.long j0], h) Q = Tr sc d 168 (64, [l0, l1, l2, l3, l4, some (.int x), l6], [.int x, .long j0], h) Q := t_iload k_168_62 rfl
theorem k_168_64 : lk 168 64 = some (.i2l, 65, 0, 0, .null) := by decide +kernel
theorem x_168_64 : Tr sc d 168 (64, [l0, l1, l2, l3, l4, l5, l6], [.int i1, .long j0], h) Q = Tr sc d 168 (65, [l0, l1, l2, l3, l4, l5, l6], [.long i1.toInt64, .long j0], h) Q := t_go k_168_64 rfl
theorem k_168_65 : lk 168 65 = some (.ladd, 66, 0, 0, .null) := by decide +kernel
theorem x_168_65 : Tr sc d 168 (65, [l0, l1, l2, l3, l4, l5, l6], [.long j1, .long j0], h) Q = Tr sc d 168 (66, [l0, l1, l2, l3, l4, l5, l6], [.long (j0 + j1)], h) Q := t_go k_168_65 rfl
theorem k_168_66 : lk 168 66 = some (.aload_n 0, 67, 0, 0, .null) := by decide +kernel
theorem x_168_66 : Tr sc d 168 (66, [some (.ref xk), l1, l2, l3, l4, l5, l6], [.long j0], h) Q = Tr sc d 168 (67, [some (.ref xk), l1, l2, l3, l4, l5, l6], [.ref xk, .long j0], h) Q := t_aload_n k_168_66 rfl
theorem k_168_67 : lk 168 67 = some (.getfield 17, 70, 10, 6, .null) := by decide +kernel
theorem x_168_67 : Tr sc d 168 (67, [l0, l1, l2, l3, l4, l5, l6], [.ref k1, .long j0], h) Q = (okp h k1 10 = true ∧ ∃ q, hR h k1 6 = some q ∧ Tr sc d 168 (70, [l0, l1, l2, l3, l4, l5, l6], [.ref q, .long j0], h) Q) := t_getr k_168_67
theorem k_168_70 : lk 168 70 = some (.iload_n 1, 71, 1, 0, .null) := by decide +kernel
theorem x_168_70 : Tr sc d 168 (70, [l0, some (.int x), l2, l3, l4, l5, l6], [.ref k1, .long j0], h) Q = Tr sc d 168 (71, [l0, some (.int x), l2, l3, l4, l5, l6], [.int x, .ref k1, .long j0], h) Q := t_iload_n k_168_70 rfl
theorem k_168_71 : lk 168 71 = some (.iaload, 72, 0, 0, .null) := by decide +kernel
theorem x_168_71 : Tr sc d 168 (71, [l0, l1, l2, l3, l4, l5, l6], [.int i2, .ref k1, .long j0], h) Q = (iOk sc h k1 i2 ∧ Tr sc d 168 (72, [l0, l1, l2, l3, l4, l5, l6], [.int (iRd sc h k1 i2), .long j0], h) Q) := t_iald k_168_71
theorem k_168_72 : lk 168 72 = some (.i2l, 73, 0, 0, .null) := by decide +kernel
theorem x_168_72 : Tr sc d 168 (72, [l0, l1, l2, l3, l4, l5, l6], [.int i1, .long j0], h) Q = Tr sc d 168 (73, [l0, l1, l2, l3, l4, l5, l6], [.long i1.toInt64, .long j0], h) Q := t_go k_168_72 rfl
theorem k_168_73 : lk 168 73 = some (.lcmp, 74, 0, 0, .null) := by decide +kernel
theorem x_168_73 : Tr sc d 168 (73, [l0, l1, l2, l3, l4, l5, l6], [.long j1, .long j0], h) Q = Tr sc d 168 (74, [l0, l1, l2, l3, l4, l5, l6], [.int (lg_cmp j0 j1)], h) Q := t_go k_168_73 rfl
theorem k_168_74 : lk 168 74 = some (.ifCond .gt 21, 77, 95, 0, .null) := by decide +kernel
theorem x_168_74 : Tr sc d 168 (74, [l0, l1, l2, l3, l4, l5, l6], [.int i0], h) Q = if 0 < i0 then Tr sc d 168 (95, [l0, l1, l2, l3, l4, l5, l6], [], h) Q else Tr sc d 168 (77, [l0, l1, l2, l3, l4, l5, l6], [], h) Q := t_if k_168_74 rfl
theorem k_168_77 : lk 168 77 = some (.iload 4, 79, 4, 0, .null) := by decide +kernel
theorem x_168_77 : Tr sc d 168 (77, [l0, l1, l2, l3, some (.int x), l5, l6], [], h) Q = Tr sc d 168 (79, [l0, l1, l2, l3, some (.int x), l5, l6], [.int x], h) Q := t_iload k_168_77 rfl
theorem k_168_79 : lk 168 79 = some (.i2l, 80, 0, 0, .null) := by decide +kernel
theorem x_168_79 : Tr sc d 168 (79, [l0, l1, l2, l3, l4, l5, l6], [.int i0], h) Q = Tr sc d 168 (80, [l0, l1, l2, l3, l4, l5, l6], [.long i0.toInt64], h) Q := t_go k_168_79 rfl
theorem k_168_80 : lk 168 80 = some (.iload 5, 82, 5, 0, .null) := by decide +kernel
theorem x_168_80 : Tr sc d 168 (80, [l0, l1, l2, l3, l4, some (.int x), l6], [.long j0], h) Q = Tr sc d 168 (82, [l0, l1, l2, l3, l4, some (.int x), l6], [.int x, .long j0], h) Q := t_iload k_168_80 rfl
theorem k_168_82 : lk 168 82 = some (.i2l, 83, 0, 0, .null) := by decide +kernel
theorem x_168_82 : Tr sc d 168 (82, [l0, l1, l2, l3, l4, l5, l6], [.int i1, .long j0], h) Q = Tr sc d 168 (83, [l0, l1, l2, l3, l4, l5, l6], [.long i1.toInt64, .long j0], h) Q := t_go k_168_82 rfl
theorem k_168_83 : lk 168 83 = some (.ladd, 84, 0, 0, .null) := by decide +kernel
theorem x_168_83 : Tr sc d 168 (83, [l0, l1, l2, l3, l4, l5, l6], [.long j1, .long j0], h) Q = Tr sc d 168 (84, [l0, l1, l2, l3, l4, l5, l6], [.long (j0 + j1)], h) Q := t_go k_168_83 rfl
theorem k_168_84 : lk 168 84 = some (.aload_n 0, 85, 0, 0, .null) := by decide +kernel
theorem x_168_84 : Tr sc d 168 (84, [some (.ref xk), l1, l2, l3, l4, l5, l6], [.long j0], h) Q = Tr sc d 168 (85, [some (.ref xk), l1, l2, l3, l4, l5, l6], [.ref xk, .long j0], h) Q := t_aload_n k_168_84 rfl
theorem k_168_85 : lk 168 85 = some (.getfield 17, 88, 10, 6, .null) := by decide +kernel
theorem x_168_85 : Tr sc d 168 (85, [l0, l1, l2, l3, l4, l5, l6], [.ref k1, .long j0], h) Q = (okp h k1 10 = true ∧ ∃ q, hR h k1 6 = some q ∧ Tr sc d 168 (88, [l0, l1, l2, l3, l4, l5, l6], [.ref q, .long j0], h) Q) := t_getr k_168_85
theorem k_168_88 : lk 168 88 = some (.iload_n 3, 89, 3, 0, .null) := by decide +kernel
theorem x_168_88 : Tr sc d 168 (88, [l0, l1, l2, some (.int x), l4, l5, l6], [.ref k1, .long j0], h) Q = Tr sc d 168 (89, [l0, l1, l2, some (.int x), l4, l5, l6], [.int x, .ref k1, .long j0], h) Q := t_iload_n k_168_88 rfl
theorem k_168_89 : lk 168 89 = some (.iaload, 90, 0, 0, .null) := by decide +kernel
theorem x_168_89 : Tr sc d 168 (89, [l0, l1, l2, l3, l4, l5, l6], [.int i2, .ref k1, .long j0], h) Q = (iOk sc h k1 i2 ∧ Tr sc d 168 (90, [l0, l1, l2, l3, l4, l5, l6], [.int (iRd sc h k1 i2), .long j0], h) Q) := t_iald k_168_89
theorem k_168_90 : lk 168 90 = some (.i2l, 91, 0, 0, .null) := by decide +kernel
theorem x_168_90 : Tr sc d 168 (90, [l0, l1, l2, l3, l4, l5, l6], [.int i1, .long j0], h) Q = Tr sc d 168 (91, [l0, l1, l2, l3, l4, l5, l6], [.long i1.toInt64, .long j0], h) Q := t_go k_168_90 rfl
theorem k_168_91 : lk 168 91 = some (.lcmp, 92, 0, 0, .null) := by decide +kernel
theorem x_168_91 : Tr sc d 168 (91, [l0, l1, l2, l3, l4, l5, l6], [.long j1, .long j0], h) Q = Tr sc d 168 (92, [l0, l1, l2, l3, l4, l5, l6], [.int (lg_cmp j0 j1)], h) Q := t_go k_168_91 rfl
theorem k_168_92 : lk 168 92 = some (.ifCond .le 9, 95, 101, 0, .null) := by decide +kernel
theorem x_168_92 : Tr sc d 168 (92, [l0, l1, l2, l3, l4, l5, l6], [.int i0], h) Q = if i0 ≤ 0 then Tr sc d 168 (101, [l0, l1, l2, l3, l4, l5, l6], [], h) Q else Tr sc d 168 (95, [l0, l1, l2, l3, l4, l5, l6], [], h) Q := t_if k_168_92 rfl
theorem k_168_95 : lk 168 95 = some (.aload_n 0, 96, 0, 0, .null) := by decide +kernel
theorem x_168_95 : Tr sc d 168 (95, [some (.ref xk), l1, l2, l3, l4, l5, l6], [], h) Q = Tr sc d 168 (96, [some (.ref xk), l1, l2, l3, l4, l5, l6], [.ref xk], h) Q := t_aload_n k_168_95 rfl
theorem k_168_96 : lk 168 96 = some (.iconst 2, 97, 0, 0, .int 2) := by decide +kernel
theorem x_168_96 : Tr sc d 168 (96, [l0, l1, l2, l3, l4, l5, l6], [.ref k0], h) Q = Tr sc d 168 (97, [l0, l1, l2, l3, l4, l5, l6], [.int 2, .ref k0], h) Q := t_go k_168_96 rfl
theorem k_168_97 : lk 168 97 = some (.invokevirtual 152, 100, 158, 1, .null) := by decide +kernel
theorem x_168_97 : Tr sc (d + 1) 168 (97, [l0, l1, l2, l3, l4, l5, l6], [.int i1, .ref k0], h) Q = (okp h k0 10 = true ∧ Tr sc d 158 (ent0 158 [.ref k0, .int i1] h) (fun z => Tr sc (d + 1) 168 (100, [l0, l1, l2, l3, l4, l5, l6], z.1.toList ++ [], z.2) Q)) := t_cv (as := [.int i1]) (r := []) k_168_97 rfl rfl (Nat.le_of_ble_eq_true rfl) (Nat.le_of_ble_eq_true rfl) (Nat.le_of_ble_eq_true rfl)
theorem k_168_100 : lk 168 100 = some (.ireturn, 101, 0, 0, .null) := by decide +kernel
theorem x_168_100 : Tr sc d 168 (100, [l0, l1, l2, l3, l4, l5, l6], [.int i0], h) Q = Q (some (.int i0), h) := t_ret k_168_100 (by rw [r_168]; rfl)
theorem k_168_101 : lk 168 101 = some (.iconst 0, 102, 0, 0, .int 0) := by decide +kernel
theorem x_168_101 : Tr sc d 168 (101, [l0, l1, l2, l3, l4, l5, l6], [], h) Q = Tr sc d 168 (102, [l0, l1, l2, l3, l4, l5, l6], [.int 0], h) Q := t_go k_168_101 rfl
theorem k_168_102 : lk 168 102 = some (.istore 6, 104, 6, 0, .null) := by decide +kernel
theorem x_168_102 : Tr sc d 168 (102, [l0, l1, l2, l3, l4, l5, l6], [.int i0], h) Q = Tr sc d 168 (104, [l0, l1, l2, l3, l4, cl2 l5, some (.int i0)], [], h) Q := t_istore k_168_102 (Nat.le_of_ble_eq_true rfl)
theorem k_168_104 : lk 168 104 = some (.iload 6, 106, 6, 0, .null) := by decide +kernel
theorem x_168_104 : Tr sc d 168 (104, [l0, l1, l2, l3, l4, l5, some (.int x)], [], h) Q = Tr sc d 168 (106, [l0, l1, l2, l3, l4, l5, some (.int x)], [.int x], h) Q := t_iload k_168_104 rfl
theorem k_168_106 : lk 168 106 = some (.iload 5, 108, 5, 0, .null) := by decide +kernel
theorem x_168_106 : Tr sc d 168 (106, [l0, l1, l2, l3, l4, some (.int x), l6], [.int i0], h) Q = Tr sc d 168 (108, [l0, l1, l2, l3, l4, some (.int x), l6], [.int x, .int i0], h) Q := t_iload k_168_106 rfl
theorem k_168_108 : lk 168 108 = some (.if_icmp .ge 30, 111, 138, 0, .null) := by decide +kernel
theorem x_168_108 : Tr sc d 168 (108, [l0, l1, l2, l3, l4, l5, l6], [.int i1, .int i0], h) Q = if i1 ≤ i0 then Tr sc d 168 (138, [l0, l1, l2, l3, l4, l5, l6], [], h) Q else Tr sc d 168 (111, [l0, l1, l2, l3, l4, l5, l6], [], h) Q := t_if k_168_108 rfl
theorem k_168_111 : lk 168 111 = some (.aload_n 0, 112, 0, 0, .null) := by decide +kernel
theorem x_168_111 : Tr sc d 168 (111, [some (.ref xk), l1, l2, l3, l4, l5, l6], [], h) Q = Tr sc d 168 (112, [some (.ref xk), l1, l2, l3, l4, l5, l6], [.ref xk], h) Q := t_aload_n k_168_111 rfl
theorem k_168_112 : lk 168 112 = some (.getfield 23, 115, 10, 8, .null) := by decide +kernel
theorem x_168_112 : Tr sc d 168 (112, [l0, l1, l2, l3, l4, l5, l6], [.ref k0], h) Q = (okp h k0 10 = true ∧ ∃ q, hR h k0 8 = some q ∧ Tr sc d 168 (115, [l0, l1, l2, l3, l4, l5, l6], [.ref q], h) Q) := t_getr k_168_112
theorem k_168_115 : lk 168 115 = some (.iload 6, 117, 6, 0, .null) := by decide +kernel
theorem x_168_115 : Tr sc d 168 (115, [l0, l1, l2, l3, l4, l5, some (.int x)], [.ref k0], h) Q = Tr sc d 168 (117, [l0, l1, l2, l3, l4, l5, some (.int x)], [.int x, .ref k0], h) Q := t_iload k_168_115 rfl
theorem k_168_117 : lk 168 117 = some (.aload_n 0, 118, 0, 0, .null) := by decide +kernel
theorem x_168_117 : Tr sc d 168 (117, [some (.ref xk), l1, l2, l3, l4, l5, l6], [.int i1, .ref k0], h) Q = Tr sc d 168 (118, [some (.ref xk), l1, l2, l3, l4, l5, l6], [.ref xk, .int i1, .ref k0], h) Q := t_aload_n k_168_117 rfl
theorem k_168_118 : lk 168 118 = some (.getfield 20, 121, 10, 7, .null) := by decide +kernel
theorem x_168_118 : Tr sc d 168 (118, [l0, l1, l2, l3, l4, l5, l6], [.ref k2, .int i1, .ref k0], h) Q = (okp h k2 10 = true ∧ ∃ q, hR h k2 7 = some q ∧ Tr sc d 168 (121, [l0, l1, l2, l3, l4, l5, l6], [.ref q, .int i1, .ref k0], h) Q) := t_getr k_168_118
theorem k_168_121 : lk 168 121 = some (.bipush 40, 123, 0, 0, .int 40) := by decide +kernel
theorem x_168_121 : Tr sc d 168 (121, [l0, l1, l2, l3, l4, l5, l6], [.ref k2, .int i1, .ref k0], h) Q = Tr sc d 168 (123, [l0, l1, l2, l3, l4, l5, l6], [.int 40, .ref k2, .int i1, .ref k0], h) Q := t_go k_168_121 rfl
theorem k_168_123 : lk 168 123 = some (.iload_n 1, 124, 1, 0, .null) := by decide +kernel
theorem x_168_123 : Tr sc d 168 (123, [l0, some (.int x), l2, l3, l4, l5, l6], [.int i3, .ref k2, .int i1, .ref k0], h) Q = Tr sc d 168 (124, [l0, some (.int x), l2, l3, l4, l5, l6], [.int x, .int i3, .ref k2, .int i1, .ref k0], h) Q := t_iload_n k_168_123 rfl
theorem k_168_124 : lk 168 124 = some (.imul, 125, 0, 0, .null) := by decide +kernel
theorem x_168_124 : Tr sc d 168 (124, [l0, l1, l2, l3, l4, l5, l6], [.int i4, .int i3, .ref k2, .int i1, .ref k0], h) Q = Tr sc d 168 (125, [l0, l1, l2, l3, l4, l5, l6], [.int (i3 * i4), .ref k2, .int i1, .ref k0], h) Q := t_go k_168_124 rfl
theorem k_168_125 : lk 168 125 = some (.iload_n 2, 126, 2, 0, .null) := by decide +kernel
theorem x_168_125 : Tr sc d 168 (125, [l0, l1, some (.int x), l3, l4, l5, l6], [.int i3, .ref k2, .int i1, .ref k0], h) Q = Tr sc d 168 (126, [l0, l1, some (.int x), l3, l4, l5, l6], [.int x, .int i3, .ref k2, .int i1, .ref k0], h) Q := t_iload_n k_168_125 rfl
theorem k_168_126 : lk 168 126 = some (.iadd, 127, 0, 0, .null) := by decide +kernel
theorem x_168_126 : Tr sc d 168 (126, [l0, l1, l2, l3, l4, l5, l6], [.int i4, .int i3, .ref k2, .int i1, .ref k0], h) Q = Tr sc d 168 (127, [l0, l1, l2, l3, l4, l5, l6], [.int (i3 + i4), .ref k2, .int i1, .ref k0], h) Q := t_go k_168_126 rfl
theorem k_168_127 : lk 168 127 = some (.iload 6, 129, 6, 0, .null) := by decide +kernel
theorem x_168_127 : Tr sc d 168 (127, [l0, l1, l2, l3, l4, l5, some (.int x)], [.int i3, .ref k2, .int i1, .ref k0], h) Q = Tr sc d 168 (129, [l0, l1, l2, l3, l4, l5, some (.int x)], [.int x, .int i3, .ref k2, .int i1, .ref k0], h) Q := t_iload k_168_127 rfl
theorem k_168_129 : lk 168 129 = some (.iadd, 130, 0, 0, .null) := by decide +kernel
theorem x_168_129 : Tr sc d 168 (129, [l0, l1, l2, l3, l4, l5, l6], [.int i4, .int i3, .ref k2, .int i1, .ref k0], h) Q = Tr sc d 168 (130, [l0, l1, l2, l3, l4, l5, l6], [.int (i3 + i4), .ref k2, .int i1, .ref k0], h) Q := t_go k_168_129 rfl
theorem k_168_130 : lk 168 130 = some (.iaload, 131, 0, 0, .null) := by decide +kernel
theorem x_168_130 : Tr sc d 168 (130, [l0, l1, l2, l3, l4, l5, l6], [.int i3, .ref k2, .int i1, .ref k0], h) Q = (iOk sc h k2 i3 ∧ Tr sc d 168 (131, [l0, l1, l2, l3, l4, l5, l6], [.int (iRd sc h k2 i3), .int i1, .ref k0], h) Q) := t_iald k_168_130
theorem k_168_131 : lk 168 131 = some (.iastore, 132, 0, 0, .null) := by decide +kernel
theorem x_168_131 : Tr sc d 168 (131, [l0, l1, l2, l3, l4, l5, l6], [.int i2, .int i1, .ref k0], h) Q = ((okp h k0 11 && inb i1 (LN k0)) = true ∧ Tr sc d 168 (132, [l0, l1, l2, l3, l4, l5, l6], [], (sI h k0 i1.toNatClampNeg i2)) Q) := t_gd k_168_131 rfl
theorem k_168_132 : lk 168 132 = some (.iinc 6 1, 135, 6, 0, .int 1) := by decide +kernel
theorem x_168_132 : Tr sc d 168 (132, [l0, l1, l2, l3, l4, l5, some (.int x)], [], h) Q = Tr sc d 168 (135, [l0, l1, l2, l3, l4, cl2 l5, some (.int (x + 1))], [], h) Q := t_inc k_168_132 rfl (Nat.le_of_ble_eq_true rfl)
theorem k_168_135 : lk 168 135 = some (.goto (-31), 138, 104, 0, .null) := by decide +kernel
theorem x_168_135 : Tr sc d 168 (135, [l0, l1, l2, l3, l4, l5, l6], [], h) Q = Tr sc d 168 (104, [l0, l1, l2, l3, l4, l5, l6], [], h) Q := t_go k_168_135 rfl
theorem k_168_138 : lk 168 138 = some (.iconst 0, 139, 0, 0, .int 0) := by decide +kernel
theorem x_168_138 : Tr sc d 168 (138, [l0, l1, l2, l3, l4, l5, l6], [], h) Q = Tr sc d 168 (139, [l0, l1, l2, l3, l4, l5, l6], [.int 0], h) Q := t_go k_168_138 rfl
theorem k_168_139 : lk 168 139 = some (.istore 6, 141, 6, 0, .null) := by decide +kernel
theorem x_168_139 : Tr sc d 168 (139, [l0, l1, l2, l3, l4, l5, l6], [.int i0], h) Q = Tr sc d 168 (141, [l0, l1, l2, l3, l4, cl2 l5, some (.int i0)], [], h) Q := t_istore k_168_139 (Nat.le_of_ble_eq_true rfl)
theorem k_168_141 : lk 168 141 = some (.iload 6, 143, 6, 0, .null) := by decide +kernel
theorem x_168_141 : Tr sc d 168 (141, [l0, l1, l2, l3, l4, l5, some (.int x)], [], h) Q = Tr sc d 168 (143, [l0, l1, l2, l3, l4, l5, some (.int x)], [.int x], h) Q := t_iload k_168_141 rfl
theorem k_168_143 : lk 168 143 = some (.iload 5, 145, 5, 0, .null) := by decide +kernel
theorem x_168_143 : Tr sc d 168 (143, [l0, l1, l2, l3, l4, some (.int x), l6], [.int i0], h) Q = Tr sc d 168 (145, [l0, l1, l2, l3, l4, some (.int x), l6], [.int x, .int i0], h) Q := t_iload k_168_143 rfl
theorem k_168_145 : lk 168 145 = some (.if_icmp .ge 31, 148, 176, 0, .null) := by decide +kernel
theorem x_168_145 : Tr sc d 168 (145, [l0, l1, l2, l3, l4, l5, l6], [.int i1, .int i0], h) Q = if i1 ≤ i0 then Tr sc d 168 (176, [l0, l1, l2, l3, l4, l5, l6], [], h) Q else Tr sc d 168 (148, [l0, l1, l2, l3, l4, l5, l6], [], h) Q := t_if k_168_145 rfl
theorem k_168_148 : lk 168 148 = some (.aload_n 0, 149, 0, 0, .null) := by decide +kernel
theorem x_168_148 : Tr sc d 168 (148, [some (.ref xk), l1, l2, l3, l4, l5, l6], [], h) Q = Tr sc d 168 (149, [some (.ref xk), l1, l2, l3, l4, l5, l6], [.ref xk], h) Q := t_aload_n k_168_148 rfl
theorem k_168_149 : lk 168 149 = some (.getfield 20, 152, 10, 7, .null) := by decide +kernel
theorem x_168_149 : Tr sc d 168 (149, [l0, l1, l2, l3, l4, l5, l6], [.ref k0], h) Q = (okp h k0 10 = true ∧ ∃ q, hR h k0 7 = some q ∧ Tr sc d 168 (152, [l0, l1, l2, l3, l4, l5, l6], [.ref q], h) Q) := t_getr k_168_149
theorem k_168_152 : lk 168 152 = some (.bipush 40, 154, 0, 0, .int 40) := by decide +kernel
theorem x_168_152 : Tr sc d 168 (152, [l0, l1, l2, l3, l4, l5, l6], [.ref k0], h) Q = Tr sc d 168 (154, [l0, l1, l2, l3, l4, l5, l6], [.int 40, .ref k0], h) Q := t_go k_168_152 rfl
theorem k_168_154 : lk 168 154 = some (.iload_n 3, 155, 3, 0, .null) := by decide +kernel
theorem x_168_154 : Tr sc d 168 (154, [l0, l1, l2, some (.int x), l4, l5, l6], [.int i1, .ref k0], h) Q = Tr sc d 168 (155, [l0, l1, l2, some (.int x), l4, l5, l6], [.int x, .int i1, .ref k0], h) Q := t_iload_n k_168_154 rfl
theorem k_168_155 : lk 168 155 = some (.imul, 156, 0, 0, .null) := by decide +kernel
theorem x_168_155 : Tr sc d 168 (155, [l0, l1, l2, l3, l4, l5, l6], [.int i2, .int i1, .ref k0], h) Q = Tr sc d 168 (156, [l0, l1, l2, l3, l4, l5, l6], [.int (i1 * i2), .ref k0], h) Q := t_go k_168_155 rfl
theorem k_168_156 : lk 168 156 = some (.iload 4, 158, 4, 0, .null) := by decide +kernel
theorem x_168_156 : Tr sc d 168 (156, [l0, l1, l2, l3, some (.int x), l5, l6], [.int i1, .ref k0], h) Q = Tr sc d 168 (158, [l0, l1, l2, l3, some (.int x), l5, l6], [.int x, .int i1, .ref k0], h) Q := t_iload k_168_156 rfl
theorem k_168_158 : lk 168 158 = some (.iadd, 159, 0, 0, .null) := by decide +kernel
theorem x_168_158 : Tr sc d 168 (158, [l0, l1, l2, l3, l4, l5, l6], [.int i2, .int i1, .ref k0], h) Q = Tr sc d 168 (159, [l0, l1, l2, l3, l4, l5, l6], [.int (i1 + i2), .ref k0], h) Q := t_go k_168_158 rfl
theorem k_168_159 : lk 168 159 = some (.iload 6, 161, 6, 0, .null) := by decide +kernel
theorem x_168_159 : Tr sc d 168 (159, [l0, l1, l2, l3, l4, l5, some (.int x)], [.int i1, .ref k0], h) Q = Tr sc d 168 (161, [l0, l1, l2, l3, l4, l5, some (.int x)], [.int x, .int i1, .ref k0], h) Q := t_iload k_168_159 rfl
theorem k_168_161 : lk 168 161 = some (.iadd, 162, 0, 0, .null) := by decide +kernel
theorem x_168_161 : Tr sc d 168 (161, [l0, l1, l2, l3, l4, l5, l6], [.int i2, .int i1, .ref k0], h) Q = Tr sc d 168 (162, [l0, l1, l2, l3, l4, l5, l6], [.int (i1 + i2), .ref k0], h) Q := t_go k_168_161 rfl
theorem k_168_162 : lk 168 162 = some (.aload_n 0, 163, 0, 0, .null) := by decide +kernel
theorem x_168_162 : Tr sc d 168 (162, [some (.ref xk), l1, l2, l3, l4, l5, l6], [.int i1, .ref k0], h) Q = Tr sc d 168 (163, [some (.ref xk), l1, l2, l3, l4, l5, l6], [.ref xk, .int i1, .ref k0], h) Q := t_aload_n k_168_162 rfl
theorem k_168_163 : lk 168 163 = some (.getfield 23, 166, 10, 8, .null) := by decide +kernel
theorem x_168_163 : Tr sc d 168 (163, [l0, l1, l2, l3, l4, l5, l6], [.ref k2, .int i1, .ref k0], h) Q = (okp h k2 10 = true ∧ ∃ q, hR h k2 8 = some q ∧ Tr sc d 168 (166, [l0, l1, l2, l3, l4, l5, l6], [.ref q, .int i1, .ref k0], h) Q) := t_getr k_168_163
theorem k_168_166 : lk 168 166 = some (.iload 6, 168, 6, 0, .null) := by decide +kernel
theorem x_168_166 : Tr sc d 168 (166, [l0, l1, l2, l3, l4, l5, some (.int x)], [.ref k2, .int i1, .ref k0], h) Q = Tr sc d 168 (168, [l0, l1, l2, l3, l4, l5, some (.int x)], [.int x, .ref k2, .int i1, .ref k0], h) Q := t_iload k_168_166 rfl
theorem k_168_168 : lk 168 168 = some (.iaload, 169, 0, 0, .null) := by decide +kernel
theorem x_168_168 : Tr sc d 168 (168, [l0, l1, l2, l3, l4, l5, l6], [.int i3, .ref k2, .int i1, .ref k0], h) Q = (iOk sc h k2 i3 ∧ Tr sc d 168 (169, [l0, l1, l2, l3, l4, l5, l6], [.int (iRd sc h k2 i3), .int i1, .ref k0], h) Q) := t_iald k_168_168
theorem k_168_169 : lk 168 169 = some (.iastore, 170, 0, 0, .null) := by decide +kernel
theorem x_168_169 : Tr sc d 168 (169, [l0, l1, l2, l3, l4, l5, l6], [.int i2, .int i1, .ref k0], h) Q = ((okp h k0 11 && inb i1 (LN k0)) = true ∧ Tr sc d 168 (170, [l0, l1, l2, l3, l4, l5, l6], [], (sI h k0 i1.toNatClampNeg i2)) Q) := t_gd k_168_169 rfl
theorem k_168_170 : lk 168 170 = some (.iinc 6 1, 173, 6, 0, .int 1) := by decide +kernel
theorem x_168_170 : Tr sc d 168 (170, [l0, l1, l2, l3, l4, l5, some (.int x)], [], h) Q = Tr sc d 168 (173, [l0, l1, l2, l3, l4, cl2 l5, some (.int (x + 1))], [], h) Q := t_inc k_168_170 rfl (Nat.le_of_ble_eq_true rfl)
theorem k_168_173 : lk 168 173 = some (.goto (-32), 176, 141, 0, .null) := by decide +kernel
theorem x_168_173 : Tr sc d 168 (173, [l0, l1, l2, l3, l4, l5, l6], [], h) Q = Tr sc d 168 (141, [l0, l1, l2, l3, l4, l5, l6], [], h) Q := t_go k_168_173 rfl
theorem k_168_176 : lk 168 176 = some (.iconst 1, 177, 0, 0, .int 1) := by decide +kernel
theorem x_168_176 : Tr sc d 168 (176, [l0, l1, l2, l3, l4, l5, l6], [], h) Q = Tr sc d 168 (177, [l0, l1, l2, l3, l4, l5, l6], [.int 1], h) Q := t_go k_168_176 rfl
theorem k_168_177 : lk 168 177 = some (.ireturn, 178, 0, 0, .null) := by decide +kernel
theorem x_168_177 : Tr sc d 168 (177, [l0, l1, l2, l3, l4, l5, l6], [.int i0], h) Q = Q (some (.int i0), h) := t_ret k_168_177 (by rw [r_168]; rfl)
theorem e_168 : Tr sc d 168 (ent0 168 [.ref k0, .int i1, .int i2, .int i3, .int i4, .int i5] h) Q = Tr sc d 168 (0, [some (.ref k0), some (.int i1), some (.int i2), some (.int i3), some (.int i4), some (.int i5), none], [], h) Q := by
  have e : mL 168 = 7 := by decide +kernel
  unfold ent0
  rw [e]
  rfl
theorem r_169 : mR 169 = some .int := by decide +kernel
theorem k_169_0 : lk 169 0 = some (.aload_n 0, 1, 0, 0, .null) := by decide +kernel
theorem x_169_0 : Tr sc d 169 (0, [some (.ref xk), l1, l2, l3, l4, l5], [], h) Q = Tr sc d 169 (1, [some (.ref xk), l1, l2, l3, l4, l5], [.ref xk], h) Q := t_aload_n k_169_0 rfl
theorem k_169_1 : lk 169 1 = some (.iload_n 1, 2, 1, 0, .null) := by decide +kernel
theorem x_169_1 : Tr sc d 169 (1, [l0, some (.int x), l2, l3, l4, l5], [.ref k0], h) Q = Tr sc d 169 (2, [l0, some (.int x), l2, l3, l4, l5], [.int x, .ref k0], h) Q := t_iload_n k_169_1 rfl
theorem k_169_2 : lk 169 2 = some (.invokevirtual 159, 5, 163, 1, .null) := by decide +kernel
theorem x_169_2 : Tr sc (d + 1) 169 (2, [l0, l1, l2, l3, l4, l5], [.int i1, .ref k0], h) Q = (okp h k0 10 = true ∧ Tr sc d 163 (ent0 163 [.ref k0, .int i1] h) (fun z => Tr sc (d + 1) 169 (5, [l0, l1, l2, l3, l4, l5], z.1.toList ++ [], z.2) Q)) := t_cv (as := [.int i1]) (r := []) k_169_2 rfl rfl (Nat.le_of_ble_eq_true rfl) (Nat.le_of_ble_eq_true rfl) (Nat.le_of_ble_eq_true rfl)
theorem k_169_5 : lk 169 5 = some (.istore_n 2, 6, 2, 0, .null) := by decide +kernel
theorem x_169_5 : Tr sc d 169 (5, [l0, l1, l2, l3, l4, l5], [.int i0], h) Q = Tr sc d 169 (6, [l0, cl2 l1, some (.int i0), l3, l4, l5], [], h) Q := t_istore_n k_169_5 (Nat.le_of_ble_eq_true rfl)
theorem k_169_6 : lk 169 6 = some (.iload_n 2, 7, 2, 0, .null) := by decide +kernel
theorem x_169_6 : Tr sc d 169 (6, [l0, l1, some (.int x), l3, l4, l5], [], h) Q = Tr sc d 169 (7, [l0, l1, some (.int x), l3, l4, l5], [.int x], h) Q := t_iload_n k_169_6 rfl
theorem k_169_7 : lk 169 7 = some (.ifCond .ge 5, 10, 12, 0, .null) := by decide +kernel
theorem x_169_7 : Tr sc d 169 (7, [l0, l1, l2, l3, l4, l5], [.int i0], h) Q = if 0 ≤ i0 then Tr sc d 169 (12, [l0, l1, l2, l3, l4, l5], [], h) Q else Tr sc d 169 (10, [l0, l1, l2, l3, l4, l5], [], h) Q := t_if k_169_7 rfl
theorem k_169_10 : lk 169 10 = some (.iload_n 2, 11, 2, 0, .null) := by decide +kernel
theorem x_169_10 : Tr sc d 169 (10, [l0, l1, some (.int x), l3, l4, l5], [], h) Q = Tr sc d 169 (11, [l0, l1, some (.int x), l3, l4, l5], [.int x], h) Q := t_iload_n k_169_10 rfl
theorem k_169_11 : lk 169 11 = some (.ireturn, 12, 0, 0, .null) := by decide +kernel
theorem x_169_11 : Tr sc d 169 (11, [l0, l1, l2, l3, l4, l5], [.int i0], h) Q = Q (some (.int i0), h) := t_ret k_169_11 (by rw [r_169]; rfl)
theorem k_169_12 : lk 169 12 = some (.lconst 0, 13, 0, 0, .long 0) := by decide +kernel
theorem x_169_12 : Tr sc d 169 (12, [l0, l1, l2, l3, l4, l5], [], h) Q = Tr sc d 169 (13, [l0, l1, l2, l3, l4, l5], [.long 0], h) Q := t_go k_169_12 rfl
theorem k_169_13 : lk 169 13 = some (.lstore_n 3, 14, 3, 0, .null) := by decide +kernel
theorem x_169_13 : Tr sc d 169 (13, [l0, l1, l2, l3, l4, l5], [.long j0], h) Q = Tr sc d 169 (14, [l0, l1, cl2 l2, some (.long j0), none, l5], [], h) Q := t_lstore_n k_169_13 (Nat.le_of_ble_eq_true rfl)
theorem k_169_14 : lk 169 14 = some (.iconst 0, 15, 0, 0, .int 0) := by decide +kernel
theorem x_169_14 : Tr sc d 169 (14, [l0, l1, l2, l3, l4, l5], [], h) Q = Tr sc d 169 (15, [l0, l1, l2, l3, l4, l5], [.int 0], h) Q := t_go k_169_14 rfl
theorem k_169_15 : lk 169 15 = some (.istore 5, 17, 5, 0, .null) := by decide +kernel
theorem x_169_15 : Tr sc d 169 (15, [l0, l1, l2, l3, l4, l5], [.int i0], h) Q = Tr sc d 169 (17, [l0, l1, l2, l3, cl2 l4, some (.int i0)], [], h) Q := t_istore k_169_15 (Nat.le_of_ble_eq_true rfl)
theorem k_169_17 : lk 169 17 = some (.iload 5, 19, 5, 0, .null) := by decide +kernel
theorem x_169_17 : Tr sc d 169 (17, [l0, l1, l2, l3, l4, some (.int x)], [], h) Q = Tr sc d 169 (19, [l0, l1, l2, l3, l4, some (.int x)], [.int x], h) Q := t_iload k_169_17 rfl
theorem k_169_19 : lk 169 19 = some (.aload_n 0, 20, 0, 0, .null) := by decide +kernel
theorem x_169_19 : Tr sc d 169 (19, [some (.ref xk), l1, l2, l3, l4, l5], [.int i0], h) Q = Tr sc d 169 (20, [some (.ref xk), l1, l2, l3, l4, l5], [.ref xk, .int i0], h) Q := t_aload_n k_169_19 rfl
theorem k_169_20 : lk 169 20 = some (.getfield 17, 23, 10, 6, .null) := by decide +kernel
theorem x_169_20 : Tr sc d 169 (20, [l0, l1, l2, l3, l4, l5], [.ref k1, .int i0], h) Q = (okp h k1 10 = true ∧ ∃ q, hR h k1 6 = some q ∧ Tr sc d 169 (23, [l0, l1, l2, l3, l4, l5], [.ref q, .int i0], h) Q) := t_getr k_169_20
theorem k_169_23 : lk 169 23 = some (.iload_n 1, 24, 1, 0, .null) := by decide +kernel
theorem x_169_23 : Tr sc d 169 (23, [l0, some (.int x), l2, l3, l4, l5], [.ref k1, .int i0], h) Q = Tr sc d 169 (24, [l0, some (.int x), l2, l3, l4, l5], [.int x, .ref k1, .int i0], h) Q := t_iload_n k_169_23 rfl
theorem k_169_24 : lk 169 24 = some (.iaload, 25, 0, 0, .null) := by decide +kernel
theorem x_169_24 : Tr sc d 169 (24, [l0, l1, l2, l3, l4, l5], [.int i2, .ref k1, .int i0], h) Q = (iOk sc h k1 i2 ∧ Tr sc d 169 (25, [l0, l1, l2, l3, l4, l5], [.int (iRd sc h k1 i2), .int i0], h) Q) := t_iald k_169_24
theorem k_169_25 : lk 169 25 = some (.if_icmp .ge 25, 28, 50, 0, .null) := by decide +kernel
theorem x_169_25 : Tr sc d 169 (25, [l0, l1, l2, l3, l4, l5], [.int i1, .int i0], h) Q = if i1 ≤ i0 then Tr sc d 169 (50, [l0, l1, l2, l3, l4, l5], [], h) Q else Tr sc d 169 (28, [l0, l1, l2, l3, l4, l5], [], h) Q := t_if k_169_25 rfl
theorem k_169_28 : lk 169 28 = some (.lload_n 3, 29, 3, 0, .null) := by decide +kernel
theorem x_169_28 : Tr sc d 169 (28, [l0, l1, l2, some (.long xl), l4, l5], [], h) Q = Tr sc d 169 (29, [l0, l1, l2, some (.long xl), l4, l5], [.long xl], h) Q := t_lload_n k_169_28 rfl
theorem k_169_29 : lk 169 29 = some (.aload_n 0, 30, 0, 0, .null) := by decide +kernel
theorem x_169_29 : Tr sc d 169 (29, [some (.ref xk), l1, l2, l3, l4, l5], [.long j0], h) Q = Tr sc d 169 (30, [some (.ref xk), l1, l2, l3, l4, l5], [.ref xk, .long j0], h) Q := t_aload_n k_169_29 rfl
theorem k_169_30 : lk 169 30 = some (.getfield 20, 33, 10, 7, .null) := by decide +kernel
theorem x_169_30 : Tr sc d 169 (30, [l0, l1, l2, l3, l4, l5], [.ref k1, .long j0], h) Q = (okp h k1 10 = true ∧ ∃ q, hR h k1 7 = some q ∧ Tr sc d 169 (33, [l0, l1, l2, l3, l4, l5], [.ref q, .long j0], h) Q) := t_getr k_169_30
theorem k_169_33 : lk 169 33 = some (.bipush 40, 35, 0, 0, .int 40) := by decide +kernel
theorem x_169_33 : Tr sc d 169 (33, [l0, l1, l2, l3, l4, l5], [.ref k1, .long j0], h) Q = Tr sc d 169 (35, [l0, l1, l2, l3, l4, l5], [.int 40, .ref k1, .long j0], h) Q := t_go k_169_33 rfl
theorem k_169_35 : lk 169 35 = some (.iload_n 1, 36, 1, 0, .null) := by decide +kernel
theorem x_169_35 : Tr sc d 169 (35, [l0, some (.int x), l2, l3, l4, l5], [.int i2, .ref k1, .long j0], h) Q = Tr sc d 169 (36, [l0, some (.int x), l2, l3, l4, l5], [.int x, .int i2, .ref k1, .long j0], h) Q := t_iload_n k_169_35 rfl
theorem k_169_36 : lk 169 36 = some (.imul, 37, 0, 0, .null) := by decide +kernel
theorem x_169_36 : Tr sc d 169 (36, [l0, l1, l2, l3, l4, l5], [.int i3, .int i2, .ref k1, .long j0], h) Q = Tr sc d 169 (37, [l0, l1, l2, l3, l4, l5], [.int (i2 * i3), .ref k1, .long j0], h) Q := t_go k_169_36 rfl
theorem k_169_37 : lk 169 37 = some (.iload 5, 39, 5, 0, .null) := by decide +kernel
theorem x_169_37 : Tr sc d 169 (37, [l0, l1, l2, l3, l4, some (.int x)], [.int i2, .ref k1, .long j0], h) Q = Tr sc d 169 (39, [l0, l1, l2, l3, l4, some (.int x)], [.int x, .int i2, .ref k1, .long j0], h) Q := t_iload k_169_37 rfl
theorem k_169_39 : lk 169 39 = some (.iadd, 40, 0, 0, .null) := by decide +kernel
theorem x_169_39 : Tr sc d 169 (39, [l0, l1, l2, l3, l4, l5], [.int i3, .int i2, .ref k1, .long j0], h) Q = Tr sc d 169 (40, [l0, l1, l2, l3, l4, l5], [.int (i2 + i3), .ref k1, .long j0], h) Q := t_go k_169_39 rfl
theorem k_169_40 : lk 169 40 = some (.iaload, 41, 0, 0, .null) := by decide +kernel
theorem x_169_40 : Tr sc d 169 (40, [l0, l1, l2, l3, l4, l5], [.int i2, .ref k1, .long j0], h) Q = (iOk sc h k1 i2 ∧ Tr sc d 169 (41, [l0, l1, l2, l3, l4, l5], [.int (iRd sc h k1 i2), .long j0], h) Q) := t_iald k_169_40
theorem k_169_41 : lk 169 41 = some (.i2l, 42, 0, 0, .null) := by decide +kernel
theorem x_169_41 : Tr sc d 169 (41, [l0, l1, l2, l3, l4, l5], [.int i1, .long j0], h) Q = Tr sc d 169 (42, [l0, l1, l2, l3, l4, l5], [.long i1.toInt64, .long j0], h) Q := t_go k_169_41 rfl
theorem k_169_42 : lk 169 42 = some (.ladd, 43, 0, 0, .null) := by decide +kernel
theorem x_169_42 : Tr sc d 169 (42, [l0, l1, l2, l3, l4, l5], [.long j1, .long j0], h) Q = Tr sc d 169 (43, [l0, l1, l2, l3, l4, l5], [.long (j0 + j1)], h) Q := t_go k_169_42 rfl
theorem k_169_43 : lk 169 43 = some (.lstore_n 3, 44, 3, 0, .null) := by decide +kernel
theorem x_169_43 : Tr sc d 169 (43, [l0, l1, l2, l3, l4, l5], [.long j0], h) Q = Tr sc d 169 (44, [l0, l1, cl2 l2, some (.long j0), none, l5], [], h) Q := t_lstore_n k_169_43 (Nat.le_of_ble_eq_true rfl)
theorem k_169_44 : lk 169 44 = some (.iinc 5 1, 47, 5, 0, .int 1) := by decide +kernel
theorem x_169_44 : Tr sc d 169 (44, [l0, l1, l2, l3, l4, some (.int x)], [], h) Q = Tr sc d 169 (47, [l0, l1, l2, l3, cl2 l4, some (.int (x + 1))], [], h) Q := t_inc k_169_44 rfl (Nat.le_of_ble_eq_true rfl)
theorem k_169_47 : lk 169 47 = some (.goto (-30), 50, 17, 0, .null) := by decide +kernel
theorem x_169_47 : Tr sc d 169 (47, [l0, l1, l2, l3, l4, l5], [], h) Q = Tr sc d 169 (17, [l0, l1, l2, l3, l4, l5], [], h) Q := t_go k_169_47 rfl
theorem k_169_50 : lk 169 50 = some (.aload_n 0, 51, 0, 0, .null) := by decide +kernel
theorem x_169_50 : Tr sc d 169 (50, [some (.ref xk), l1, l2, l3, l4, l5], [], h) Q = Tr sc d 169 (51, [some (.ref xk), l1, l2, l3, l4, l5], [.ref xk], h) Q := t_aload_n k_169_50 rfl
theorem k_169_51 : lk 169 51 = some (.getfield 17, 54, 10, 6, .null) := by decide +kernel
theorem x_169_51 : Tr sc d 169 (51, [l0, l1, l2, l3, l4, l5], [.ref k0], h) Q = (okp h k0 10 = true ∧ ∃ q, hR h k0 6 = some q ∧ Tr sc d 169 (54, [l0, l1, l2, l3, l4, l5], [.ref q], h) Q) := t_getr k_169_51
theorem k_169_54 : lk 169 54 = some (.iload_n 1, 55, 1, 0, .null) := by decide +kernel
theorem x_169_54 : Tr sc d 169 (54, [l0, some (.int x), l2, l3, l4, l5], [.ref k0], h) Q = Tr sc d 169 (55, [l0, some (.int x), l2, l3, l4, l5], [.int x, .ref k0], h) Q := t_iload_n k_169_54 rfl
theorem k_169_55 : lk 169 55 = some (.iaload, 56, 0, 0, .null) := by decide +kernel
theorem x_169_55 : Tr sc d 169 (55, [l0, l1, l2, l3, l4, l5], [.int i1, .ref k0], h) Q = (iOk sc h k0 i1 ∧ Tr sc d 169 (56, [l0, l1, l2, l3, l4, l5], [.int (iRd sc h k0 i1)], h) Q) := t_iald k_169_55
theorem k_169_56 : lk 169 56 = some (.ifCond .ne 11, 59, 67, 0, .null) := by decide +kernel
theorem x_169_56 : Tr sc d 169 (56, [l0, l1, l2, l3, l4, l5], [.int i0], h) Q = if i0 = 0 then Tr sc d 169 (59, [l0, l1, l2, l3, l4, l5], [], h) Q else Tr sc d 169 (67, [l0, l1, l2, l3, l4, l5], [], h) Q := t_if k_169_56 rfl
theorem k_169_59 : lk 169 59 = some (.aload_n 0, 60, 0, 0, .null) := by decide +kernel
theorem x_169_59 : Tr sc d 169 (59, [some (.ref xk), l1, l2, l3, l4, l5], [], h) Q = Tr sc d 169 (60, [some (.ref xk), l1, l2, l3, l4, l5], [.ref xk], h) Q := t_aload_n k_169_59 rfl
theorem k_169_60 : lk 169 60 = some (.iconst 4, 61, 0, 0, .int 4) := by decide +kernel
theorem x_169_60 : Tr sc d 169 (60, [l0, l1, l2, l3, l4, l5], [.ref k0], h) Q = Tr sc d 169 (61, [l0, l1, l2, l3, l4, l5], [.int 4, .ref k0], h) Q := t_go k_169_60 rfl
theorem k_169_61 : lk 169 61 = some (.invokevirtual 152, 64, 158, 1, .null) := by decide +kernel
theorem x_169_61 : Tr sc (d + 1) 169 (61, [l0, l1, l2, l3, l4, l5], [.int i1, .ref k0], h) Q = (okp h k0 10 = true ∧ Tr sc d 158 (ent0 158 [.ref k0, .int i1] h) (fun z => Tr sc (d + 1) 169 (64, [l0, l1, l2, l3, l4, l5], z.1.toList ++ [], z.2) Q)) := t_cv (as := [.int i1]) (r := []) k_169_61 rfl rfl (Nat.le_of_ble_eq_true rfl) (Nat.le_of_ble_eq_true rfl) (Nat.le_of_ble_eq_true rfl)
theorem k_169_64 : lk 169 64 = some (.goto 18, 67, 82, 0, .null) := by decide +kernel
theorem x_169_64 : Tr sc d 169 (64, [l0, l1, l2, l3, l4, l5], [.int i0], h) Q = Tr sc d 169 (82, [l0, l1, l2, l3, l4, l5], [.int i0], h) Q := t_go k_169_64 rfl
theorem k_169_67 : lk 169 67 = some (.aload_n 0, 68, 0, 0, .null) := by decide +kernel
theorem x_169_67 : Tr sc d 169 (67, [some (.ref xk), l1, l2, l3, l4, l5], [], h) Q = Tr sc d 169 (68, [some (.ref xk), l1, l2, l3, l4, l5], [.ref xk], h) Q := t_aload_n k_169_67 rfl
theorem k_169_68 : lk 169 68 = some (.lload_n 3, 69, 3, 0, .null) := by decide +kernel
theorem x_169_68 : Tr sc d 169 (68, [l0, l1, l2, some (.long xl), l4, l5], [.ref k0], h) Q = Tr sc d 169 (69, [l0, l1, l2, some (.long xl), l4, l5], [.long xl, .ref k0], h) Q := t_lload_n k_169_68 rfl
theorem k_169_69 : lk 169 69 = some (.aload_n 0, 70, 0, 0, .null) := by decide +kernel
theorem x_169_69 : Tr sc d 169 (69, [some (.ref xk), l1, l2, l3, l4, l5], [.long j1, .ref k0], h) Q = Tr sc d 169 (70, [some (.ref xk), l1, l2, l3, l4, l5], [.ref xk, .long j1, .ref k0], h) Q := t_aload_n k_169_69 rfl
theorem k_169_70 : lk 169 70 = some (.getfield 17, 73, 10, 6, .null) := by decide +kernel
theorem x_169_70 : Tr sc d 169 (70, [l0, l1, l2, l3, l4, l5], [.ref k2, .long j1, .ref k0], h) Q = (okp h k2 10 = true ∧ ∃ q, hR h k2 6 = some q ∧ Tr sc d 169 (73, [l0, l1, l2, l3, l4, l5], [.ref q, .long j1, .ref k0], h) Q) := t_getr k_169_70
theorem k_169_73 : lk 169 73 = some (.iload_n 1, 74, 1, 0, .null) := by decide +kernel
theorem x_169_73 : Tr sc d 169 (73, [l0, some (.int x), l2, l3, l4, l5], [.ref k2, .long j1, .ref k0], h) Q = Tr sc d 169 (74, [l0, some (.int x), l2, l3, l4, l5], [.int x, .ref k2, .long j1, .ref k0], h) Q := t_iload_n k_169_73 rfl
theorem k_169_74 : lk 169 74 = some (.iaload, 75, 0, 0, .null) := by decide +kernel
theorem x_169_74 : Tr sc d 169 (74, [l0, l1, l2, l3, l4, l5], [.int i3, .ref k2, .long j1, .ref k0], h) Q = (iOk sc h k2 i3 ∧ Tr sc d 169 (75, [l0, l1, l2, l3, l4, l5], [.int (iRd sc h k2 i3), .long j1, .ref k0], h) Q) := t_iald k_169_74
theorem k_169_75 : lk 169 75 = some (.i2l, 76, 0, 0, .null) := by decide +kernel
theorem x_169_75 : Tr sc d 169 (75, [l0, l1, l2, l3, l4, l5], [.int i2, .long j1, .ref k0], h) Q = Tr sc d 169 (76, [l0, l1, l2, l3, l4, l5], [.long i2.toInt64, .long j1, .ref k0], h) Q := t_go k_169_75 rfl
theorem k_169_76 : lk 169 76 = some (.ldiv, 77, 0, 0, .null) := by decide +kernel
theorem x_169_76 : Tr sc d 169 (76, [l0, l1, l2, l3, l4, l5], [.long j2, .long j1, .ref k0], h) Q = (¬ j2 = 0 ∧ Tr sc d 169 (77, [l0, l1, l2, l3, l4, l5], [.long (j1 / j2), .ref k0], h) Q) := t_ng k_169_76 rfl
theorem k_169_77 : lk 169 77 = some (.l2i, 78, 0, 0, .null) := by decide +kernel
theorem x_169_77 : Tr sc d 169 (77, [l0, l1, l2, l3, l4, l5], [.long j1, .ref k0], h) Q = Tr sc d 169 (78, [l0, l1, l2, l3, l4, l5], [.int j1.toInt32, .ref k0], h) Q := t_go k_169_77 rfl
theorem k_169_78 : lk 169 78 = some (.iconst 1, 79, 0, 0, .int 1) := by decide +kernel
theorem x_169_78 : Tr sc d 169 (78, [l0, l1, l2, l3, l4, l5], [.int i1, .ref k0], h) Q = Tr sc d 169 (79, [l0, l1, l2, l3, l4, l5], [.int 1, .int i1, .ref k0], h) Q := t_go k_169_78 rfl
theorem k_169_79 : lk 169 79 = some (.invokevirtual 162, 82, 159, 2, .null) := by decide +kernel
theorem x_169_79 : Tr sc (d + 1) 169 (79, [l0, l1, l2, l3, l4, l5], [.int i2, .int i1, .ref k0], h) Q = (okp h k0 10 = true ∧ Tr sc d 159 (ent0 159 [.ref k0, .int i1, .int i2] h) (fun z => Tr sc (d + 1) 169 (82, [l0, l1, l2, l3, l4, l5], z.1.toList ++ [], z.2) Q)) := t_cv (as := [.int i1, .int i2]) (r := []) k_169_79 rfl rfl (Nat.le_of_ble_eq_true rfl) (Nat.le_of_ble_eq_true rfl) (Nat.le_of_ble_eq_true rfl)
theorem k_169_82 : lk 169 82 = some (.ireturn, 83, 0, 0, .null) := by decide +kernel
theorem x_169_82 : Tr sc d 169 (82, [l0, l1, l2, l3, l4, l5], [.int i0], h) Q = Q (some (.int i0), h) := t_ret k_169_82 (by rw [r_169]; rfl)
theorem e_169 : Tr sc d 169 (ent0 169 [.ref k0, .int i1] h) Q = Tr sc d 169 (0, [some (.ref k0), some (.int i1), none, none, none, none], [], h) Q := by
  have e : mL 169 = 6 := by decide +kernel
  unfold ent0
  rw [e]
  rfl
theorem r_170 : mR 170 = some .int := by decide +kernel
theorem k_170_0 : lk 170 0 = some (.iload_n 1, 1, 1, 0, .null) := by decide +kernel
theorem x_170_0 : Tr sc d 170 (0, [l0, some (.int x), l2, l3], [], h) Q = Tr sc d 170 (1, [l0, some (.int x), l2, l3], [.int x], h) Q := t_iload_n k_170_0 rfl
theorem k_170_1 : lk 170 1 = some (.invokestatic 156, 4, 162, 1, .null) := by decide +kernel
theorem x_170_1 : Tr sc (d + 1) 170 (1, [l0, l1, l2, l3], [.int i0], h) Q = Tr sc d 162 (ent0 162 [.int i0] h) (fun z => Tr sc (d + 1) 170 (4, [l0, l1, l2, l3], z.1.toList ++ [], z.2) Q) := t_cs (as := [.int i0]) (r := []) k_170_1 (by decide) rfl rfl (Nat.le_of_ble_eq_true rfl) (Nat.le_of_ble_eq_true rfl)
theorem k_170_4 : lk 170 4 = some (.ifCond .eq 9, 7, 13, 0, .null) := by decide +kernel
theorem x_170_4 : Tr sc d 170 (4, [l0, l1, l2, l3], [.int i0], h) Q = if i0 = 0 then Tr sc d 170 (13, [l0, l1, l2, l3], [], h) Q else Tr sc d 170 (7, [l0, l1, l2, l3], [], h) Q := t_if k_170_4 rfl
theorem k_170_7 : lk 170 7 = some (.iload_n 2, 8, 2, 0, .null) := by decide +kernel
theorem x_170_7 : Tr sc d 170 (7, [l0, l1, some (.int x), l3], [], h) Q = Tr sc d 170 (8, [l0, l1, some (.int x), l3], [.int x], h) Q := t_iload_n k_170_7 rfl
theorem k_170_8 : lk 170 8 = some (.bipush 60, 10, 0, 0, .int 60) := by decide +kernel
theorem x_170_8 : Tr sc d 170 (8, [l0, l1, l2, l3], [.int i0], h) Q = Tr sc d 170 (10, [l0, l1, l2, l3], [.int 60, .int i0], h) Q := t_go k_170_8 rfl
theorem k_170_10 : lk 170 10 = some (.if_icmp .le 5, 13, 15, 0, .null) := by decide +kernel
theorem x_170_10 : Tr sc d 170 (10, [l0, l1, l2, l3], [.int i1, .int i0], h) Q = if i0 ≤ i1 then Tr sc d 170 (15, [l0, l1, l2, l3], [], h) Q else Tr sc d 170 (13, [l0, l1, l2, l3], [], h) Q := t_if k_170_10 rfl
theorem k_170_13 : lk 170 13 = some (.iconst (-1), 14, 0, 0, .int (-1)) := by decide +kernel
theorem x_170_13 : Tr sc d 170 (13, [l0, l1, l2, l3], [], h) Q = Tr sc d 170 (14, [l0, l1, l2, l3], [.int (-1)], h) Q := t_go k_170_13 rfl
theorem k_170_14 : lk 170 14 = some (.ireturn, 15, 0, 0, .null) := by decide +kernel
theorem x_170_14 : Tr sc d 170 (14, [l0, l1, l2, l3], [.int i0], h) Q = Q (some (.int i0), h) := t_ret k_170_14 (by rw [r_170]; rfl)
theorem k_170_15 : lk 170 15 = some (.iload_n 2, 16, 2, 0, .null) := by decide +kernel
theorem x_170_15 : Tr sc d 170 (15, [l0, l1, some (.int x), l3], [], h) Q = Tr sc d 170 (16, [l0, l1, some (.int x), l3], [.int x], h) Q := t_iload_n k_170_15 rfl
theorem k_170_16 : lk 170 16 = some (.ifCond .ge 9, 19, 25, 0, .null) := by decide +kernel
theorem x_170_16 : Tr sc d 170 (16, [l0, l1, l2, l3], [.int i0], h) Q = if 0 ≤ i0 then Tr sc d 170 (25, [l0, l1, l2, l3], [], h) Q else Tr sc d 170 (19, [l0, l1, l2, l3], [], h) Q := t_if k_170_16 rfl
theorem k_170_19 : lk 170 19 = some (.aload_n 0, 20, 0, 0, .null) := by decide +kernel
theorem x_170_19 : Tr sc d 170 (19, [some (.ref xk), l1, l2, l3], [], h) Q = Tr sc d 170 (20, [some (.ref xk), l1, l2, l3], [.ref xk], h) Q := t_aload_n k_170_19 rfl
theorem k_170_20 : lk 170 20 = some (.iconst 5, 21, 0, 0, .int 5) := by decide +kernel
theorem x_170_20 : Tr sc d 170 (20, [l0, l1, l2, l3], [.ref k0], h) Q = Tr sc d 170 (21, [l0, l1, l2, l3], [.int 5, .ref k0], h) Q := t_go k_170_20 rfl
theorem k_170_21 : lk 170 21 = some (.invokevirtual 152, 24, 158, 1, .null) := by decide +kernel
theorem x_170_21 : Tr sc (d + 1) 170 (21, [l0, l1, l2, l3], [.int i1, .ref k0], h) Q = (okp h k0 10 = true ∧ Tr sc d 158 (ent0 158 [.ref k0, .int i1] h) (fun z => Tr sc (d + 1) 170 (24, [l0, l1, l2, l3], z.1.toList ++ [], z.2) Q)) := t_cv (as := [.int i1]) (r := []) k_170_21 rfl rfl (Nat.le_of_ble_eq_true rfl) (Nat.le_of_ble_eq_true rfl) (Nat.le_of_ble_eq_true rfl)
theorem k_170_24 : lk 170 24 = some (.ireturn, 25, 0, 0, .null) := by decide +kernel
theorem x_170_24 : Tr sc d 170 (24, [l0, l1, l2, l3], [.int i0], h) Q = Q (some (.int i0), h) := t_ret k_170_24 (by rw [r_170]; rfl)
theorem k_170_25 : lk 170 25 = some (.aload_n 0, 26, 0, 0, .null) := by decide +kernel
theorem x_170_25 : Tr sc d 170 (25, [some (.ref xk), l1, l2, l3], [], h) Q = Tr sc d 170 (26, [some (.ref xk), l1, l2, l3], [.ref xk], h) Q := t_aload_n k_170_25 rfl
theorem k_170_26 : lk 170 26 = some (.getfield 26, 29, 10, 9, .null) := by decide +kernel
theorem x_170_26 : Tr sc d 170 (26, [l0, l1, l2, l3], [.ref k0], h) Q = (okp h k0 10 = true ∧ ∃ q, hR h k0 9 = some q ∧ Tr sc d 170 (29, [l0, l1, l2, l3], [.ref q], h) Q) := t_getr k_170_26
theorem k_170_29 : lk 170 29 = some (.iload_n 1, 30, 1, 0, .null) := by decide +kernel
theorem x_170_29 : Tr sc d 170 (29, [l0, some (.int x), l2, l3], [.ref k0], h) Q = Tr sc d 170 (30, [l0, some (.int x), l2, l3], [.int x, .ref k0], h) Q := t_iload_n k_170_29 rfl
theorem k_170_30 : lk 170 30 = some (.iload_n 2, 31, 2, 0, .null) := by decide +kernel
theorem x_170_30 : Tr sc d 170 (30, [l0, l1, some (.int x), l3], [.int i1, .ref k0], h) Q = Tr sc d 170 (31, [l0, l1, some (.int x), l3], [.int x, .int i1, .ref k0], h) Q := t_iload_n k_170_30 rfl
theorem k_170_31 : lk 170 31 = some (.iastore, 32, 0, 0, .null) := by decide +kernel
theorem x_170_31 : Tr sc d 170 (31, [l0, l1, l2, l3], [.int i2, .int i1, .ref k0], h) Q = ((okp h k0 11 && inb i1 (LN k0)) = true ∧ Tr sc d 170 (32, [l0, l1, l2, l3], [], (sI h k0 i1.toNatClampNeg i2)) Q) := t_gd k_170_31 rfl
theorem k_170_32 : lk 170 32 = some (.iconst 0, 33, 0, 0, .int 0) := by decide +kernel
theorem x_170_32 : Tr sc d 170 (32, [l0, l1, l2, l3], [], h) Q = Tr sc d 170 (33, [l0, l1, l2, l3], [.int 0], h) Q := t_go k_170_32 rfl
theorem k_170_33 : lk 170 33 = some (.istore_n 3, 34, 3, 0, .null) := by decide +kernel
theorem x_170_33 : Tr sc d 170 (33, [l0, l1, l2, l3], [.int i0], h) Q = Tr sc d 170 (34, [l0, l1, cl2 l2, some (.int i0)], [], h) Q := t_istore_n k_170_33 (Nat.le_of_ble_eq_true rfl)
theorem k_170_34 : lk 170 34 = some (.iload_n 3, 35, 3, 0, .null) := by decide +kernel
theorem x_170_34 : Tr sc d 170 (34, [l0, l1, l2, some (.int x)], [], h) Q = Tr sc d 170 (35, [l0, l1, l2, some (.int x)], [.int x], h) Q := t_iload_n k_170_34 rfl
theorem k_170_35 : lk 170 35 = some (.bipush 60, 37, 0, 0, .int 60) := by decide +kernel
theorem x_170_35 : Tr sc d 170 (35, [l0, l1, l2, l3], [.int i0], h) Q = Tr sc d 170 (37, [l0, l1, l2, l3], [.int 60, .int i0], h) Q := t_go k_170_35 rfl
theorem k_170_37 : lk 170 37 = some (.if_icmp .ge 22, 40, 59, 0, .null) := by decide +kernel
theorem x_170_37 : Tr sc d 170 (37, [l0, l1, l2, l3], [.int i1, .int i0], h) Q = if i1 ≤ i0 then Tr sc d 170 (59, [l0, l1, l2, l3], [], h) Q else Tr sc d 170 (40, [l0, l1, l2, l3], [], h) Q := t_if k_170_37 rfl
theorem k_170_40 : lk 170 40 = some (.aload_n 0, 41, 0, 0, .null) := by decide +kernel
theorem x_170_40 : Tr sc d 170 (40, [some (.ref xk), l1, l2, l3], [], h) Q = Tr sc d 170 (41, [some (.ref xk), l1, l2, l3], [.ref xk], h) Q := t_aload_n k_170_40 rfl
theorem k_170_41 : lk 170 41 = some (.getfield 29, 44, 10, 10, .null) := by decide +kernel
theorem x_170_41 : Tr sc d 170 (41, [l0, l1, l2, l3], [.ref k0], h) Q = (okp h k0 10 = true ∧ ∃ q, hR h k0 10 = some q ∧ Tr sc d 170 (44, [l0, l1, l2, l3], [.ref q], h) Q) := t_getr k_170_41
theorem k_170_44 : lk 170 44 = some (.bipush 60, 46, 0, 0, .int 60) := by decide +kernel
theorem x_170_44 : Tr sc d 170 (44, [l0, l1, l2, l3], [.ref k0], h) Q = Tr sc d 170 (46, [l0, l1, l2, l3], [.int 60, .ref k0], h) Q := t_go k_170_44 rfl
theorem k_170_46 : lk 170 46 = some (.iload_n 1, 47, 1, 0, .null) := by decide +kernel
theorem x_170_46 : Tr sc d 170 (46, [l0, some (.int x), l2, l3], [.int i1, .ref k0], h) Q = Tr sc d 170 (47, [l0, some (.int x), l2, l3], [.int x, .int i1, .ref k0], h) Q := t_iload_n k_170_46 rfl
theorem k_170_47 : lk 170 47 = some (.imul, 48, 0, 0, .null) := by decide +kernel
theorem x_170_47 : Tr sc d 170 (47, [l0, l1, l2, l3], [.int i2, .int i1, .ref k0], h) Q = Tr sc d 170 (48, [l0, l1, l2, l3], [.int (i1 * i2), .ref k0], h) Q := t_go k_170_47 rfl
theorem k_170_48 : lk 170 48 = some (.iload_n 3, 49, 3, 0, .null) := by decide +kernel
theorem x_170_48 : Tr sc d 170 (48, [l0, l1, l2, some (.int x)], [.int i1, .ref k0], h) Q = Tr sc d 170 (49, [l0, l1, l2, some (.int x)], [.int x, .int i1, .ref k0], h) Q := t_iload_n k_170_48 rfl
theorem k_170_49 : lk 170 49 = some (.iadd, 50, 0, 0, .null) := by decide +kernel
theorem x_170_49 : Tr sc d 170 (49, [l0, l1, l2, l3], [.int i2, .int i1, .ref k0], h) Q = Tr sc d 170 (50, [l0, l1, l2, l3], [.int (i1 + i2), .ref k0], h) Q := t_go k_170_49 rfl
theorem k_170_50 : lk 170 50 = some (.bipush 32, 52, 0, 0, .int 32) := by decide +kernel
theorem x_170_50 : Tr sc d 170 (50, [l0, l1, l2, l3], [.int i1, .ref k0], h) Q = Tr sc d 170 (52, [l0, l1, l2, l3], [.int 32, .int i1, .ref k0], h) Q := t_go k_170_50 rfl
theorem k_170_52 : lk 170 52 = some (.iastore, 53, 0, 0, .null) := by decide +kernel
theorem x_170_52 : Tr sc d 170 (52, [l0, l1, l2, l3], [.int i2, .int i1, .ref k0], h) Q = ((okp h k0 11 && inb i1 (LN k0)) = true ∧ Tr sc d 170 (53, [l0, l1, l2, l3], [], (sI h k0 i1.toNatClampNeg i2)) Q) := t_gd k_170_52 rfl
theorem k_170_53 : lk 170 53 = some (.iinc 3 1, 56, 3, 0, .int 1) := by decide +kernel
theorem x_170_53 : Tr sc d 170 (53, [l0, l1, l2, some (.int x)], [], h) Q = Tr sc d 170 (56, [l0, l1, cl2 l2, some (.int (x + 1))], [], h) Q := t_inc k_170_53 rfl (Nat.le_of_ble_eq_true rfl)
theorem k_170_56 : lk 170 56 = some (.goto (-22), 59, 34, 0, .null) := by decide +kernel
theorem x_170_56 : Tr sc d 170 (56, [l0, l1, l2, l3], [], h) Q = Tr sc d 170 (34, [l0, l1, l2, l3], [], h) Q := t_go k_170_56 rfl
theorem k_170_59 : lk 170 59 = some (.iload_n 2, 60, 2, 0, .null) := by decide +kernel
theorem x_170_59 : Tr sc d 170 (59, [l0, l1, some (.int x), l3], [], h) Q = Tr sc d 170 (60, [l0, l1, some (.int x), l3], [.int x], h) Q := t_iload_n k_170_59 rfl
theorem k_170_60 : lk 170 60 = some (.ireturn, 61, 0, 0, .null) := by decide +kernel
theorem x_170_60 : Tr sc d 170 (60, [l0, l1, l2, l3], [.int i0], h) Q = Q (some (.int i0), h) := t_ret k_170_60 (by rw [r_170]; rfl)
theorem e_170 : Tr sc d 170 (ent0 170 [.ref k0, .int i1, .int i2] h) Q = Tr sc d 170 (0, [some (.ref k0), some (.int i1), some (.int i2), none], [], h) Q := by
  have e : mL 170 = 4 := by decide +kernel
  unfold ent0
  rw [e]
  rfl
theorem r_171 : mR 171 = some .int := by decide +kernel
theorem k_171_0 : lk 171 0 = some (.aload_n 0, 1, 0, 0, .null) := by decide +kernel
theorem x_171_0 : Tr sc d 171 (0, [some (.ref xk), l1, l2, l3, l4, l5], [], h) Q = Tr sc d 171 (1, [some (.ref xk), l1, l2, l3, l4, l5], [.ref xk], h) Q := t_aload_n k_171_0 rfl
theorem k_171_1 : lk 171 1 = some (.iload_n 1, 2, 1, 0, .null) := by decide +kernel
theorem x_171_1 : Tr sc d 171 (1, [l0, some (.int x), l2, l3, l4, l5], [.ref k0], h) Q = Tr sc d 171 (2, [l0, some (.int x), l2, l3, l4, l5], [.int x, .ref k0], h) Q := t_iload_n k_171_1 rfl
theorem k_171_2 : lk 171 2 = some (.invokevirtual 166, 5, 164, 1, .null) := by decide +kernel
theorem x_171_2 : Tr sc (d + 1) 171 (2, [l0, l1, l2, l3, l4, l5], [.int i1, .ref k0], h) Q = (okp h k0 10 = true ∧ Tr sc d 164 (ent0 164 [.ref k0, .int i1] h) (fun z => Tr sc (d + 1) 171 (5, [l0, l1, l2, l3, l4, l5], z.1.toList ++ [], z.2) Q)) := t_cv (as := [.int i1]) (r := []) k_171_2 rfl rfl (Nat.le_of_ble_eq_true rfl) (Nat.le_of_ble_eq_true rfl) (Nat.le_of_ble_eq_true rfl)
theorem k_171_5 : lk 171 5 = some (.istore 4, 7, 4, 0, .null) := by decide +kernel
theorem x_171_5 : Tr sc d 171 (5, [l0, l1, l2, l3, l4, l5], [.int i0], h) Q = Tr sc d 171 (7, [l0, l1, l2, cl2 l3, some (.int i0), l5], [], h) Q := t_istore k_171_5 (Nat.le_of_ble_eq_true rfl)
theorem k_171_7 : lk 171 7 = some (.iload 4, 9, 4, 0, .null) := by decide +kernel
theorem x_171_7 : Tr sc d 171 (7, [l0, l1, l2, l3, some (.int x), l5], [], h) Q = Tr sc d 171 (9, [l0, l1, l2, l3, some (.int x), l5], [.int x], h) Q := t_iload k_171_7 rfl
theorem k_171_9 : lk 171 9 = some (.ifCond .ge 6, 12, 15, 0, .null) := by decide +kernel
theorem x_171_9 : Tr sc d 171 (9, [l0, l1, l2, l3, l4, l5], [.int i0], h) Q = if 0 ≤ i0 then Tr sc d 171 (15, [l0, l1, l2, l3, l4, l5], [], h) Q else Tr sc d 171 (12, [l0, l1, l2, l3, l4, l5], [], h) Q := t_if k_171_9 rfl
theorem k_171_12 : lk 171 12 = some (.iload 4, 14, 4, 0, .null) := by decide +kernel
theorem x_171_12 : Tr sc d 171 (12, [l0, l1, l2, l3, some (.int x), l5], [], h) Q = Tr sc d 171 (14, [l0, l1, l2, l3, some (.int x), l5], [.int x], h) Q := t_iload k_171_12 rfl
theorem k_171_14 : lk 171 14 = some (.ireturn, 15, 0, 0, .null) := by decide +kernel
theorem x_171_14 : Tr sc d 171 (14, [l0, l1, l2, l3, l4, l5], [.int i0], h) Q = Q (some (.int i0), h) := t_ret k_171_14 (by rw [r_171]; rfl)
theorem k_171_15 : lk 171 15 = some (.iload_n 2, 16, 2, 0, .null) := by decide +kernel
theorem x_171_15 : Tr sc d 171 (15, [l0, l1, some (.int x), l3, l4, l5], [], h) Q = Tr sc d 171 (16, [l0, l1, some (.int x), l3, l4, l5], [.int x], h) Q := t_iload_n k_171_15 rfl
theorem k_171_16 : lk 171 16 = some (.iconst 0, 17, 0, 0, .int 0) := by decide +kernel
theorem x_171_16 : Tr sc d 171 (16, [l0, l1, l2, l3, l4, l5], [.int i0], h) Q = Tr sc d 171 (17, [l0, l1, l2, l3, l4, l5], [.int 0, .int i0], h) Q := t_go k_171_16 rfl
theorem k_171_17 : lk 171 17 = some (.aload_n 0, 18, 0, 0, .null) := by decide +kernel
theorem x_171_17 : Tr sc d 171 (17, [some (.ref xk), l1, l2, l3, l4, l5], [.int i1, .int i0], h) Q = Tr sc d 171 (18, [some (.ref xk), l1, l2, l3, l4, l5], [.ref xk, .int i1, .int i0], h) Q := t_aload_n k_171_17 rfl
theorem k_171_18 : lk 171 18 = some (.getfield 26, 21, 10, 9, .null) := by decide +kernel
theorem x_171_18 : Tr sc d 171 (18, [l0, l1, l2, l3, l4, l5], [.ref k2, .int i1, .int i0], h) Q = (okp h k2 10 = true ∧ ∃ q, hR h k2 9 = some q ∧ Tr sc d 171 (21, [l0, l1, l2, l3, l4, l5], [.ref q, .int i1, .int i0], h) Q) := t_getr k_171_18
theorem k_171_21 : lk 171 21 = some (.iload_n 1, 22, 1, 0, .null) := by decide +kernel
theorem x_171_21 : Tr sc d 171 (21, [l0, some (.int x), l2, l3, l4, l5], [.ref k2, .int i1, .int i0], h) Q = Tr sc d 171 (22, [l0, some (.int x), l2, l3, l4, l5], [.int x, .ref k2, .int i1, .int i0], h) Q := t_iload_n k_171_21 rfl
theorem k_171_22 : lk 171 22 = some (.iaload, 23, 0, 0, .null) := by decide +kernel
theorem x_171_22 : Tr sc d 171 (22, [l0, l1, l2, l3, l4, l5], [.int i3, .ref k2, .int i1, .int i0], h) Q = (iOk sc h k2 i3 ∧ Tr sc d 171 (23, [l0, l1, l2, l3, l4, l5], [.int (iRd sc h k2 i3), .int i1, .int i0], h) Q) := t_iald k_171_22
theorem k_171_23 : lk 171 23 = some (.iconst 1, 24, 0, 0, .int 1) := by decide +kernel
theorem x_171_23 : Tr sc d 171 (23, [l0, l1, l2, l3, l4, l5], [.int i2, .int i1, .int i0], h) Q = Tr sc d 171 (24, [l0, l1, l2, l3, l4, l5], [.int 1, .int i2, .int i1, .int i0], h) Q := t_go k_171_23 rfl
theorem k_171_24 : lk 171 24 = some (.isub, 25, 0, 0, .null) := by decide +kernel
theorem x_171_24 : Tr sc d 171 (24, [l0, l1, l2, l3, l4, l5], [.int i3, .int i2, .int i1, .int i0], h) Q = Tr sc d 171 (25, [l0, l1, l2, l3, l4, l5], [.int (i2 - i3), .int i1, .int i0], h) Q := t_go k_171_24 rfl
theorem k_171_25 : lk 171 25 = some (.invokestatic 144, 28, 157, 3, .null) := by decide +kernel
theorem x_171_25 : Tr sc (d + 1) 171 (25, [l0, l1, l2, l3, l4, l5], [.int i2, .int i1, .int i0], h) Q = Tr sc d 157 (ent0 157 [.int i0, .int i1, .int i2] h) (fun z => Tr sc (d + 1) 171 (28, [l0, l1, l2, l3, l4, l5], z.1.toList ++ [], z.2) Q) := t_cs (as := [.int i0, .int i1, .int i2]) (r := []) k_171_25 (by decide) rfl rfl (Nat.le_of_ble_eq_true rfl) (Nat.le_of_ble_eq_true rfl)
theorem k_171_28 : lk 171 28 = some (.ifCond .ne 9, 31, 37, 0, .null) := by decide +kernel
theorem x_171_28 : Tr sc d 171 (28, [l0, l1, l2, l3, l4, l5], [.int i0], h) Q = if i0 = 0 then Tr sc d 171 (31, [l0, l1, l2, l3, l4, l5], [], h) Q else Tr sc d 171 (37, [l0, l1, l2, l3, l4, l5], [], h) Q := t_if k_171_28 rfl
theorem k_171_31 : lk 171 31 = some (.aload_n 0, 32, 0, 0, .null) := by decide +kernel
theorem x_171_31 : Tr sc d 171 (31, [some (.ref xk), l1, l2, l3, l4, l5], [], h) Q = Tr sc d 171 (32, [some (.ref xk), l1, l2, l3, l4, l5], [.ref xk], h) Q := t_aload_n k_171_31 rfl
theorem k_171_32 : lk 171 32 = some (.iconst 2, 33, 0, 0, .int 2) := by decide +kernel
theorem x_171_32 : Tr sc d 171 (32, [l0, l1, l2, l3, l4, l5], [.ref k0], h) Q = Tr sc d 171 (33, [l0, l1, l2, l3, l4, l5], [.int 2, .ref k0], h) Q := t_go k_171_32 rfl
theorem k_171_33 : lk 171 33 = some (.invokevirtual 152, 36, 158, 1, .null) := by decide +kernel
theorem x_171_33 : Tr sc (d + 1) 171 (33, [l0, l1, l2, l3, l4, l5], [.int i1, .ref k0], h) Q = (okp h k0 10 = true ∧ Tr sc d 158 (ent0 158 [.ref k0, .int i1] h) (fun z => Tr sc (d + 1) 171 (36, [l0, l1, l2, l3, l4, l5], z.1.toList ++ [], z.2) Q)) := t_cv (as := [.int i1]) (r := []) k_171_33 rfl rfl (Nat.le_of_ble_eq_true rfl) (Nat.le_of_ble_eq_true rfl) (Nat.le_of_ble_eq_true rfl)
theorem k_171_36 : lk 171 36 = some (.ireturn, 37, 0, 0, .null) := by decide +kernel
theorem x_171_36 : Tr sc d 171 (36, [l0, l1, l2, l3, l4, l5], [.int i0], h) Q = Q (some (.int i0), h) := t_ret k_171_36 (by rw [r_171]; rfl)
theorem k_171_37 : lk 171 37 = some (.aload_n 0, 38, 0, 0, .null) := by decide +kernel
theorem x_171_37 : Tr sc d 171 (37, [some (.ref xk), l1, l2, l3, l4, l5], [], h) Q = Tr sc d 171 (38, [some (.ref xk), l1, l2, l3, l4, l5], [.ref xk], h) Q := t_aload_n k_171_37 rfl
theorem k_171_38 : lk 171 38 = some (.getfield 29, 41, 10, 10, .null) := by decide +kernel
theorem x_171_38 : Tr sc d 171 (38, [l0, l1, l2, l3, l4, l5], [.ref k0], h) Q = (okp h k0 10 = true ∧ ∃ q, hR h k0 10 = some q ∧ Tr sc d 171 (41, [l0, l1, l2, l3, l4, l5], [.ref q], h) Q) := t_getr k_171_38
theorem k_171_41 : lk 171 41 = some (.bipush 60, 43, 0, 0, .int 60) := by decide +kernel
theorem x_171_41 : Tr sc d 171 (41, [l0, l1, l2, l3, l4, l5], [.ref k0], h) Q = Tr sc d 171 (43, [l0, l1, l2, l3, l4, l5], [.int 60, .ref k0], h) Q := t_go k_171_41 rfl
theorem k_171_43 : lk 171 43 = some (.iload_n 1, 44, 1, 0, .null) := by decide +kernel
theorem x_171_43 : Tr sc d 171 (43, [l0, some (.int x), l2, l3, l4, l5], [.int i1, .ref k0], h) Q = Tr sc d 171 (44, [l0, some (.int x), l2, l3, l4, l5], [.int x, .int i1, .ref k0], h) Q := t_iload_n k_171_43 rfl
theorem k_171_44 : lk 171 44 = some (.imul, 45, 0, 0, .null) := by decide +kernel
theorem x_171_44 : Tr sc d 171 (44, [l0, l1, l2, l3, l4, l5], [.int i2, .int i1, .ref k0], h) Q = Tr sc d 171 (45, [l0, l1, l2, l3, l4, l5], [.int (i1 * i2), .ref k0], h) Q := t_go k_171_44 rfl
theorem k_171_45 : lk 171 45 = some (.iload_n 2, 46, 2, 0, .null) := by decide +kernel
theorem x_171_45 : Tr sc d 171 (45, [l0, l1, some (.int x), l3, l4, l5], [.int i1, .ref k0], h) Q = Tr sc d 171 (46, [l0, l1, some (.int x), l3, l4, l5], [.int x, .int i1, .ref k0], h) Q := t_iload_n k_171_45 rfl
theorem k_171_46 : lk 171 46 = some (.iadd, 47, 0, 0, .null) := by decide +kernel
theorem x_171_46 : Tr sc d 171 (46, [l0, l1, l2, l3, l4, l5], [.int i2, .int i1, .ref k0], h) Q = Tr sc d 171 (47, [l0, l1, l2, l3, l4, l5], [.int (i1 + i2), .ref k0], h) Q := t_go k_171_46 rfl
theorem k_171_47 : lk 171 47 = some (.iaload, 48, 0, 0, .null) := by decide +kernel
theorem x_171_47 : Tr sc d 171 (47, [l0, l1, l2, l3, l4, l5], [.int i1, .ref k0], h) Q = (iOk sc h k0 i1 ∧ Tr sc d 171 (48, [l0, l1, l2, l3, l4, l5], [.int (iRd sc h k0 i1)], h) Q) := t_iald k_171_47
theorem k_171_48 : lk 171 48 = some (.istore 5, 50, 5, 0, .null) := by decide +kernel
theorem x_171_48 : Tr sc d 171 (48, [l0, l1, l2, l3, l4, l5], [.int i0], h) Q = Tr sc d 171 (50, [l0, l1, l2, l3, cl2 l4, some (.int i0)], [], h) Q := t_istore k_171_48 (Nat.le_of_ble_eq_true rfl)
theorem k_171_50 : lk 171 50 = some (.aload_n 0, 51, 0, 0, .null) := by decide +kernel
theorem x_171_50 : Tr sc d 171 (50, [some (.ref xk), l1, l2, l3, l4, l5], [], h) Q = Tr sc d 171 (51, [some (.ref xk), l1, l2, l3, l4, l5], [.ref xk], h) Q := t_aload_n k_171_50 rfl
theorem k_171_51 : lk 171 51 = some (.getfield 29, 54, 10, 10, .null) := by decide +kernel
theorem x_171_51 : Tr sc d 171 (51, [l0, l1, l2, l3, l4, l5], [.ref k0], h) Q = (okp h k0 10 = true ∧ ∃ q, hR h k0 10 = some q ∧ Tr sc d 171 (54, [l0, l1, l2, l3, l4, l5], [.ref q], h) Q) := t_getr k_171_51
theorem k_171_54 : lk 171 54 = some (.bipush 60, 56, 0, 0, .int 60) := by decide +kernel
theorem x_171_54 : Tr sc d 171 (54, [l0, l1, l2, l3, l4, l5], [.ref k0], h) Q = Tr sc d 171 (56, [l0, l1, l2, l3, l4, l5], [.int 60, .ref k0], h) Q := t_go k_171_54 rfl
theorem k_171_56 : lk 171 56 = some (.iload_n 1, 57, 1, 0, .null) := by decide +kernel
theorem x_171_56 : Tr sc d 171 (56, [l0, some (.int x), l2, l3, l4, l5], [.int i1, .ref k0], h) Q = Tr sc d 171 (57, [l0, some (.int x), l2, l3, l4, l5], [.int x, .int i1, .ref k0], h) Q := t_iload_n k_171_56 rfl
theorem k_171_57 : lk 171 57 = some (.imul, 58, 0, 0, .null) := by decide +kernel
theorem x_171_57 : Tr sc d 171 (57, [l0, l1, l2, l3, l4, l5], [.int i2, .int i1, .ref k0], h) Q = Tr sc d 171 (58, [l0, l1, l2, l3, l4, l5], [.int (i1 * i2), .ref k0], h) Q := t_go k_171_57 rfl
theorem k_171_58 : lk 171 58 = some (.iload_n 2, 59, 2, 0, .null) := by decide +kernel
theorem x_171_58 : Tr sc d 171 (58, [l0, l1, some (.int x), l3, l4, l5], [.int i1, .ref k0], h) Q = Tr sc d 171 (59, [l0, l1, some (.int x), l3, l4, l5], [.int x, .int i1, .ref k0], h) Q := t_iload_n k_171_58 rfl
theorem k_171_59 : lk 171 59 = some (.iadd, 60, 0, 0, .null) := by decide +kernel
theorem x_171_59 : Tr sc d 171 (59, [l0, l1, l2, l3, l4, l5], [.int i2, .int i1, .ref k0], h) Q = Tr sc d 171 (60, [l0, l1, l2, l3, l4, l5], [.int (i1 + i2), .ref k0], h) Q := t_go k_171_59 rfl
theorem k_171_60 : lk 171 60 = some (.iload_n 3, 61, 3, 0, .null) := by decide +kernel
theorem x_171_60 : Tr sc d 171 (60, [l0, l1, l2, some (.int x), l4, l5], [.int i1, .ref k0], h) Q = Tr sc d 171 (61, [l0, l1, l2, some (.int x), l4, l5], [.int x, .int i1, .ref k0], h) Q := t_iload_n k_171_60 rfl
theorem k_171_61 : lk 171 61 = some (.i2b, 62, 0, 0, .null) := by decide +kernel
theorem x_171_61 : Tr sc d 171 (61, [l0, l1, l2, l3, l4, l5], [.int i2, .int i1, .ref k0], h) Q = Tr sc d 171 (62, [l0, l1, l2, l3, l4, l5], [.int i2.toInt8.toInt32, .int i1, .ref k0], h) Q := t_go k_171_61 rfl
theorem k_171_62 : lk 171 62 = some (.iastore, 63, 0, 0, .null) := by decide +kernel
theorem x_171_62 : Tr sc d 171 (62, [l0, l1, l2, l3, l4, l5], [.int i2, .int i1, .ref k0], h) Q = ((okp h k0 11 && inb i1 (LN k0)) = true ∧ Tr sc d 171 (63, [l0, l1, l2, l3, l4, l5], [], (sI h k0 i1.toNatClampNeg i2)) Q) := t_gd k_171_62 rfl
theorem k_171_63 : lk 171 63 = some (.iload 5, 65, 5, 0, .null) := by decide +kernel
theorem x_171_63 : Tr sc d 171 (63, [l0, l1, l2, l3, l4, some (.int x)], [], h) Q = Tr sc d 171 (65, [l0, l1, l2, l3, l4, some (.int x)], [.int x], h) Q := t_iload k_171_63 rfl
theorem k_171_65 : lk 171 65 = some (.sipush 1000, 68, 0, 0, .int 1000) := by decide +kernel
theorem x_171_65 : Tr sc d 171 (65, [l0, l1, l2, l3, l4, l5], [.int i0], h) Q = Tr sc d 171 (68, [l0, l1, l2, l3, l4, l5], [.int 1000, .int i0], h) Q := t_go k_171_65 rfl
theorem k_171_68 : lk 171 68 = some (.iadd, 69, 0, 0, .null) := by decide +kernel
theorem x_171_68 : Tr sc d 171 (68, [l0, l1, l2, l3, l4, l5], [.int i1, .int i0], h) Q = Tr sc d 171 (69, [l0, l1, l2, l3, l4, l5], [.int (i0 + i1)], h) Q := t_go k_171_68 rfl
theorem k_171_69 : lk 171 69 = some (.ireturn, 70, 0, 0, .null) := by decide +kernel
theorem x_171_69 : Tr sc d 171 (69, [l0, l1, l2, l3, l4, l5], [.int i0], h) Q = Q (some (.int i0), h) := t_ret k_171_69 (by rw [r_171]; rfl)
theorem e_171 : Tr sc d 171 (ent0 171 [.ref k0, .int i1, .int i2, .int i3] h) Q = Tr sc d 171 (0, [some (.ref k0), some (.int i1), some (.int i2), some (.int i3), none, none], [], h) Q := by
  have e : mL 171 = 6 := by decide +kernel
  unfold ent0
  rw [e]
  rfl
theorem r_172 : mR 172 = some .int := by decide +kernel
theorem k_172_0 : lk 172 0 = some (.aload_n 0, 1, 0, 0, .null) := by decide +kernel
theorem x_172_0 : Tr sc d 172 (0, [some (.ref xk), l1], [], h) Q = Tr sc d 172 (1, [some (.ref xk), l1], [.ref xk], h) Q := t_aload_n k_172_0 rfl
theorem k_172_1 : lk 172 1 = some (.getfield 169, 4, 10, 14, .int 0) := by decide +kernel
theorem x_172_1 : Tr sc d 172 (1, [l0, l1], [.ref k0], h) Q = (okp h k0 10 = true ∧ Tr sc d 172 (4, [l0, l1], [.int (hI h k0 14)], h) Q) := t_gd k_172_1 rfl
theorem k_172_4 : lk 172 4 = some (.aload_n 0, 5, 0, 0, .null) := by decide +kernel
theorem x_172_4 : Tr sc d 172 (4, [some (.ref xk), l1], [.int i0], h) Q = Tr sc d 172 (5, [some (.ref xk), l1], [.ref xk, .int i0], h) Q := t_aload_n k_172_4 rfl
theorem k_172_5 : lk 172 5 = some (.getfield 26, 8, 10, 9, .null) := by decide +kernel
theorem x_172_5 : Tr sc d 172 (5, [l0, l1], [.ref k1, .int i0], h) Q = (okp h k1 10 = true ∧ ∃ q, hR h k1 9 = some q ∧ Tr sc d 172 (8, [l0, l1], [.ref q, .int i0], h) Q) := t_getr k_172_5
theorem k_172_8 : lk 172 8 = some (.iload_n 1, 9, 1, 0, .null) := by decide +kernel
theorem x_172_8 : Tr sc d 172 (8, [l0, some (.int x)], [.ref k1, .int i0], h) Q = Tr sc d 172 (9, [l0, some (.int x)], [.int x, .ref k1, .int i0], h) Q := t_iload_n k_172_8 rfl
theorem k_172_9 : lk 172 9 = some (.iaload, 10, 0, 0, .null) := by decide +kernel
theorem x_172_9 : Tr sc d 172 (9, [l0, l1], [.int i2, .ref k1, .int i0], h) Q = (iOk sc h k1 i2 ∧ Tr sc d 172 (10, [l0, l1], [.int (iRd sc h k1 i2), .int i0], h) Q) := t_iald k_172_9
theorem k_172_10 : lk 172 10 = some (.if_icmp .ge 20, 13, 30, 0, .null) := by decide +kernel
theorem x_172_10 : Tr sc d 172 (10, [l0, l1], [.int i1, .int i0], h) Q = if i1 ≤ i0 then Tr sc d 172 (30, [l0, l1], [], h) Q else Tr sc d 172 (13, [l0, l1], [], h) Q := t_if k_172_10 rfl
theorem k_172_13 : lk 172 13 = some (.aload_n 0, 14, 0, 0, .null) := by decide +kernel
theorem x_172_13 : Tr sc d 172 (13, [some (.ref xk), l1], [], h) Q = Tr sc d 172 (14, [some (.ref xk), l1], [.ref xk], h) Q := t_aload_n k_172_13 rfl
theorem k_172_14 : lk 172 14 = some (.getfield 29, 17, 10, 10, .null) := by decide +kernel
theorem x_172_14 : Tr sc d 172 (14, [l0, l1], [.ref k0], h) Q = (okp h k0 10 = true ∧ ∃ q, hR h k0 10 = some q ∧ Tr sc d 172 (17, [l0, l1], [.ref q], h) Q) := t_getr k_172_14
theorem k_172_17 : lk 172 17 = some (.bipush 60, 19, 0, 0, .int 60) := by decide +kernel
theorem x_172_17 : Tr sc d 172 (17, [l0, l1], [.ref k0], h) Q = Tr sc d 172 (19, [l0, l1], [.int 60, .ref k0], h) Q := t_go k_172_17 rfl
theorem k_172_19 : lk 172 19 = some (.iload_n 1, 20, 1, 0, .null) := by decide +kernel
theorem x_172_19 : Tr sc d 172 (19, [l0, some (.int x)], [.int i1, .ref k0], h) Q = Tr sc d 172 (20, [l0, some (.int x)], [.int x, .int i1, .ref k0], h) Q := t_iload_n k_172_19 rfl
theorem k_172_20 : lk 172 20 = some (.imul, 21, 0, 0, .null) := by decide +kernel
theorem x_172_20 : Tr sc d 172 (20, [l0, l1], [.int i2, .int i1, .ref k0], h) Q = Tr sc d 172 (21, [l0, l1], [.int (i1 * i2), .ref k0], h) Q := t_go k_172_20 rfl
theorem k_172_21 : lk 172 21 = some (.aload_n 0, 22, 0, 0, .null) := by decide +kernel
theorem x_172_21 : Tr sc d 172 (21, [some (.ref xk), l1], [.int i1, .ref k0], h) Q = Tr sc d 172 (22, [some (.ref xk), l1], [.ref xk, .int i1, .ref k0], h) Q := t_aload_n k_172_21 rfl
theorem k_172_22 : lk 172 22 = some (.getfield 169, 25, 10, 14, .int 0) := by decide +kernel
theorem x_172_22 : Tr sc d 172 (22, [l0, l1], [.ref k2, .int i1, .ref k0], h) Q = (okp h k2 10 = true ∧ Tr sc d 172 (25, [l0, l1], [.int (hI h k2 14), .int i1, .ref k0], h) Q) := t_gd k_172_22 rfl
theorem k_172_25 : lk 172 25 = some (.iadd, 26, 0, 0, .null) := by decide +kernel
theorem x_172_25 : Tr sc d 172 (25, [l0, l1], [.int i2, .int i1, .ref k0], h) Q = Tr sc d 172 (26, [l0, l1], [.int (i1 + i2), .ref k0], h) Q := t_go k_172_25 rfl
theorem k_172_26 : lk 172 26 = some (.iaload, 27, 0, 0, .null) := by decide +kernel
theorem x_172_26 : Tr sc d 172 (26, [l0, l1], [.int i1, .ref k0], h) Q = (iOk sc h k0 i1 ∧ Tr sc d 172 (27, [l0, l1], [.int (iRd sc h k0 i1)], h) Q) := t_iald k_172_26
theorem k_172_27 : lk 172 27 = some (.goto 5, 30, 32, 0, .null) := by decide +kernel
theorem x_172_27 : Tr sc d 172 (27, [l0, l1], [.int i0], h) Q = Tr sc d 172 (32, [l0, l1], [.int i0], h) Q := t_go k_172_27 rfl
theorem k_172_30 : lk 172 30 = some (.bipush (-9), 32, 0, 0, .int (-9)) := by decide +kernel
theorem x_172_30 : Tr sc d 172 (30, [l0, l1], [], h) Q = Tr sc d 172 (32, [l0, l1], [.int (-9)], h) Q := t_go k_172_30 rfl
theorem k_172_32 : lk 172 32 = some (.ireturn, 33, 0, 0, .null) := by decide +kernel
theorem x_172_32 : Tr sc d 172 (32, [l0, l1], [.int i0], h) Q = Q (some (.int i0), h) := t_ret k_172_32 (by rw [r_172]; rfl)
theorem e_172 : Tr sc d 172 (ent0 172 [.ref k0, .int i1] h) Q = Tr sc d 172 (0, [some (.ref k0), some (.int i1)], [], h) Q := by
  have e : mL 172 = 2 := by decide +kernel
  unfold ent0
  rw [e]
  rfl
theorem r_173 : mR 173 = some .boolean := by decide +kernel
theorem k_173_0 : lk 173 0 = some (.aload_n 0, 1, 0, 0, .null) := by decide +kernel
theorem x_173_0 : Tr sc d 173 (0, [some (.ref xk), l1, l2], [], h) Q = Tr sc d 173 (1, [some (.ref xk), l1, l2], [.ref xk], h) Q := t_aload_n k_173_0 rfl
theorem k_173_1 : lk 173 1 = some (.iload_n 1, 2, 1, 0, .null) := by decide +kernel
theorem x_173_1 : Tr sc d 173 (1, [l0, some (.int x), l2], [.ref k0], h) Q = Tr sc d 173 (2, [l0, some (.int x), l2], [.int x, .ref k0], h) Q := t_iload_n k_173_1 rfl
theorem k_173_2 : lk 173 2 = some (.invokevirtual 172, 5, 172, 1, .null) := by decide +kernel
theorem x_173_2 : Tr sc (d + 1) 173 (2, [l0, l1, l2], [.int i1, .ref k0], h) Q = (okp h k0 10 = true ∧ Tr sc d 172 (ent0 172 [.ref k0, .int i1] h) (fun z => Tr sc (d + 1) 173 (5, [l0, l1, l2], z.1.toList ++ [], z.2) Q)) := t_cv (as := [.int i1]) (r := []) k_173_2 rfl rfl (Nat.le_of_ble_eq_true rfl) (Nat.le_of_ble_eq_true rfl) (Nat.le_of_ble_eq_true rfl)
theorem k_173_5 : lk 173 5 = some (.bipush 45, 7, 0, 0, .int 45) := by decide +kernel
theorem x_173_5 : Tr sc d 173 (5, [l0, l1, l2], [.int i0], h) Q = Tr sc d 173 (7, [l0, l1, l2], [.int 45, .int i0], h) Q := t_go k_173_5 rfl
theorem k_173_7 : lk 173 7 = some (.if_icmp .ne 7, 10, 14, 0, .null) := by decide +kernel
theorem x_173_7 : Tr sc d 173 (7, [l0, l1, l2], [.int i1, .int i0], h) Q = if i0 = i1 then Tr sc d 173 (10, [l0, l1, l2], [], h) Q else Tr sc d 173 (14, [l0, l1, l2], [], h) Q := t_if k_173_7 rfl
theorem k_173_10 : lk 173 10 = some (.iconst 1, 11, 0, 0, .int 1) := by decide +kernel
theorem x_173_10 : Tr sc d 173 (10, [l0, l1, l2], [], h) Q = Tr sc d 173 (11, [l0, l1, l2], [.int 1], h) Q := t_go k_173_10 rfl
theorem k_173_11 : lk 173 11 = some (.goto 4, 14, 15, 0, .null) := by decide +kernel
theorem x_173_11 : Tr sc d 173 (11, [l0, l1, l2], [.int i0], h) Q = Tr sc d 173 (15, [l0, l1, l2], [.int i0], h) Q := t_go k_173_11 rfl
theorem k_173_14 : lk 173 14 = some (.iconst 0, 15, 0, 0, .int 0) := by decide +kernel
theorem x_173_14 : Tr sc d 173 (14, [l0, l1, l2], [], h) Q = Tr sc d 173 (15, [l0, l1, l2], [.int 0], h) Q := t_go k_173_14 rfl
theorem k_173_15 : lk 173 15 = some (.istore_n 2, 16, 2, 0, .null) := by decide +kernel
theorem x_173_15 : Tr sc d 173 (15, [l0, l1, l2], [.int i0], h) Q = Tr sc d 173 (16, [l0, cl2 l1, some (.int i0)], [], h) Q := t_istore_n k_173_15 (Nat.le_of_ble_eq_true rfl)
theorem k_173_16 : lk 173 16 = some (.aload_n 0, 17, 0, 0, .null) := by decide +kernel
theorem x_173_16 : Tr sc d 173 (16, [some (.ref xk), l1, l2], [], h) Q = Tr sc d 173 (17, [some (.ref xk), l1, l2], [.ref xk], h) Q := t_aload_n k_173_16 rfl
theorem k_173_17 : lk 173 17 = some (.dup, 18, 0, 0, .null) := by decide +kernel
theorem x_173_17 : Tr sc d 173 (17, [l0, l1, l2], [.ref k0], h) Q = Tr sc d 173 (18, [l0, l1, l2], [.ref k0, .ref k0], h) Q := t_go k_173_17 rfl
theorem k_173_18 : lk 173 18 = some (.getfield 169, 21, 10, 14, .int 0) := by decide +kernel
theorem x_173_18 : Tr sc d 173 (18, [l0, l1, l2], [.ref k1, .ref k0], h) Q = (okp h k1 10 = true ∧ Tr sc d 173 (21, [l0, l1, l2], [.int (hI h k1 14), .ref k0], h) Q) := t_gd k_173_18 rfl
theorem k_173_21 : lk 173 21 = some (.iload_n 2, 22, 2, 0, .null) := by decide +kernel
theorem x_173_21 : Tr sc d 173 (21, [l0, l1, some (.int x)], [.int i1, .ref k0], h) Q = Tr sc d 173 (22, [l0, l1, some (.int x)], [.int x, .int i1, .ref k0], h) Q := t_iload_n k_173_21 rfl
theorem k_173_22 : lk 173 22 = some (.ifCond .eq 7, 25, 29, 0, .null) := by decide +kernel
theorem x_173_22 : Tr sc d 173 (22, [l0, l1, l2], [.int i2, .int i1, .ref k0], h) Q = if i2 = 0 then Tr sc d 173 (29, [l0, l1, l2], [.int i1, .ref k0], h) Q else Tr sc d 173 (25, [l0, l1, l2], [.int i1, .ref k0], h) Q := t_if k_173_22 rfl
theorem k_173_25 : lk 173 25 = some (.iconst 1, 26, 0, 0, .int 1) := by decide +kernel
theorem x_173_25 : Tr sc d 173 (25, [l0, l1, l2], [.int i1, .ref k0], h) Q = Tr sc d 173 (26, [l0, l1, l2], [.int 1, .int i1, .ref k0], h) Q := t_go k_173_25 rfl
theorem k_173_26 : lk 173 26 = some (.goto 4, 29, 30, 0, .null) := by decide +kernel
theorem x_173_26 : Tr sc d 173 (26, [l0, l1, l2], [.int i2, .int i1, .ref k0], h) Q = Tr sc d 173 (30, [l0, l1, l2], [.int i2, .int i1, .ref k0], h) Q := t_go k_173_26 rfl
theorem k_173_29 : lk 173 29 = some (.iconst 0, 30, 0, 0, .int 0) := by decide +kernel
theorem x_173_29 : Tr sc d 173 (29, [l0, l1, l2], [.int i1, .ref k0], h) Q = Tr sc d 173 (30, [l0, l1, l2], [.int 0, .int i1, .ref k0], h) Q := t_go k_173_29 rfl
theorem k_173_30 : lk 173 30 = some (.iadd, 31, 0, 0, .null) := by decide +kernel
theorem x_173_30 : Tr sc d 173 (30, [l0, l1, l2], [.int i2, .int i1, .ref k0], h) Q = Tr sc d 173 (31, [l0, l1, l2], [.int (i1 + i2), .ref k0], h) Q := t_go k_173_30 rfl
theorem k_173_31 : lk 173 31 = some (.putfield 169, 34, 10, 14, .int 0) := by decide +kernel
theorem x_173_31 : Tr sc d 173 (31, [l0, l1, l2], [.int i1, .ref k0], h) Q = (okp h k0 10 = true ∧ Tr sc d 173 (34, [l0, l1, l2], [], (sI h k0 14 i1)) Q) := t_gd k_173_31 rfl
theorem k_173_34 : lk 173 34 = some (.aload_n 0, 35, 0, 0, .null) := by decide +kernel
theorem x_173_34 : Tr sc d 173 (34, [some (.ref xk), l1, l2], [], h) Q = Tr sc d 173 (35, [some (.ref xk), l1, l2], [.ref xk], h) Q := t_aload_n k_173_34 rfl
theorem k_173_35 : lk 173 35 = some (.iload_n 1, 36, 1, 0, .null) := by decide +kernel
theorem x_173_35 : Tr sc d 173 (35, [l0, some (.int x), l2], [.ref k0], h) Q = Tr sc d 173 (36, [l0, some (.int x), l2], [.int x, .ref k0], h) Q := t_iload_n k_173_35 rfl
theorem k_173_36 : lk 173 36 = some (.invokevirtual 172, 39, 172, 1, .null) := by decide +kernel
theorem x_173_36 : Tr sc (d + 1) 173 (36, [l0, l1, l2], [.int i1, .ref k0], h) Q = (okp h k0 10 = true ∧ Tr sc d 172 (ent0 172 [.ref k0, .int i1] h) (fun z => Tr sc (d + 1) 173 (39, [l0, l1, l2], z.1.toList ++ [], z.2) Q)) := t_cv (as := [.int i1]) (r := []) k_173_36 rfl rfl (Nat.le_of_ble_eq_true rfl) (Nat.le_of_ble_eq_true rfl) (Nat.le_of_ble_eq_true rfl)
theorem k_173_39 : lk 173 39 = some (.bipush 48, 41, 0, 0, .int 48) := by decide +kernel
theorem x_173_39 : Tr sc d 173 (39, [l0, l1, l2], [.int i0], h) Q = Tr sc d 173 (41, [l0, l1, l2], [.int 48, .int i0], h) Q := t_go k_173_39 rfl
theorem k_173_41 : lk 173 41 = some (.bipush 57, 43, 0, 0, .int 57) := by decide +kernel
theorem x_173_41 : Tr sc d 173 (41, [l0, l1, l2], [.int i1, .int i0], h) Q = Tr sc d 173 (43, [l0, l1, l2], [.int 57, .int i1, .int i0], h) Q := t_go k_173_41 rfl
theorem k_173_43 : lk 173 43 = some (.invokestatic 144, 46, 157, 3, .null) := by decide +kernel
theorem x_173_43 : Tr sc (d + 1) 173 (43, [l0, l1, l2], [.int i2, .int i1, .int i0], h) Q = Tr sc d 157 (ent0 157 [.int i0, .int i1, .int i2] h) (fun z => Tr sc (d + 1) 173 (46, [l0, l1, l2], z.1.toList ++ [], z.2) Q) := t_cs (as := [.int i0, .int i1, .int i2]) (r := []) k_173_43 (by decide) rfl rfl (Nat.le_of_ble_eq_true rfl) (Nat.le_of_ble_eq_true rfl)
theorem k_173_46 : lk 173 46 = some (.ifCond .ne 5, 49, 51, 0, .null) := by decide +kernel
theorem x_173_46 : Tr sc d 173 (46, [l0, l1, l2], [.int i0], h) Q = if i0 = 0 then Tr sc d 173 (49, [l0, l1, l2], [], h) Q else Tr sc d 173 (51, [l0, l1, l2], [], h) Q := t_if k_173_46 rfl
theorem k_173_49 : lk 173 49 = some (.iconst 0, 50, 0, 0, .int 0) := by decide +kernel
theorem x_173_49 : Tr sc d 173 (49, [l0, l1, l2], [], h) Q = Tr sc d 173 (50, [l0, l1, l2], [.int 0], h) Q := t_go k_173_49 rfl
theorem k_173_50 : lk 173 50 = some (.ireturn, 51, 0, 0, .null) := by decide +kernel
theorem x_173_50 : Tr sc d 173 (50, [l0, l1, l2], [.int i0], h) Q = (vp_nar .boolean i0 = i0 ∧ Q (some (.int i0), h)) := t_zret k_173_50 r_173
theorem k_173_51 : lk 173 51 = some (.aload_n 0, 52, 0, 0, .null) := by decide +kernel
theorem x_173_51 : Tr sc d 173 (51, [some (.ref xk), l1, l2], [], h) Q = Tr sc d 173 (52, [some (.ref xk), l1, l2], [.ref xk], h) Q := t_aload_n k_173_51 rfl
theorem k_173_52 : lk 173 52 = some (.iload_n 2, 53, 2, 0, .null) := by decide +kernel
theorem x_173_52 : Tr sc d 173 (52, [l0, l1, some (.int x)], [.ref k0], h) Q = Tr sc d 173 (53, [l0, l1, some (.int x)], [.int x, .ref k0], h) Q := t_iload_n k_173_52 rfl
theorem k_173_53 : lk 173 53 = some (.ifCond .eq 14, 56, 67, 0, .null) := by decide +kernel
theorem x_173_53 : Tr sc d 173 (53, [l0, l1, l2], [.int i1, .ref k0], h) Q = if i1 = 0 then Tr sc d 173 (67, [l0, l1, l2], [.ref k0], h) Q else Tr sc d 173 (56, [l0, l1, l2], [.ref k0], h) Q := t_if k_173_53 rfl
theorem k_173_56 : lk 173 56 = some (.bipush 48, 58, 0, 0, .int 48) := by decide +kernel
theorem x_173_56 : Tr sc d 173 (56, [l0, l1, l2], [.ref k0], h) Q = Tr sc d 173 (58, [l0, l1, l2], [.int 48, .ref k0], h) Q := t_go k_173_56 rfl
theorem k_173_58 : lk 173 58 = some (.aload_n 0, 59, 0, 0, .null) := by decide +kernel
theorem x_173_58 : Tr sc d 173 (58, [some (.ref xk), l1, l2], [.int i1, .ref k0], h) Q = Tr sc d 173 (59, [some (.ref xk), l1, l2], [.ref xk, .int i1, .ref k0], h) Q := t_aload_n k_173_58 rfl
theorem k_173_59 : lk 173 59 = some (.iload_n 1, 60, 1, 0, .null) := by decide +kernel
theorem x_173_59 : Tr sc d 173 (59, [l0, some (.int x), l2], [.ref k2, .int i1, .ref k0], h) Q = Tr sc d 173 (60, [l0, some (.int x), l2], [.int x, .ref k2, .int i1, .ref k0], h) Q := t_iload_n k_173_59 rfl
theorem k_173_60 : lk 173 60 = some (.invokevirtual 172, 63, 172, 1, .null) := by decide +kernel
theorem x_173_60 : Tr sc (d + 1) 173 (60, [l0, l1, l2], [.int i3, .ref k2, .int i1, .ref k0], h) Q = (okp h k2 10 = true ∧ Tr sc d 172 (ent0 172 [.ref k2, .int i3] h) (fun z => Tr sc (d + 1) 173 (63, [l0, l1, l2], z.1.toList ++ [.int i1, .ref k0], z.2) Q)) := t_cv (as := [.int i3]) (r := [.int i1, .ref k0]) k_173_60 rfl rfl (Nat.le_of_ble_eq_true rfl) (Nat.le_of_ble_eq_true rfl) (Nat.le_of_ble_eq_true rfl)
theorem k_173_63 : lk 173 63 = some (.isub, 64, 0, 0, .null) := by decide +kernel
theorem x_173_63 : Tr sc d 173 (63, [l0, l1, l2], [.int i2, .int i1, .ref k0], h) Q = Tr sc d 173 (64, [l0, l1, l2], [.int (i1 - i2), .ref k0], h) Q := t_go k_173_63 rfl
theorem k_173_64 : lk 173 64 = some (.goto 11, 67, 75, 0, .null) := by decide +kernel
theorem x_173_64 : Tr sc d 173 (64, [l0, l1, l2], [.int i1, .ref k0], h) Q = Tr sc d 173 (75, [l0, l1, l2], [.int i1, .ref k0], h) Q := t_go k_173_64 rfl
theorem k_173_67 : lk 173 67 = some (.aload_n 0, 68, 0, 0, .null) := by decide +kernel
theorem x_173_67 : Tr sc d 173 (67, [some (.ref xk), l1, l2], [.ref k0], h) Q = Tr sc d 173 (68, [some (.ref xk), l1, l2], [.ref xk, .ref k0], h) Q := t_aload_n k_173_67 rfl
theorem k_173_68 : lk 173 68 = some (.iload_n 1, 69, 1, 0, .null) := by decide +kernel
theorem x_173_68 : Tr sc d 173 (68, [l0, some (.int x), l2], [.ref k1, .ref k0], h) Q = Tr sc d 173 (69, [l0, some (.int x), l2], [.int x, .ref k1, .ref k0], h) Q := t_iload_n k_173_68 rfl
theorem k_173_69 : lk 173 69 = some (.invokevirtual 172, 72, 172, 1, .null) := by decide +kernel
theorem x_173_69 : Tr sc (d + 1) 173 (69, [l0, l1, l2], [.int i2, .ref k1, .ref k0], h) Q = (okp h k1 10 = true ∧ Tr sc d 172 (ent0 172 [.ref k1, .int i2] h) (fun z => Tr sc (d + 1) 173 (72, [l0, l1, l2], z.1.toList ++ [.ref k0], z.2) Q)) := t_cv (as := [.int i2]) (r := [.ref k0]) k_173_69 rfl rfl (Nat.le_of_ble_eq_true rfl) (Nat.le_of_ble_eq_true rfl) (Nat.le_of_ble_eq_true rfl)
theorem k_173_72 : lk 173 72 = some (.bipush 48, 74, 0, 0, .int 48) := by decide +kernel
theorem x_173_72 : Tr sc d 173 (72, [l0, l1, l2], [.int i1, .ref k0], h) Q = Tr sc d 173 (74, [l0, l1, l2], [.int 48, .int i1, .ref k0], h) Q := t_go k_173_72 rfl
theorem k_173_74 : lk 173 74 = some (.isub, 75, 0, 0, .null) := by decide +kernel
theorem x_173_74 : Tr sc d 173 (74, [l0, l1, l2], [.int i2, .int i1, .ref k0], h) Q = Tr sc d 173 (75, [l0, l1, l2], [.int (i1 - i2), .ref k0], h) Q := t_go k_173_74 rfl
theorem k_173_75 : lk 173 75 = some (.putfield 175, 78, 10, 15, .int 0) := by decide +kernel
theorem x_173_75 : Tr sc d 173 (75, [l0, l1, l2], [.int i1, .ref k0], h) Q = (okp h k0 10 = true ∧ Tr sc d 173 (78, [l0, l1, l2], [], (sI h k0 15 i1)) Q) := t_gd k_173_75 rfl
theorem k_173_78 : lk 173 78 = some (.aload_n 0, 79, 0, 0, .null) := by decide +kernel
theorem x_173_78 : Tr sc d 173 (78, [some (.ref xk), l1, l2], [], h) Q = Tr sc d 173 (79, [some (.ref xk), l1, l2], [.ref xk], h) Q := t_aload_n k_173_78 rfl
theorem k_173_79 : lk 173 79 = some (.dup, 80, 0, 0, .null) := by decide +kernel
theorem x_173_79 : Tr sc d 173 (79, [l0, l1, l2], [.ref k0], h) Q = Tr sc d 173 (80, [l0, l1, l2], [.ref k0, .ref k0], h) Q := t_go k_173_79 rfl
theorem k_173_80 : lk 173 80 = some (.getfield 169, 83, 10, 14, .int 0) := by decide +kernel
theorem x_173_80 : Tr sc d 173 (80, [l0, l1, l2], [.ref k1, .ref k0], h) Q = (okp h k1 10 = true ∧ Tr sc d 173 (83, [l0, l1, l2], [.int (hI h k1 14), .ref k0], h) Q) := t_gd k_173_80 rfl
theorem k_173_83 : lk 173 83 = some (.iconst 1, 84, 0, 0, .int 1) := by decide +kernel
theorem x_173_83 : Tr sc d 173 (83, [l0, l1, l2], [.int i1, .ref k0], h) Q = Tr sc d 173 (84, [l0, l1, l2], [.int 1, .int i1, .ref k0], h) Q := t_go k_173_83 rfl
theorem k_173_84 : lk 173 84 = some (.iadd, 85, 0, 0, .null) := by decide +kernel
theorem x_173_84 : Tr sc d 173 (84, [l0, l1, l2], [.int i2, .int i1, .ref k0], h) Q = Tr sc d 173 (85, [l0, l1, l2], [.int (i1 + i2), .ref k0], h) Q := t_go k_173_84 rfl
theorem k_173_85 : lk 173 85 = some (.putfield 169, 88, 10, 14, .int 0) := by decide +kernel
theorem x_173_85 : Tr sc d 173 (85, [l0, l1, l2], [.int i1, .ref k0], h) Q = (okp h k0 10 = true ∧ Tr sc d 173 (88, [l0, l1, l2], [], (sI h k0 14 i1)) Q) := t_gd k_173_85 rfl
theorem k_173_88 : lk 173 88 = some (.iconst 1, 89, 0, 0, .int 1) := by decide +kernel
theorem x_173_88 : Tr sc d 173 (88, [l0, l1, l2], [], h) Q = Tr sc d 173 (89, [l0, l1, l2], [.int 1], h) Q := t_go k_173_88 rfl
theorem k_173_89 : lk 173 89 = some (.ireturn, 90, 0, 0, .null) := by decide +kernel
theorem x_173_89 : Tr sc d 173 (89, [l0, l1, l2], [.int i0], h) Q = (vp_nar .boolean i0 = i0 ∧ Q (some (.int i0), h)) := t_zret k_173_89 r_173
theorem e_173 : Tr sc d 173 (ent0 173 [.ref k0, .int i1] h) Q = Tr sc d 173 (0, [some (.ref k0), some (.int i1), none], [], h) Q := by
  have e : mL 173 = 3 := by decide +kernel
  unfold ent0
  rw [e]
  rfl
theorem r_174 : mR 174 = some .int := by decide +kernel
theorem k_174_0 : lk 174 0 = some (.aload_n 0, 1, 0, 0, .null) := by decide +kernel
theorem x_174_0 : Tr sc d 174 (0, [some (.ref xk), l1, l2], [], h) Q = Tr sc d 174 (1, [some (.ref xk), l1, l2], [.ref xk], h) Q := t_aload_n k_174_0 rfl
theorem k_174_1 : lk 174 1 = some (.iconst 0, 2, 0, 0, .int 0) := by decide +kernel
theorem x_174_1 : Tr sc d 174 (1, [l0, l1, l2], [.ref k0], h) Q = Tr sc d 174 (2, [l0, l1, l2], [.int 0, .ref k0], h) Q := t_go k_174_1 rfl
theorem k_174_2 : lk 174 2 = some (.putfield 169, 5, 10, 14, .int 0) := by decide +kernel
theorem x_174_2 : Tr sc d 174 (2, [l0, l1, l2], [.int i1, .ref k0], h) Q = (okp h k0 10 = true ∧ Tr sc d 174 (5, [l0, l1, l2], [], (sI h k0 14 i1)) Q) := t_gd k_174_2 rfl
theorem k_174_5 : lk 174 5 = some (.aload_n 0, 6, 0, 0, .null) := by decide +kernel
theorem x_174_5 : Tr sc d 174 (5, [some (.ref xk), l1, l2], [], h) Q = Tr sc d 174 (6, [some (.ref xk), l1, l2], [.ref xk], h) Q := t_aload_n k_174_5 rfl
theorem k_174_6 : lk 174 6 = some (.iconst 0, 7, 0, 0, .int 0) := by decide +kernel
theorem x_174_6 : Tr sc d 174 (6, [l0, l1, l2], [.ref k0], h) Q = Tr sc d 174 (7, [l0, l1, l2], [.int 0, .ref k0], h) Q := t_go k_174_6 rfl
theorem k_174_7 : lk 174 7 = some (.putfield 178, 10, 10, 12, .int 0) := by decide +kernel
theorem x_174_7 : Tr sc d 174 (7, [l0, l1, l2], [.int i1, .ref k0], h) Q = (okp h k0 10 = true ∧ Tr sc d 174 (10, [l0, l1, l2], [], (sI h k0 12 i1)) Q) := t_gd k_174_7 rfl
theorem k_174_10 : lk 174 10 = some (.aload_n 0, 11, 0, 0, .null) := by decide +kernel
theorem x_174_10 : Tr sc d 174 (10, [some (.ref xk), l1, l2], [], h) Q = Tr sc d 174 (11, [some (.ref xk), l1, l2], [.ref xk], h) Q := t_aload_n k_174_10 rfl
theorem k_174_11 : lk 174 11 = some (.iload_n 1, 12, 1, 0, .null) := by decide +kernel
theorem x_174_11 : Tr sc d 174 (11, [l0, some (.int x), l2], [.ref k0], h) Q = Tr sc d 174 (12, [l0, some (.int x), l2], [.int x, .ref k0], h) Q := t_iload_n k_174_11 rfl
theorem k_174_12 : lk 174 12 = some (.invokevirtual 172, 15, 172, 1, .null) := by decide +kernel
theorem x_174_12 : Tr sc (d + 1) 174 (12, [l0, l1, l2], [.int i1, .ref k0], h) Q = (okp h k0 10 = true ∧ Tr sc d 172 (ent0 172 [.ref k0, .int i1] h) (fun z => Tr sc (d + 1) 174 (15, [l0, l1, l2], z.1.toList ++ [], z.2) Q)) := t_cv (as := [.int i1]) (r := []) k_174_12 rfl rfl (Nat.le_of_ble_eq_true rfl) (Nat.le_of_ble_eq_true rfl) (Nat.le_of_ble_eq_true rfl)
theorem k_174_15 : lk 174 15 = some (.bipush 50, 17, 0, 0, .int 50) := by decide +kernel
theorem x_174_15 : Tr sc d 174 (15, [l0, l1, l2], [.int i0], h) Q = Tr sc d 174 (17, [l0, l1, l2], [.int 50, .int i0], h) Q := t_go k_174_15 rfl
theorem k_174_17 : lk 174 17 = some (.bipush 52, 19, 0, 0, .int 52) := by decide +kernel
theorem x_174_17 : Tr sc d 174 (17, [l0, l1, l2], [.int i1, .int i0], h) Q = Tr sc d 174 (19, [l0, l1, l2], [.int 52, .int i1, .int i0], h) Q := t_go k_174_17 rfl
theorem k_174_19 : lk 174 19 = some (.invokestatic 144, 22, 157, 3, .null) := by decide +kernel
theorem x_174_19 : Tr sc (d + 1) 174 (19, [l0, l1, l2], [.int i2, .int i1, .int i0], h) Q = Tr sc d 157 (ent0 157 [.int i0, .int i1, .int i2] h) (fun z => Tr sc (d + 1) 174 (22, [l0, l1, l2], z.1.toList ++ [], z.2) Q) := t_cs (as := [.int i0, .int i1, .int i2]) (r := []) k_174_19 (by decide) rfl rfl (Nat.le_of_ble_eq_true rfl) (Nat.le_of_ble_eq_true rfl)
theorem k_174_22 : lk 174 22 = some (.ifCond .ne 5, 25, 27, 0, .null) := by decide +kernel
theorem x_174_22 : Tr sc d 174 (22, [l0, l1, l2], [.int i0], h) Q = if i0 = 0 then Tr sc d 174 (25, [l0, l1, l2], [], h) Q else Tr sc d 174 (27, [l0, l1, l2], [], h) Q := t_if k_174_22 rfl
theorem k_174_25 : lk 174 25 = some (.iconst 0, 26, 0, 0, .int 0) := by decide +kernel
theorem x_174_25 : Tr sc d 174 (25, [l0, l1, l2], [], h) Q = Tr sc d 174 (26, [l0, l1, l2], [.int 0], h) Q := t_go k_174_25 rfl
theorem k_174_26 : lk 174 26 = some (.ireturn, 27, 0, 0, .null) := by decide +kernel
theorem x_174_26 : Tr sc d 174 (26, [l0, l1, l2], [.int i0], h) Q = Q (some (.int i0), h) := t_ret k_174_26 (by rw [r_174]; rfl)
theorem k_174_27 : lk 174 27 = some (.aload_n 0, 28, 0, 0, .null) := by decide +kernel
theorem x_174_27 : Tr sc d 174 (27, [some (.ref xk), l1, l2], [], h) Q = Tr sc d 174 (28, [some (.ref xk), l1, l2], [.ref xk], h) Q := t_aload_n k_174_27 rfl
theorem k_174_28 : lk 174 28 = some (.aload_n 0, 29, 0, 0, .null) := by decide +kernel
theorem x_174_28 : Tr sc d 174 (28, [some (.ref xk), l1, l2], [.ref k0], h) Q = Tr sc d 174 (29, [some (.ref xk), l1, l2], [.ref xk, .ref k0], h) Q := t_aload_n k_174_28 rfl
theorem k_174_29 : lk 174 29 = some (.iload_n 1, 30, 1, 0, .null) := by decide +kernel
theorem x_174_29 : Tr sc d 174 (29, [l0, some (.int x), l2], [.ref k1, .ref k0], h) Q = Tr sc d 174 (30, [l0, some (.int x), l2], [.int x, .ref k1, .ref k0], h) Q := t_iload_n k_174_29 rfl
theorem k_174_30 : lk 174 30 = some (.invokevirtual 172, 33, 172, 1, .null) := by decide +kernel
theorem x_174_30 : Tr sc (d + 1) 174 (30, [l0, l1, l2], [.int i2, .ref k1, .ref k0], h) Q = (okp h k1 10 = true ∧ Tr sc d 172 (ent0 172 [.ref k1, .int i2] h) (fun z => Tr sc (d + 1) 174 (33, [l0, l1, l2], z.1.toList ++ [.ref k0], z.2) Q)) := t_cv (as := [.int i2]) (r := [.ref k0]) k_174_30 rfl rfl (Nat.le_of_ble_eq_true rfl) (Nat.le_of_ble_eq_true rfl) (Nat.le_of_ble_eq_true rfl)
theorem k_174_33 : lk 174 33 = some (.bipush 48, 35, 0, 0, .int 48) := by decide +kernel
theorem x_174_33 : Tr sc d 174 (33, [l0, l1, l2], [.int i1, .ref k0], h) Q = Tr sc d 174 (35, [l0, l1, l2], [.int 48, .int i1, .ref k0], h) Q := t_go k_174_33 rfl
theorem k_174_35 : lk 174 35 = some (.isub, 36, 0, 0, .null) := by decide +kernel
theorem x_174_35 : Tr sc d 174 (35, [l0, l1, l2], [.int i2, .int i1, .ref k0], h) Q = Tr sc d 174 (36, [l0, l1, l2], [.int (i1 - i2), .ref k0], h) Q := t_go k_174_35 rfl
theorem k_174_36 : lk 174 36 = some (.putfield 181, 39, 10, 11, .int 0) := by decide +kernel
theorem x_174_36 : Tr sc d 174 (36, [l0, l1, l2], [.int i1, .ref k0], h) Q = (okp h k0 10 = true ∧ Tr sc d 174 (39, [l0, l1, l2], [], (sI h k0 11 i1)) Q) := t_gd k_174_36 rfl
theorem k_174_39 : lk 174 39 = some (.aload_n 0, 40, 0, 0, .null) := by decide +kernel
theorem x_174_39 : Tr sc d 174 (39, [some (.ref xk), l1, l2], [], h) Q = Tr sc d 174 (40, [some (.ref xk), l1, l2], [.ref xk], h) Q := t_aload_n k_174_39 rfl
theorem k_174_40 : lk 174 40 = some (.iconst 1, 41, 0, 0, .int 1) := by decide +kernel
theorem x_174_40 : Tr sc d 174 (40, [l0, l1, l2], [.ref k0], h) Q = Tr sc d 174 (41, [l0, l1, l2], [.int 1, .ref k0], h) Q := t_go k_174_40 rfl
theorem k_174_41 : lk 174 41 = some (.putfield 169, 44, 10, 14, .int 0) := by decide +kernel
theorem x_174_41 : Tr sc d 174 (41, [l0, l1, l2], [.int i1, .ref k0], h) Q = (okp h k0 10 = true ∧ Tr sc d 174 (44, [l0, l1, l2], [], (sI h k0 14 i1)) Q) := t_gd k_174_41 rfl
theorem k_174_44 : lk 174 44 = some (.aload_n 0, 45, 0, 0, .null) := by decide +kernel
theorem x_174_44 : Tr sc d 174 (44, [some (.ref xk), l1, l2], [], h) Q = Tr sc d 174 (45, [some (.ref xk), l1, l2], [.ref xk], h) Q := t_aload_n k_174_44 rfl
theorem k_174_45 : lk 174 45 = some (.getfield 178, 48, 10, 12, .int 0) := by decide +kernel
theorem x_174_45 : Tr sc d 174 (45, [l0, l1, l2], [.ref k0], h) Q = (okp h k0 10 = true ∧ Tr sc d 174 (48, [l0, l1, l2], [.int (hI h k0 12)], h) Q) := t_gd k_174_45 rfl
theorem k_174_48 : lk 174 48 = some (.ifCond .eq 16, 51, 64, 0, .null) := by decide +kernel
theorem x_174_48 : Tr sc d 174 (48, [l0, l1, l2], [.int i0], h) Q = if i0 = 0 then Tr sc d 174 (64, [l0, l1, l2], [], h) Q else Tr sc d 174 (51, [l0, l1, l2], [], h) Q := t_if k_174_48 rfl
theorem k_174_51 : lk 174 51 = some (.aload_n 0, 52, 0, 0, .null) := by decide +kernel
theorem x_174_51 : Tr sc d 174 (51, [some (.ref xk), l1, l2], [], h) Q = Tr sc d 174 (52, [some (.ref xk), l1, l2], [.ref xk], h) Q := t_aload_n k_174_51 rfl
theorem k_174_52 : lk 174 52 = some (.getfield 169, 55, 10, 14, .int 0) := by decide +kernel
theorem x_174_52 : Tr sc d 174 (52, [l0, l1, l2], [.ref k0], h) Q = (okp h k0 10 = true ∧ Tr sc d 174 (55, [l0, l1, l2], [.int (hI h k0 14)], h) Q) := t_gd k_174_52 rfl
theorem k_174_55 : lk 174 55 = some (.aload_n 0, 56, 0, 0, .null) := by decide +kernel
theorem x_174_55 : Tr sc d 174 (55, [some (.ref xk), l1, l2], [.int i0], h) Q = Tr sc d 174 (56, [some (.ref xk), l1, l2], [.ref xk, .int i0], h) Q := t_aload_n k_174_55 rfl
theorem k_174_56 : lk 174 56 = some (.getfield 26, 59, 10, 9, .null) := by decide +kernel
theorem x_174_56 : Tr sc d 174 (56, [l0, l1, l2], [.ref k1, .int i0], h) Q = (okp h k1 10 = true ∧ ∃ q, hR h k1 9 = some q ∧ Tr sc d 174 (59, [l0, l1, l2], [.ref q, .int i0], h) Q) := t_getr k_174_56
theorem k_174_59 : lk 174 59 = some (.iload_n 1, 60, 1, 0, .null) := by decide +kernel
theorem x_174_59 : Tr sc d 174 (59, [l0, some (.int x), l2], [.ref k1, .int i0], h) Q = Tr sc d 174 (60, [l0, some (.int x), l2], [.int x, .ref k1, .int i0], h) Q := t_iload_n k_174_59 rfl
theorem k_174_60 : lk 174 60 = some (.iaload, 61, 0, 0, .null) := by decide +kernel
theorem x_174_60 : Tr sc d 174 (60, [l0, l1, l2], [.int i2, .ref k1, .int i0], h) Q = (iOk sc h k1 i2 ∧ Tr sc d 174 (61, [l0, l1, l2], [.int (iRd sc h k1 i2), .int i0], h) Q) := t_iald k_174_60
theorem k_174_61 : lk 174 61 = some (.if_icmp .ge 142, 64, 203, 0, .null) := by decide +kernel
theorem x_174_61 : Tr sc d 174 (61, [l0, l1, l2], [.int i1, .int i0], h) Q = if i1 ≤ i0 then Tr sc d 174 (203, [l0, l1, l2], [], h) Q else Tr sc d 174 (64, [l0, l1, l2], [], h) Q := t_if k_174_61 rfl
theorem k_174_64 : lk 174 64 = some (.aload_n 0, 65, 0, 0, .null) := by decide +kernel
theorem x_174_64 : Tr sc d 174 (64, [some (.ref xk), l1, l2], [], h) Q = Tr sc d 174 (65, [some (.ref xk), l1, l2], [.ref xk], h) Q := t_aload_n k_174_64 rfl
theorem k_174_65 : lk 174 65 = some (.iload_n 1, 66, 1, 0, .null) := by decide +kernel
theorem x_174_65 : Tr sc d 174 (65, [l0, some (.int x), l2], [.ref k0], h) Q = Tr sc d 174 (66, [l0, some (.int x), l2], [.int x, .ref k0], h) Q := t_iload_n k_174_65 rfl
theorem k_174_66 : lk 174 66 = some (.invokevirtual 172, 69, 172, 1, .null) := by decide +kernel
theorem x_174_66 : Tr sc (d + 1) 174 (66, [l0, l1, l2], [.int i1, .ref k0], h) Q = (okp h k0 10 = true ∧ Tr sc d 172 (ent0 172 [.ref k0, .int i1] h) (fun z => Tr sc (d + 1) 174 (69, [l0, l1, l2], z.1.toList ++ [], z.2) Q)) := t_cv (as := [.int i1]) (r := []) k_174_66 rfl rfl (Nat.le_of_ble_eq_true rfl) (Nat.le_of_ble_eq_true rfl) (Nat.le_of_ble_eq_true rfl)
theorem k_174_69 : lk 174 69 = some (.bipush 47, 71, 0, 0, .int 47) := by decide +kernel
theorem x_174_69 : Tr sc d 174 (69, [l0, l1, l2], [.int i0], h) Q = Tr sc d 174 (71, [l0, l1, l2], [.int 47, .int i0], h) Q := t_go k_174_69 rfl
theorem k_174_71 : lk 174 71 = some (.if_icmp .ne 12, 74, 83, 0, .null) := by decide +kernel
theorem x_174_71 : Tr sc d 174 (71, [l0, l1, l2], [.int i1, .int i0], h) Q = if i0 = i1 then Tr sc d 174 (74, [l0, l1, l2], [], h) Q else Tr sc d 174 (83, [l0, l1, l2], [], h) Q := t_if k_174_71 rfl
theorem k_174_74 : lk 174 74 = some (.aload_n 0, 75, 0, 0, .null) := by decide +kernel
theorem x_174_74 : Tr sc d 174 (74, [some (.ref xk), l1, l2], [], h) Q = Tr sc d 174 (75, [some (.ref xk), l1, l2], [.ref xk], h) Q := t_aload_n k_174_74 rfl
theorem k_174_75 : lk 174 75 = some (.getfield 178, 78, 10, 12, .int 0) := by decide +kernel
theorem x_174_75 : Tr sc d 174 (75, [l0, l1, l2], [.ref k0], h) Q = (okp h k0 10 = true ∧ Tr sc d 174 (78, [l0, l1, l2], [.int (hI h k0 12)], h) Q) := t_gd k_174_75 rfl
theorem k_174_78 : lk 174 78 = some (.bipush 6, 80, 0, 0, .int 6) := by decide +kernel
theorem x_174_78 : Tr sc d 174 (78, [l0, l1, l2], [.int i0], h) Q = Tr sc d 174 (80, [l0, l1, l2], [.int 6, .int i0], h) Q := t_go k_174_78 rfl
theorem k_174_80 : lk 174 80 = some (.if_icmp .ne 8, 83, 88, 0, .null) := by decide +kernel
theorem x_174_80 : Tr sc d 174 (80, [l0, l1, l2], [.int i1, .int i0], h) Q = if i0 = i1 then Tr sc d 174 (83, [l0, l1, l2], [], h) Q else Tr sc d 174 (88, [l0, l1, l2], [], h) Q := t_if k_174_80 rfl
theorem k_174_83 : lk 174 83 = some (.aload_n 0, 84, 0, 0, .null) := by decide +kernel
theorem x_174_83 : Tr sc d 174 (83, [some (.ref xk), l1, l2], [], h) Q = Tr sc d 174 (84, [some (.ref xk), l1, l2], [.ref xk], h) Q := t_aload_n k_174_83 rfl
theorem k_174_84 : lk 174 84 = some (.getfield 169, 87, 10, 14, .int 0) := by decide +kernel
theorem x_174_84 : Tr sc d 174 (84, [l0, l1, l2], [.ref k0], h) Q = (okp h k0 10 = true ∧ Tr sc d 174 (87, [l0, l1, l2], [.int (hI h k0 14)], h) Q) := t_gd k_174_84 rfl
theorem k_174_87 : lk 174 87 = some (.ireturn, 88, 0, 0, .null) := by decide +kernel
theorem x_174_87 : Tr sc d 174 (87, [l0, l1, l2], [.int i0], h) Q = Q (some (.int i0), h) := t_ret k_174_87 (by rw [r_174]; rfl)
theorem k_174_88 : lk 174 88 = some (.aload_n 0, 89, 0, 0, .null) := by decide +kernel
theorem x_174_88 : Tr sc d 174 (88, [some (.ref xk), l1, l2], [], h) Q = Tr sc d 174 (89, [some (.ref xk), l1, l2], [.ref xk], h) Q := t_aload_n k_174_88 rfl
theorem k_174_89 : lk 174 89 = some (.dup, 90, 0, 0, .null) := by decide +kernel
theorem x_174_89 : Tr sc d 174 (89, [l0, l1, l2], [.ref k0], h) Q = Tr sc d 174 (90, [l0, l1, l2], [.ref k0, .ref k0], h) Q := t_go k_174_89 rfl
theorem k_174_90 : lk 174 90 = some (.getfield 169, 93, 10, 14, .int 0) := by decide +kernel
theorem x_174_90 : Tr sc d 174 (90, [l0, l1, l2], [.ref k1, .ref k0], h) Q = (okp h k1 10 = true ∧ Tr sc d 174 (93, [l0, l1, l2], [.int (hI h k1 14), .ref k0], h) Q) := t_gd k_174_90 rfl
theorem k_174_93 : lk 174 93 = some (.iconst 1, 94, 0, 0, .int 1) := by decide +kernel
theorem x_174_93 : Tr sc d 174 (93, [l0, l1, l2], [.int i1, .ref k0], h) Q = Tr sc d 174 (94, [l0, l1, l2], [.int 1, .int i1, .ref k0], h) Q := t_go k_174_93 rfl
theorem k_174_94 : lk 174 94 = some (.iadd, 95, 0, 0, .null) := by decide +kernel
theorem x_174_94 : Tr sc d 174 (94, [l0, l1, l2], [.int i2, .int i1, .ref k0], h) Q = Tr sc d 174 (95, [l0, l1, l2], [.int (i1 + i2), .ref k0], h) Q := t_go k_174_94 rfl
theorem k_174_95 : lk 174 95 = some (.putfield 169, 98, 10, 14, .int 0) := by decide +kernel
theorem x_174_95 : Tr sc d 174 (95, [l0, l1, l2], [.int i1, .ref k0], h) Q = (okp h k0 10 = true ∧ Tr sc d 174 (98, [l0, l1, l2], [], (sI h k0 14 i1)) Q) := t_gd k_174_95 rfl
theorem k_174_98 : lk 174 98 = some (.aload_n 0, 99, 0, 0, .null) := by decide +kernel
theorem x_174_98 : Tr sc d 174 (98, [some (.ref xk), l1, l2], [], h) Q = Tr sc d 174 (99, [some (.ref xk), l1, l2], [.ref xk], h) Q := t_aload_n k_174_98 rfl
theorem k_174_99 : lk 174 99 = some (.iload_n 1, 100, 1, 0, .null) := by decide +kernel
theorem x_174_99 : Tr sc d 174 (99, [l0, some (.int x), l2], [.ref k0], h) Q = Tr sc d 174 (100, [l0, some (.int x), l2], [.int x, .ref k0], h) Q := t_iload_n k_174_99 rfl
theorem k_174_100 : lk 174 100 = some (.invokevirtual 172, 103, 172, 1, .null) := by decide +kernel
theorem x_174_100 : Tr sc (d + 1) 174 (100, [l0, l1, l2], [.int i1, .ref k0], h) Q = (okp h k0 10 = true ∧ Tr sc d 172 (ent0 172 [.ref k0, .int i1] h) (fun z => Tr sc (d + 1) 174 (103, [l0, l1, l2], z.1.toList ++ [], z.2) Q)) := t_cv (as := [.int i1]) (r := []) k_174_100 rfl rfl (Nat.le_of_ble_eq_true rfl) (Nat.le_of_ble_eq_true rfl) (Nat.le_of_ble_eq_true rfl)
theorem k_174_103 : lk 174 103 = some (.bipush 97, 105, 0, 0, .int 97) := by decide +kernel
theorem x_174_103 : Tr sc d 174 (103, [l0, l1, l2], [.int i0], h) Q = Tr sc d 174 (105, [l0, l1, l2], [.int 97, .int i0], h) Q := t_go k_174_103 rfl
theorem k_174_105 : lk 174 105 = some (.bipush 104, 107, 0, 0, .int 104) := by decide +kernel
theorem x_174_105 : Tr sc d 174 (105, [l0, l1, l2], [.int i1, .int i0], h) Q = Tr sc d 174 (107, [l0, l1, l2], [.int 104, .int i1, .int i0], h) Q := t_go k_174_105 rfl
theorem k_174_107 : lk 174 107 = some (.invokestatic 144, 110, 157, 3, .null) := by decide +kernel
theorem x_174_107 : Tr sc (d + 1) 174 (107, [l0, l1, l2], [.int i2, .int i1, .int i0], h) Q = Tr sc d 157 (ent0 157 [.int i0, .int i1, .int i2] h) (fun z => Tr sc (d + 1) 174 (110, [l0, l1, l2], z.1.toList ++ [], z.2) Q) := t_cs (as := [.int i0, .int i1, .int i2]) (r := []) k_174_107 (by decide) rfl rfl (Nat.le_of_ble_eq_true rfl) (Nat.le_of_ble_eq_true rfl)
theorem k_174_110 : lk 174 110 = some (.ifCond .ne 8, 113, 118, 0, .null) := by decide +kernel
theorem x_174_110 : Tr sc d 174 (110, [l0, l1, l2], [.int i0], h) Q = if i0 = 0 then Tr sc d 174 (113, [l0, l1, l2], [], h) Q else Tr sc d 174 (118, [l0, l1, l2], [], h) Q := t_if k_174_110 rfl
theorem k_174_113 : lk 174 113 = some (.aload_n 0, 114, 0, 0, .null) := by decide +kernel
theorem x_174_113 : Tr sc d 174 (113, [some (.ref xk), l1, l2], [], h) Q = Tr sc d 174 (114, [some (.ref xk), l1, l2], [.ref xk], h) Q := t_aload_n k_174_113 rfl
theorem k_174_114 : lk 174 114 = some (.getfield 169, 117, 10, 14, .int 0) := by decide +kernel
theorem x_174_114 : Tr sc d 174 (114, [l0, l1, l2], [.ref k0], h) Q = (okp h k0 10 = true ∧ Tr sc d 174 (117, [l0, l1, l2], [.int (hI h k0 14)], h) Q) := t_gd k_174_114 rfl
theorem k_174_117 : lk 174 117 = some (.ireturn, 118, 0, 0, .null) := by decide +kernel
theorem x_174_117 : Tr sc d 174 (117, [l0, l1, l2], [.int i0], h) Q = Q (some (.int i0), h) := t_ret k_174_117 (by rw [r_174]; rfl)
theorem k_174_118 : lk 174 118 = some (.aload_n 0, 119, 0, 0, .null) := by decide +kernel
theorem x_174_118 : Tr sc d 174 (118, [some (.ref xk), l1, l2], [], h) Q = Tr sc d 174 (119, [some (.ref xk), l1, l2], [.ref xk], h) Q := t_aload_n k_174_118 rfl
theorem k_174_119 : lk 174 119 = some (.getfield 32, 122, 10, 13, .null) := by decide +kernel
theorem x_174_119 : Tr sc d 174 (119, [l0, l1, l2], [.ref k0], h) Q = (okp h k0 10 = true ∧ ∃ q, hR h k0 13 = some q ∧ Tr sc d 174 (122, [l0, l1, l2], [.ref q], h) Q) := t_getr k_174_119
theorem k_174_122 : lk 174 122 = some (.iconst 3, 123, 0, 0, .int 3) := by decide +kernel
theorem x_174_122 : Tr sc d 174 (122, [l0, l1, l2], [.ref k0], h) Q = Tr sc d 174 (123, [l0, l1, l2], [.int 3, .ref k0], h) Q := t_go k_174_122 rfl
theorem k_174_123 : lk 174 123 = some (.aload_n 0, 124, 0, 0, .null) := by decide +kernel
theorem x_174_123 : Tr sc d 174 (123, [some (.ref xk), l1, l2], [.int i1, .ref k0], h) Q = Tr sc d 174 (124, [some (.ref xk), l1, l2], [.ref xk, .int i1, .ref k0], h) Q := t_aload_n k_174_123 rfl
theorem k_174_124 : lk 174 124 = some (.getfield 178, 127, 10, 12, .int 0) := by decide +kernel
theorem x_174_124 : Tr sc d 174 (124, [l0, l1, l2], [.ref k2, .int i1, .ref k0], h) Q = (okp h k2 10 = true ∧ Tr sc d 174 (127, [l0, l1, l2], [.int (hI h k2 12), .int i1, .ref k0], h) Q) := t_gd k_174_124 rfl
theorem k_174_127 : lk 174 127 = some (.imul, 128, 0, 0, .null) := by decide +kernel
theorem x_174_127 : Tr sc d 174 (127, [l0, l1, l2], [.int i2, .int i1, .ref k0], h) Q = Tr sc d 174 (128, [l0, l1, l2], [.int (i1 * i2), .ref k0], h) Q := t_go k_174_127 rfl
theorem k_174_128 : lk 174 128 = some (.aload_n 0, 129, 0, 0, .null) := by decide +kernel
theorem x_174_128 : Tr sc d 174 (128, [some (.ref xk), l1, l2], [.int i1, .ref k0], h) Q = Tr sc d 174 (129, [some (.ref xk), l1, l2], [.ref xk, .int i1, .ref k0], h) Q := t_aload_n k_174_128 rfl
theorem k_174_129 : lk 174 129 = some (.iload_n 1, 130, 1, 0, .null) := by decide +kernel
theorem x_174_129 : Tr sc d 174 (129, [l0, some (.int x), l2], [.ref k2, .int i1, .ref k0], h) Q = Tr sc d 174 (130, [l0, some (.int x), l2], [.int x, .ref k2, .int i1, .ref k0], h) Q := t_iload_n k_174_129 rfl
theorem k_174_130 : lk 174 130 = some (.invokevirtual 172, 133, 172, 1, .null) := by decide +kernel
theorem x_174_130 : Tr sc (d + 1) 174 (130, [l0, l1, l2], [.int i3, .ref k2, .int i1, .ref k0], h) Q = (okp h k2 10 = true ∧ Tr sc d 172 (ent0 172 [.ref k2, .int i3] h) (fun z => Tr sc (d + 1) 174 (133, [l0, l1, l2], z.1.toList ++ [.int i1, .ref k0], z.2) Q)) := t_cv (as := [.int i3]) (r := [.int i1, .ref k0]) k_174_130 rfl rfl (Nat.le_of_ble_eq_true rfl) (Nat.le_of_ble_eq_true rfl) (Nat.le_of_ble_eq_true rfl)
theorem k_174_133 : lk 174 133 = some (.bipush 97, 135, 0, 0, .int 97) := by decide +kernel
theorem x_174_133 : Tr sc d 174 (133, [l0, l1, l2], [.int i2, .int i1, .ref k0], h) Q = Tr sc d 174 (135, [l0, l1, l2], [.int 97, .int i2, .int i1, .ref k0], h) Q := t_go k_174_133 rfl
theorem k_174_135 : lk 174 135 = some (.isub, 136, 0, 0, .null) := by decide +kernel
theorem x_174_135 : Tr sc d 174 (135, [l0, l1, l2], [.int i3, .int i2, .int i1, .ref k0], h) Q = Tr sc d 174 (136, [l0, l1, l2], [.int (i2 - i3), .int i1, .ref k0], h) Q := t_go k_174_135 rfl
theorem k_174_136 : lk 174 136 = some (.iastore, 137, 0, 0, .null) := by decide +kernel
theorem x_174_136 : Tr sc d 174 (136, [l0, l1, l2], [.int i2, .int i1, .ref k0], h) Q = ((okp h k0 11 && inb i1 (LN k0)) = true ∧ Tr sc d 174 (137, [l0, l1, l2], [], (sI h k0 i1.toNatClampNeg i2)) Q) := t_gd k_174_136 rfl
theorem k_174_137 : lk 174 137 = some (.aload_n 0, 138, 0, 0, .null) := by decide +kernel
theorem x_174_137 : Tr sc d 174 (137, [some (.ref xk), l1, l2], [], h) Q = Tr sc d 174 (138, [some (.ref xk), l1, l2], [.ref xk], h) Q := t_aload_n k_174_137 rfl
theorem k_174_138 : lk 174 138 = some (.dup, 139, 0, 0, .null) := by decide +kernel
theorem x_174_138 : Tr sc d 174 (138, [l0, l1, l2], [.ref k0], h) Q = Tr sc d 174 (139, [l0, l1, l2], [.ref k0, .ref k0], h) Q := t_go k_174_138 rfl
theorem k_174_139 : lk 174 139 = some (.getfield 169, 142, 10, 14, .int 0) := by decide +kernel
theorem x_174_139 : Tr sc d 174 (139, [l0, l1, l2], [.ref k1, .ref k0], h) Q = (okp h k1 10 = true ∧ Tr sc d 174 (142, [l0, l1, l2], [.int (hI h k1 14), .ref k0], h) Q) := t_gd k_174_139 rfl
theorem k_174_142 : lk 174 142 = some (.iconst 1, 143, 0, 0, .int 1) := by decide +kernel
theorem x_174_142 : Tr sc d 174 (142, [l0, l1, l2], [.int i1, .ref k0], h) Q = Tr sc d 174 (143, [l0, l1, l2], [.int 1, .int i1, .ref k0], h) Q := t_go k_174_142 rfl
theorem k_174_143 : lk 174 143 = some (.iadd, 144, 0, 0, .null) := by decide +kernel
theorem x_174_143 : Tr sc d 174 (143, [l0, l1, l2], [.int i2, .int i1, .ref k0], h) Q = Tr sc d 174 (144, [l0, l1, l2], [.int (i1 + i2), .ref k0], h) Q := t_go k_174_143 rfl
theorem k_174_144 : lk 174 144 = some (.putfield 169, 147, 10, 14, .int 0) := by decide +kernel
theorem x_174_144 : Tr sc d 174 (144, [l0, l1, l2], [.int i1, .ref k0], h) Q = (okp h k0 10 = true ∧ Tr sc d 174 (147, [l0, l1, l2], [], (sI h k0 14 i1)) Q) := t_gd k_174_144 rfl
theorem k_174_147 : lk 174 147 = some (.iconst 1, 148, 0, 0, .int 1) := by decide +kernel
theorem x_174_147 : Tr sc d 174 (147, [l0, l1, l2], [], h) Q = Tr sc d 174 (148, [l0, l1, l2], [.int 1], h) Q := t_go k_174_147 rfl
theorem k_174_148 : lk 174 148 = some (.istore_n 2, 149, 2, 0, .null) := by decide +kernel
theorem x_174_148 : Tr sc d 174 (148, [l0, l1, l2], [.int i0], h) Q = Tr sc d 174 (149, [l0, cl2 l1, some (.int i0)], [], h) Q := t_istore_n k_174_148 (Nat.le_of_ble_eq_true rfl)
theorem k_174_149 : lk 174 149 = some (.iload_n 2, 150, 2, 0, .null) := by decide +kernel
theorem x_174_149 : Tr sc d 174 (149, [l0, l1, some (.int x)], [], h) Q = Tr sc d 174 (150, [l0, l1, some (.int x)], [.int x], h) Q := t_iload_n k_174_149 rfl
theorem k_174_150 : lk 174 150 = some (.iconst 3, 151, 0, 0, .int 3) := by decide +kernel
theorem x_174_150 : Tr sc d 174 (150, [l0, l1, l2], [.int i0], h) Q = Tr sc d 174 (151, [l0, l1, l2], [.int 3, .int i0], h) Q := t_go k_174_150 rfl
theorem k_174_151 : lk 174 151 = some (.if_icmp .ge 39, 154, 190, 0, .null) := by decide +kernel
theorem x_174_151 : Tr sc d 174 (151, [l0, l1, l2], [.int i1, .int i0], h) Q = if i1 ≤ i0 then Tr sc d 174 (190, [l0, l1, l2], [], h) Q else Tr sc d 174 (154, [l0, l1, l2], [], h) Q := t_if k_174_151 rfl
theorem k_174_154 : lk 174 154 = some (.aload_n 0, 155, 0, 0, .null) := by decide +kernel
theorem x_174_154 : Tr sc d 174 (154, [some (.ref xk), l1, l2], [], h) Q = Tr sc d 174 (155, [some (.ref xk), l1, l2], [.ref xk], h) Q := t_aload_n k_174_154 rfl
theorem k_174_155 : lk 174 155 = some (.iload_n 1, 156, 1, 0, .null) := by decide +kernel
theorem x_174_155 : Tr sc d 174 (155, [l0, some (.int x), l2], [.ref k0], h) Q = Tr sc d 174 (156, [l0, some (.int x), l2], [.int x, .ref k0], h) Q := t_iload_n k_174_155 rfl
theorem k_174_156 : lk 174 156 = some (.invokevirtual 184, 159, 173, 1, .null) := by decide +kernel
theorem x_174_156 : Tr sc (d + 1) 174 (156, [l0, l1, l2], [.int i1, .ref k0], h) Q = (okp h k0 10 = true ∧ Tr sc d 173 (ent0 173 [.ref k0, .int i1] h) (fun z => Tr sc (d + 1) 174 (159, [l0, l1, l2], z.1.toList ++ [], z.2) Q)) := t_cv (as := [.int i1]) (r := []) k_174_156 rfl rfl (Nat.le_of_ble_eq_true rfl) (Nat.le_of_ble_eq_true rfl) (Nat.le_of_ble_eq_true rfl)
theorem k_174_159 : lk 174 159 = some (.ifCond .ne 8, 162, 167, 0, .null) := by decide +kernel
theorem x_174_159 : Tr sc d 174 (159, [l0, l1, l2], [.int i0], h) Q = if i0 = 0 then Tr sc d 174 (162, [l0, l1, l2], [], h) Q else Tr sc d 174 (167, [l0, l1, l2], [], h) Q := t_if k_174_159 rfl
theorem k_174_162 : lk 174 162 = some (.aload_n 0, 163, 0, 0, .null) := by decide +kernel
theorem x_174_162 : Tr sc d 174 (162, [some (.ref xk), l1, l2], [], h) Q = Tr sc d 174 (163, [some (.ref xk), l1, l2], [.ref xk], h) Q := t_aload_n k_174_162 rfl
theorem k_174_163 : lk 174 163 = some (.getfield 169, 166, 10, 14, .int 0) := by decide +kernel
theorem x_174_163 : Tr sc d 174 (163, [l0, l1, l2], [.ref k0], h) Q = (okp h k0 10 = true ∧ Tr sc d 174 (166, [l0, l1, l2], [.int (hI h k0 14)], h) Q) := t_gd k_174_163 rfl
theorem k_174_166 : lk 174 166 = some (.ireturn, 167, 0, 0, .null) := by decide +kernel
theorem x_174_166 : Tr sc d 174 (166, [l0, l1, l2], [.int i0], h) Q = Q (some (.int i0), h) := t_ret k_174_166 (by rw [r_174]; rfl)
theorem k_174_167 : lk 174 167 = some (.aload_n 0, 168, 0, 0, .null) := by decide +kernel
theorem x_174_167 : Tr sc d 174 (167, [some (.ref xk), l1, l2], [], h) Q = Tr sc d 174 (168, [some (.ref xk), l1, l2], [.ref xk], h) Q := t_aload_n k_174_167 rfl
theorem k_174_168 : lk 174 168 = some (.getfield 32, 171, 10, 13, .null) := by decide +kernel
theorem x_174_168 : Tr sc d 174 (168, [l0, l1, l2], [.ref k0], h) Q = (okp h k0 10 = true ∧ ∃ q, hR h k0 13 = some q ∧ Tr sc d 174 (171, [l0, l1, l2], [.ref q], h) Q) := t_getr k_174_168
theorem k_174_171 : lk 174 171 = some (.iconst 3, 172, 0, 0, .int 3) := by decide +kernel
theorem x_174_171 : Tr sc d 174 (171, [l0, l1, l2], [.ref k0], h) Q = Tr sc d 174 (172, [l0, l1, l2], [.int 3, .ref k0], h) Q := t_go k_174_171 rfl
theorem k_174_172 : lk 174 172 = some (.aload_n 0, 173, 0, 0, .null) := by decide +kernel
theorem x_174_172 : Tr sc d 174 (172, [some (.ref xk), l1, l2], [.int i1, .ref k0], h) Q = Tr sc d 174 (173, [some (.ref xk), l1, l2], [.ref xk, .int i1, .ref k0], h) Q := t_aload_n k_174_172 rfl
theorem k_174_173 : lk 174 173 = some (.getfield 178, 176, 10, 12, .int 0) := by decide +kernel
theorem x_174_173 : Tr sc d 174 (173, [l0, l1, l2], [.ref k2, .int i1, .ref k0], h) Q = (okp h k2 10 = true ∧ Tr sc d 174 (176, [l0, l1, l2], [.int (hI h k2 12), .int i1, .ref k0], h) Q) := t_gd k_174_173 rfl
theorem k_174_176 : lk 174 176 = some (.imul, 177, 0, 0, .null) := by decide +kernel
theorem x_174_176 : Tr sc d 174 (176, [l0, l1, l2], [.int i2, .int i1, .ref k0], h) Q = Tr sc d 174 (177, [l0, l1, l2], [.int (i1 * i2), .ref k0], h) Q := t_go k_174_176 rfl
theorem k_174_177 : lk 174 177 = some (.iload_n 2, 178, 2, 0, .null) := by decide +kernel
theorem x_174_177 : Tr sc d 174 (177, [l0, l1, some (.int x)], [.int i1, .ref k0], h) Q = Tr sc d 174 (178, [l0, l1, some (.int x)], [.int x, .int i1, .ref k0], h) Q := t_iload_n k_174_177 rfl
theorem k_174_178 : lk 174 178 = some (.iadd, 179, 0, 0, .null) := by decide +kernel
theorem x_174_178 : Tr sc d 174 (178, [l0, l1, l2], [.int i2, .int i1, .ref k0], h) Q = Tr sc d 174 (179, [l0, l1, l2], [.int (i1 + i2), .ref k0], h) Q := t_go k_174_178 rfl
theorem k_174_179 : lk 174 179 = some (.aload_n 0, 180, 0, 0, .null) := by decide +kernel
theorem x_174_179 : Tr sc d 174 (179, [some (.ref xk), l1, l2], [.int i1, .ref k0], h) Q = Tr sc d 174 (180, [some (.ref xk), l1, l2], [.ref xk, .int i1, .ref k0], h) Q := t_aload_n k_174_179 rfl
theorem k_174_180 : lk 174 180 = some (.getfield 175, 183, 10, 15, .int 0) := by decide +kernel
theorem x_174_180 : Tr sc d 174 (180, [l0, l1, l2], [.ref k2, .int i1, .ref k0], h) Q = (okp h k2 10 = true ∧ Tr sc d 174 (183, [l0, l1, l2], [.int (hI h k2 15), .int i1, .ref k0], h) Q) := t_gd k_174_180 rfl
theorem k_174_183 : lk 174 183 = some (.iastore, 184, 0, 0, .null) := by decide +kernel
theorem x_174_183 : Tr sc d 174 (183, [l0, l1, l2], [.int i2, .int i1, .ref k0], h) Q = ((okp h k0 11 && inb i1 (LN k0)) = true ∧ Tr sc d 174 (184, [l0, l1, l2], [], (sI h k0 i1.toNatClampNeg i2)) Q) := t_gd k_174_183 rfl
theorem k_174_184 : lk 174 184 = some (.iinc 2 1, 187, 2, 0, .int 1) := by decide +kernel
theorem x_174_184 : Tr sc d 174 (184, [l0, l1, some (.int x)], [], h) Q = Tr sc d 174 (187, [l0, cl2 l1, some (.int (x + 1))], [], h) Q := t_inc k_174_184 rfl (Nat.le_of_ble_eq_true rfl)
theorem k_174_187 : lk 174 187 = some (.goto (-38), 190, 149, 0, .null) := by decide +kernel
theorem x_174_187 : Tr sc d 174 (187, [l0, l1, l2], [], h) Q = Tr sc d 174 (149, [l0, l1, l2], [], h) Q := t_go k_174_187 rfl
theorem k_174_190 : lk 174 190 = some (.aload_n 0, 191, 0, 0, .null) := by decide +kernel
theorem x_174_190 : Tr sc d 174 (190, [some (.ref xk), l1, l2], [], h) Q = Tr sc d 174 (191, [some (.ref xk), l1, l2], [.ref xk], h) Q := t_aload_n k_174_190 rfl
theorem k_174_191 : lk 174 191 = some (.dup, 192, 0, 0, .null) := by decide +kernel
theorem x_174_191 : Tr sc d 174 (191, [l0, l1, l2], [.ref k0], h) Q = Tr sc d 174 (192, [l0, l1, l2], [.ref k0, .ref k0], h) Q := t_go k_174_191 rfl
theorem k_174_192 : lk 174 192 = some (.getfield 178, 195, 10, 12, .int 0) := by decide +kernel
theorem x_174_192 : Tr sc d 174 (192, [l0, l1, l2], [.ref k1, .ref k0], h) Q = (okp h k1 10 = true ∧ Tr sc d 174 (195, [l0, l1, l2], [.int (hI h k1 12), .ref k0], h) Q) := t_gd k_174_192 rfl
theorem k_174_195 : lk 174 195 = some (.iconst 1, 196, 0, 0, .int 1) := by decide +kernel
theorem x_174_195 : Tr sc d 174 (195, [l0, l1, l2], [.int i1, .ref k0], h) Q = Tr sc d 174 (196, [l0, l1, l2], [.int 1, .int i1, .ref k0], h) Q := t_go k_174_195 rfl
theorem k_174_196 : lk 174 196 = some (.iadd, 197, 0, 0, .null) := by decide +kernel
theorem x_174_196 : Tr sc d 174 (196, [l0, l1, l2], [.int i2, .int i1, .ref k0], h) Q = Tr sc d 174 (197, [l0, l1, l2], [.int (i1 + i2), .ref k0], h) Q := t_go k_174_196 rfl
theorem k_174_197 : lk 174 197 = some (.putfield 178, 200, 10, 12, .int 0) := by decide +kernel
theorem x_174_197 : Tr sc d 174 (197, [l0, l1, l2], [.int i1, .ref k0], h) Q = (okp h k0 10 = true ∧ Tr sc d 174 (200, [l0, l1, l2], [], (sI h k0 12 i1)) Q) := t_gd k_174_197 rfl
theorem k_174_200 : lk 174 200 = some (.goto (-156), 203, 44, 0, .null) := by decide +kernel
theorem x_174_200 : Tr sc d 174 (200, [l0, l1, l2], [], h) Q = Tr sc d 174 (44, [l0, l1, l2], [], h) Q := t_go k_174_200 rfl
theorem k_174_203 : lk 174 203 = some (.bipush (-9), 205, 0, 0, .int (-9)) := by decide +kernel
theorem x_174_203 : Tr sc d 174 (203, [l0, l1, l2], [], h) Q = Tr sc d 174 (205, [l0, l1, l2], [.int (-9)], h) Q := t_go k_174_203 rfl
theorem k_174_205 : lk 174 205 = some (.ireturn, 206, 0, 0, .null) := by decide +kernel
theorem x_174_205 : Tr sc d 174 (205, [l0, l1, l2], [.int i0], h) Q = Q (some (.int i0), h) := t_ret k_174_205 (by rw [r_174]; rfl)
theorem e_174 : Tr sc d 174 (ent0 174 [.ref k0, .int i1] h) Q = Tr sc d 174 (0, [some (.ref k0), some (.int i1), none], [], h) Q := by
  have e : mL 174 = 3 := by decide +kernel
  unfold ent0
  rw [e]
  rfl
theorem r_175 : mR 175 = some .int := by decide +kernel
theorem k_175_0 : lk 175 0 = some (.aload_n 0, 1, 0, 0, .null) := by decide +kernel
theorem x_175_0 : Tr sc d 175 (0, [some (.ref xk), l1, l2], [], h) Q = Tr sc d 175 (1, [some (.ref xk), l1, l2], [.ref xk], h) Q := t_aload_n k_175_0 rfl
theorem k_175_1 : lk 175 1 = some (.iload_n 1, 2, 1, 0, .null) := by decide +kernel
theorem x_175_1 : Tr sc d 175 (1, [l0, some (.int x), l2], [.ref k0], h) Q = Tr sc d 175 (2, [l0, some (.int x), l2], [.int x, .ref k0], h) Q := t_iload_n k_175_1 rfl
theorem k_175_2 : lk 175 2 = some (.invokevirtual 166, 5, 164, 1, .null) := by decide +kernel
theorem x_175_2 : Tr sc (d + 1) 175 (2, [l0, l1, l2], [.int i1, .ref k0], h) Q = (okp h k0 10 = true ∧ Tr sc d 164 (ent0 164 [.ref k0, .int i1] h) (fun z => Tr sc (d + 1) 175 (5, [l0, l1, l2], z.1.toList ++ [], z.2) Q)) := t_cv (as := [.int i1]) (r := []) k_175_2 rfl rfl (Nat.le_of_ble_eq_true rfl) (Nat.le_of_ble_eq_true rfl) (Nat.le_of_ble_eq_true rfl)
theorem k_175_5 : lk 175 5 = some (.istore_n 2, 6, 2, 0, .null) := by decide +kernel
theorem x_175_5 : Tr sc d 175 (5, [l0, l1, l2], [.int i0], h) Q = Tr sc d 175 (6, [l0, cl2 l1, some (.int i0)], [], h) Q := t_istore_n k_175_5 (Nat.le_of_ble_eq_true rfl)
theorem k_175_6 : lk 175 6 = some (.iload_n 2, 7, 2, 0, .null) := by decide +kernel
theorem x_175_6 : Tr sc d 175 (6, [l0, l1, some (.int x)], [], h) Q = Tr sc d 175 (7, [l0, l1, some (.int x)], [.int x], h) Q := t_iload_n k_175_6 rfl
theorem k_175_7 : lk 175 7 = some (.ifCond .ge 7, 10, 14, 0, .null) := by decide +kernel
theorem x_175_7 : Tr sc d 175 (7, [l0, l1, l2], [.int i0], h) Q = if 0 ≤ i0 then Tr sc d 175 (14, [l0, l1, l2], [], h) Q else Tr sc d 175 (10, [l0, l1, l2], [], h) Q := t_if k_175_7 rfl
theorem k_175_10 : lk 175 10 = some (.iload_n 2, 11, 2, 0, .null) := by decide +kernel
theorem x_175_10 : Tr sc d 175 (10, [l0, l1, some (.int x)], [], h) Q = Tr sc d 175 (11, [l0, l1, some (.int x)], [.int x], h) Q := t_iload_n k_175_10 rfl
theorem k_175_11 : lk 175 11 = some (.goto 8, 14, 19, 0, .null) := by decide +kernel
theorem x_175_11 : Tr sc d 175 (11, [l0, l1, l2], [.int i0], h) Q = Tr sc d 175 (19, [l0, l1, l2], [.int i0], h) Q := t_go k_175_11 rfl
theorem k_175_14 : lk 175 14 = some (.aload_n 0, 15, 0, 0, .null) := by decide +kernel
theorem x_175_14 : Tr sc d 175 (14, [some (.ref xk), l1, l2], [], h) Q = Tr sc d 175 (15, [some (.ref xk), l1, l2], [.ref xk], h) Q := t_aload_n k_175_14 rfl
theorem k_175_15 : lk 175 15 = some (.iload_n 1, 16, 1, 0, .null) := by decide +kernel
theorem x_175_15 : Tr sc d 175 (15, [l0, some (.int x), l2], [.ref k0], h) Q = Tr sc d 175 (16, [l0, some (.int x), l2], [.int x, .ref k0], h) Q := t_iload_n k_175_15 rfl
theorem k_175_16 : lk 175 16 = some (.invokevirtual 187, 19, 174, 1, .null) := by decide +kernel
theorem x_175_16 : Tr sc (d + 1) 175 (16, [l0, l1, l2], [.int i1, .ref k0], h) Q = (okp h k0 10 = true ∧ Tr sc d 174 (ent0 174 [.ref k0, .int i1] h) (fun z => Tr sc (d + 1) 175 (19, [l0, l1, l2], z.1.toList ++ [], z.2) Q)) := t_cv (as := [.int i1]) (r := []) k_175_16 rfl rfl (Nat.le_of_ble_eq_true rfl) (Nat.le_of_ble_eq_true rfl) (Nat.le_of_ble_eq_true rfl)
theorem k_175_19 : lk 175 19 = some (.ireturn, 20, 0, 0, .null) := by decide +kernel
theorem x_175_19 : Tr sc d 175 (19, [l0, l1, l2], [.int i0], h) Q = Q (some (.int i0), h) := t_ret k_175_19 (by rw [r_175]; rfl)
theorem e_175 : Tr sc d 175 (ent0 175 [.ref k0, .int i1] h) Q = Tr sc d 175 (0, [some (.ref k0), some (.int i1), none], [], h) Q := by
  have e : mL 175 = 3 := by decide +kernel
  unfold ent0
  rw [e]
  rfl
theorem r_176 : mR 176 = some .boolean := by decide +kernel
theorem k_176_0 : lk 176 0 = some (.iload_n 0, 1, 0, 0, .null) := by decide +kernel
theorem x_176_0 : Tr sc d 176 (0, [some (.int x)], [], h) Q = Tr sc d 176 (1, [some (.int x)], [.int x], h) Q := t_iload_n k_176_0 rfl
theorem k_176_1 : lk 176 1 = some (.iconst 0, 2, 0, 0, .int 0) := by decide +kernel
theorem x_176_1 : Tr sc d 176 (1, [l0], [.int i0], h) Q = Tr sc d 176 (2, [l0], [.int 0, .int i0], h) Q := t_go k_176_1 rfl
theorem k_176_2 : lk 176 2 = some (.bipush 7, 4, 0, 0, .int 7) := by decide +kernel
theorem x_176_2 : Tr sc d 176 (2, [l0], [.int i1, .int i0], h) Q = Tr sc d 176 (4, [l0], [.int 7, .int i1, .int i0], h) Q := t_go k_176_2 rfl
theorem k_176_4 : lk 176 4 = some (.invokestatic 144, 7, 157, 3, .null) := by decide +kernel
theorem x_176_4 : Tr sc (d + 1) 176 (4, [l0], [.int i2, .int i1, .int i0], h) Q = Tr sc d 157 (ent0 157 [.int i0, .int i1, .int i2] h) (fun z => Tr sc (d + 1) 176 (7, [l0], z.1.toList ++ [], z.2) Q) := t_cs (as := [.int i0, .int i1, .int i2]) (r := []) k_176_4 (by decide) rfl rfl (Nat.le_of_ble_eq_true rfl) (Nat.le_of_ble_eq_true rfl)
theorem k_176_7 : lk 176 7 = some (.ireturn, 8, 0, 0, .null) := by decide +kernel
theorem x_176_7 : Tr sc d 176 (7, [l0], [.int i0], h) Q = (vp_nar .boolean i0 = i0 ∧ Q (some (.int i0), h)) := t_zret k_176_7 r_176
theorem e_176 : Tr sc d 176 (ent0 176 [.int i0] h) Q = Tr sc d 176 (0, [some (.int i0)], [], h) Q := by
  have e : mL 176 = 1 := by decide +kernel
  unfold ent0
  rw [e]
  rfl
theorem r_177 : mR 177 = some .int := by decide +kernel
theorem k_177_0 : lk 177 0 = some (.iload_n 1, 1, 1, 0, .null) := by decide +kernel
theorem x_177_0 : Tr sc d 177 (0, [l0, some (.int x)], [], h) Q = Tr sc d 177 (1, [l0, some (.int x)], [.int x], h) Q := t_iload_n k_177_0 rfl
theorem k_177_1 : lk 177 1 = some (.invokestatic 190, 4, 176, 1, .null) := by decide +kernel
theorem x_177_1 : Tr sc (d + 1) 177 (1, [l0, l1], [.int i0], h) Q = Tr sc d 176 (ent0 176 [.int i0] h) (fun z => Tr sc (d + 1) 177 (4, [l0, l1], z.1.toList ++ [], z.2) Q) := t_cs (as := [.int i0]) (r := []) k_177_1 (by decide) rfl rfl (Nat.le_of_ble_eq_true rfl) (Nat.le_of_ble_eq_true rfl)
theorem k_177_4 : lk 177 4 = some (.ifCond .ne 7, 7, 11, 0, .null) := by decide +kernel
theorem x_177_4 : Tr sc d 177 (4, [l0, l1], [.int i0], h) Q = if i0 = 0 then Tr sc d 177 (7, [l0, l1], [], h) Q else Tr sc d 177 (11, [l0, l1], [], h) Q := t_if k_177_4 rfl
theorem k_177_7 : lk 177 7 = some (.iconst (-1), 8, 0, 0, .int (-1)) := by decide +kernel
theorem x_177_7 : Tr sc d 177 (7, [l0, l1], [], h) Q = Tr sc d 177 (8, [l0, l1], [.int (-1)], h) Q := t_go k_177_7 rfl
theorem k_177_8 : lk 177 8 = some (.goto 21, 11, 29, 0, .null) := by decide +kernel
theorem x_177_8 : Tr sc d 177 (8, [l0, l1], [.int i0], h) Q = Tr sc d 177 (29, [l0, l1], [.int i0], h) Q := t_go k_177_8 rfl
theorem k_177_11 : lk 177 11 = some (.aload_n 0, 12, 0, 0, .null) := by decide +kernel
theorem x_177_11 : Tr sc d 177 (11, [some (.ref xk), l1], [], h) Q = Tr sc d 177 (12, [some (.ref xk), l1], [.ref xk], h) Q := t_aload_n k_177_11 rfl
theorem k_177_12 : lk 177 12 = some (.getfield 41, 15, 10, 18, .null) := by decide +kernel
theorem x_177_12 : Tr sc d 177 (12, [l0, l1], [.ref k0], h) Q = (okp h k0 10 = true ∧ ∃ q, hR h k0 18 = some q ∧ Tr sc d 177 (15, [l0, l1], [.ref q], h) Q) := t_getr k_177_12
theorem k_177_15 : lk 177 15 = some (.iload_n 1, 16, 1, 0, .null) := by decide +kernel
theorem x_177_15 : Tr sc d 177 (15, [l0, some (.int x)], [.ref k0], h) Q = Tr sc d 177 (16, [l0, some (.int x)], [.int x, .ref k0], h) Q := t_iload_n k_177_15 rfl
theorem k_177_16 : lk 177 16 = some (.iaload, 17, 0, 0, .null) := by decide +kernel
theorem x_177_16 : Tr sc d 177 (16, [l0, l1], [.int i1, .ref k0], h) Q = (iOk sc h k0 i1 ∧ Tr sc d 177 (17, [l0, l1], [.int (iRd sc h k0 i1)], h) Q) := t_iald k_177_16
theorem k_177_17 : lk 177 17 = some (.ifCond .ne 11, 20, 28, 0, .null) := by decide +kernel
theorem x_177_17 : Tr sc d 177 (17, [l0, l1], [.int i0], h) Q = if i0 = 0 then Tr sc d 177 (20, [l0, l1], [], h) Q else Tr sc d 177 (28, [l0, l1], [], h) Q := t_if k_177_17 rfl
theorem k_177_20 : lk 177 20 = some (.aload_n 0, 21, 0, 0, .null) := by decide +kernel
theorem x_177_20 : Tr sc d 177 (20, [some (.ref xk), l1], [], h) Q = Tr sc d 177 (21, [some (.ref xk), l1], [.ref xk], h) Q := t_aload_n k_177_20 rfl
theorem k_177_21 : lk 177 21 = some (.iconst 1, 22, 0, 0, .int 1) := by decide +kernel
theorem x_177_21 : Tr sc d 177 (21, [l0, l1], [.ref k0], h) Q = Tr sc d 177 (22, [l0, l1], [.int 1, .ref k0], h) Q := t_go k_177_21 rfl
theorem k_177_22 : lk 177 22 = some (.invokevirtual 152, 25, 158, 1, .null) := by decide +kernel
theorem x_177_22 : Tr sc (d + 1) 177 (22, [l0, l1], [.int i1, .ref k0], h) Q = (okp h k0 10 = true ∧ Tr sc d 158 (ent0 158 [.ref k0, .int i1] h) (fun z => Tr sc (d + 1) 177 (25, [l0, l1], z.1.toList ++ [], z.2) Q)) := t_cv (as := [.int i1]) (r := []) k_177_22 rfl rfl (Nat.le_of_ble_eq_true rfl) (Nat.le_of_ble_eq_true rfl) (Nat.le_of_ble_eq_true rfl)
theorem k_177_25 : lk 177 25 = some (.goto 4, 28, 29, 0, .null) := by decide +kernel
theorem x_177_25 : Tr sc d 177 (25, [l0, l1], [.int i0], h) Q = Tr sc d 177 (29, [l0, l1], [.int i0], h) Q := t_go k_177_25 rfl
theorem k_177_28 : lk 177 28 = some (.iconst 0, 29, 0, 0, .int 0) := by decide +kernel
theorem x_177_28 : Tr sc d 177 (28, [l0, l1], [], h) Q = Tr sc d 177 (29, [l0, l1], [.int 0], h) Q := t_go k_177_28 rfl
theorem k_177_29 : lk 177 29 = some (.ireturn, 30, 0, 0, .null) := by decide +kernel
theorem x_177_29 : Tr sc d 177 (29, [l0, l1], [.int i0], h) Q = Q (some (.int i0), h) := t_ret k_177_29 (by rw [r_177]; rfl)
theorem e_177 : Tr sc d 177 (ent0 177 [.ref k0, .int i1] h) Q = Tr sc d 177 (0, [some (.ref k0), some (.int i1)], [], h) Q := by
  have e : mL 177 = 2 := by decide +kernel
  unfold ent0
  rw [e]
  rfl
theorem r_178 : mR 178 = some .int := by decide +kernel
theorem k_178_0 : lk 178 0 = some (.iload_n 0, 1, 0, 0, .null) := by decide +kernel
theorem x_178_0 : Tr sc d 178 (0, [some (.int x), l1, l2], [], h) Q = Tr sc d 178 (1, [some (.int x), l1, l2], [.int x], h) Q := t_iload_n k_178_0 rfl
theorem k_178_48 : lk 178 48 = some (.iload_n 1, 49, 1, 0, .null) := by decide +kernel
theorem x_178_48 : Tr sc d 178 (48, [l0, some (.int x), l2], [], h) Q = Tr sc d 178 (49, [l0, some (.int x), l2], [.int x], h) Q := t_iload_n k_178_48 rfl
theorem k_178_49 : lk 178 49 = some (.ireturn, 50, 0, 0, .null) := by decide +kernel
theorem x_178_49 : Tr sc d 178 (49, [l0, l1, l2], [.int i0], h) Q = Q (some (.int i0), h) := t_ret k_178_49 (by rw [r_178]; rfl)
theorem k_178_50 : lk 178 50 = some (.iload_n 2, 51, 2, 0, .null) := by decide +kernel
theorem x_178_50 : Tr sc d 178 (50, [l0, l1, some (.int x)], [], h) Q = Tr sc d 178 (51, [l0, l1, some (.int x)], [.int x], h) Q := t_iload_n k_178_50 rfl
theorem k_178_51 : lk 178 51 = some (.ineg, 52, 0, 0, .null) := by decide +kernel
theorem x_178_51 : Tr sc d 178 (51, [l0, l1, l2], [.int i0], h) Q = Tr sc d 178 (52, [l0, l1, l2], [.int (-i0)], h) Q := t_go k_178_51 rfl
theorem k_178_52 : lk 178 52 = some (.ireturn, 53, 0, 0, .null) := by decide +kernel
theorem x_178_52 : Tr sc d 178 (52, [l0, l1, l2], [.int i0], h) Q = Q (some (.int i0), h) := t_ret k_178_52 (by rw [r_178]; rfl)
theorem k_178_53 : lk 178 53 = some (.iload_n 1, 54, 1, 0, .null) := by decide +kernel
theorem x_178_53 : Tr sc d 178 (53, [l0, some (.int x), l2], [], h) Q = Tr sc d 178 (54, [l0, some (.int x), l2], [.int x], h) Q := t_iload_n k_178_53 rfl
theorem k_178_54 : lk 178 54 = some (.ineg, 55, 0, 0, .null) := by decide +kernel
theorem x_178_54 : Tr sc d 178 (54, [l0, l1, l2], [.int i0], h) Q = Tr sc d 178 (55, [l0, l1, l2], [.int (-i0)], h) Q := t_go k_178_54 rfl
theorem k_178_55 : lk 178 55 = some (.ireturn, 56, 0, 0, .null) := by decide +kernel
theorem x_178_55 : Tr sc d 178 (55, [l0, l1, l2], [.int i0], h) Q = Q (some (.int i0), h) := t_ret k_178_55 (by rw [r_178]; rfl)
theorem k_178_56 : lk 178 56 = some (.iload_n 2, 57, 2, 0, .null) := by decide +kernel
theorem x_178_56 : Tr sc d 178 (56, [l0, l1, some (.int x)], [], h) Q = Tr sc d 178 (57, [l0, l1, some (.int x)], [.int x], h) Q := t_iload_n k_178_56 rfl
theorem k_178_57 : lk 178 57 = some (.ireturn, 58, 0, 0, .null) := by decide +kernel
theorem x_178_57 : Tr sc d 178 (57, [l0, l1, l2], [.int i0], h) Q = Q (some (.int i0), h) := t_ret k_178_57 (by rw [r_178]; rfl)
theorem e_178 : Tr sc d 178 (ent0 178 [.int i0, .int i1, .int i2] h) Q = Tr sc d 178 (0, [some (.int i0), some (.int i1), some (.int i2)], [], h) Q := by
  have e : mL 178 = 3 := by decide +kernel
  unfold ent0
  rw [e]
  rfl
theorem r_179 : mR 179 = some .int := by decide +kernel
theorem k_179_0 : lk 179 0 = some (.iload_n 0, 1, 0, 0, .null) := by decide +kernel
theorem x_179_0 : Tr sc d 179 (0, [some (.int x), l1, l2], [], h) Q = Tr sc d 179 (1, [some (.int x), l1, l2], [.int x], h) Q := t_iload_n k_179_0 rfl
theorem k_179_48 : lk 179 48 = some (.iload_n 2, 49, 2, 0, .null) := by decide +kernel
theorem x_179_48 : Tr sc d 179 (48, [l0, l1, some (.int x)], [], h) Q = Tr sc d 179 (49, [l0, l1, some (.int x)], [.int x], h) Q := t_iload_n k_179_48 rfl
theorem k_179_49 : lk 179 49 = some (.ireturn, 50, 0, 0, .null) := by decide +kernel
theorem x_179_49 : Tr sc d 179 (49, [l0, l1, l2], [.int i0], h) Q = Q (some (.int i0), h) := t_ret k_179_49 (by rw [r_179]; rfl)
theorem k_179_50 : lk 179 50 = some (.iload_n 1, 51, 1, 0, .null) := by decide +kernel
theorem x_179_50 : Tr sc d 179 (50, [l0, some (.int x), l2], [], h) Q = Tr sc d 179 (51, [l0, some (.int x), l2], [.int x], h) Q := t_iload_n k_179_50 rfl
theorem k_179_51 : lk 179 51 = some (.ireturn, 52, 0, 0, .null) := by decide +kernel
theorem x_179_51 : Tr sc d 179 (51, [l0, l1, l2], [.int i0], h) Q = Q (some (.int i0), h) := t_ret k_179_51 (by rw [r_179]; rfl)
theorem k_179_52 : lk 179 52 = some (.iload_n 2, 53, 2, 0, .null) := by decide +kernel
theorem x_179_52 : Tr sc d 179 (52, [l0, l1, some (.int x)], [], h) Q = Tr sc d 179 (53, [l0, l1, some (.int x)], [.int x], h) Q := t_iload_n k_179_52 rfl
theorem k_179_53 : lk 179 53 = some (.ineg, 54, 0, 0, .null) := by decide +kernel
theorem x_179_53 : Tr sc d 179 (53, [l0, l1, l2], [.int i0], h) Q = Tr sc d 179 (54, [l0, l1, l2], [.int (-i0)], h) Q := t_go k_179_53 rfl
theorem k_179_54 : lk 179 54 = some (.ireturn, 55, 0, 0, .null) := by decide +kernel
theorem x_179_54 : Tr sc d 179 (54, [l0, l1, l2], [.int i0], h) Q = Q (some (.int i0), h) := t_ret k_179_54 (by rw [r_179]; rfl)
theorem k_179_55 : lk 179 55 = some (.iload_n 1, 56, 1, 0, .null) := by decide +kernel
theorem x_179_55 : Tr sc d 179 (55, [l0, some (.int x), l2], [], h) Q = Tr sc d 179 (56, [l0, some (.int x), l2], [.int x], h) Q := t_iload_n k_179_55 rfl
theorem k_179_56 : lk 179 56 = some (.ineg, 57, 0, 0, .null) := by decide +kernel
theorem x_179_56 : Tr sc d 179 (56, [l0, l1, l2], [.int i0], h) Q = Tr sc d 179 (57, [l0, l1, l2], [.int (-i0)], h) Q := t_go k_179_56 rfl
theorem k_179_57 : lk 179 57 = some (.ireturn, 58, 0, 0, .null) := by decide +kernel
theorem x_179_57 : Tr sc d 179 (57, [l0, l1, l2], [.int i0], h) Q = Q (some (.int i0), h) := t_ret k_179_57 (by rw [r_179]; rfl)
theorem e_179 : Tr sc d 179 (ent0 179 [.int i0, .int i1, .int i2] h) Q = Tr sc d 179 (0, [some (.int i0), some (.int i1), some (.int i2)], [], h) Q := by
  have e : mL 179 = 3 := by decide +kernel
  unfold ent0
  rw [e]
  rfl
theorem r_180 : mR 180 = some .int := by decide +kernel
theorem k_180_0 : lk 180 0 = some (.aload_n 0, 1, 0, 0, .null) := by decide +kernel
theorem x_180_0 : Tr sc d 180 (0, [some (.ref xk), l1, l2, l3], [], h) Q = Tr sc d 180 (1, [some (.ref xk), l1, l2, l3], [.ref xk], h) Q := t_aload_n k_180_0 rfl
theorem k_180_1 : lk 180 1 = some (.getfield 38, 4, 10, 17, .null) := by decide +kernel
theorem x_180_1 : Tr sc d 180 (1, [l0, l1, l2, l3], [.ref k0], h) Q = (okp h k0 10 = true ∧ ∃ q, hR h k0 17 = some q ∧ Tr sc d 180 (4, [l0, l1, l2, l3], [.ref q], h) Q) := t_getr k_180_1
theorem k_180_4 : lk 180 4 = some (.iload_n 1, 5, 1, 0, .null) := by decide +kernel
theorem x_180_4 : Tr sc d 180 (4, [l0, some (.int x), l2, l3], [.ref k0], h) Q = Tr sc d 180 (5, [l0, some (.int x), l2, l3], [.int x, .ref k0], h) Q := t_iload_n k_180_4 rfl
theorem k_180_5 : lk 180 5 = some (.aload_n 0, 6, 0, 0, .null) := by decide +kernel
theorem x_180_5 : Tr sc d 180 (5, [some (.ref xk), l1, l2, l3], [.int i1, .ref k0], h) Q = Tr sc d 180 (6, [some (.ref xk), l1, l2, l3], [.ref xk, .int i1, .ref k0], h) Q := t_aload_n k_180_5 rfl
theorem k_180_6 : lk 180 6 = some (.getfield 181, 9, 10, 11, .int 0) := by decide +kernel
theorem x_180_6 : Tr sc d 180 (6, [l0, l1, l2, l3], [.ref k2, .int i1, .ref k0], h) Q = (okp h k2 10 = true ∧ Tr sc d 180 (9, [l0, l1, l2, l3], [.int (hI h k2 11), .int i1, .ref k0], h) Q) := t_gd k_180_6 rfl
theorem k_180_9 : lk 180 9 = some (.iastore, 10, 0, 0, .null) := by decide +kernel
theorem x_180_9 : Tr sc d 180 (9, [l0, l1, l2, l3], [.int i2, .int i1, .ref k0], h) Q = ((okp h k0 11 && inb i1 (LN k0)) = true ∧ Tr sc d 180 (10, [l0, l1, l2, l3], [], (sI h k0 i1.toNatClampNeg i2)) Q) := t_gd k_180_9 rfl
theorem k_180_10 : lk 180 10 = some (.aload_n 0, 11, 0, 0, .null) := by decide +kernel
theorem x_180_10 : Tr sc d 180 (10, [some (.ref xk), l1, l2, l3], [], h) Q = Tr sc d 180 (11, [some (.ref xk), l1, l2, l3], [.ref xk], h) Q := t_aload_n k_180_10 rfl
theorem k_180_11 : lk 180 11 = some (.getfield 41, 14, 10, 18, .null) := by decide +kernel
theorem x_180_11 : Tr sc d 180 (11, [l0, l1, l2, l3], [.ref k0], h) Q = (okp h k0 10 = true ∧ ∃ q, hR h k0 18 = some q ∧ Tr sc d 180 (14, [l0, l1, l2, l3], [.ref q], h) Q) := t_getr k_180_11
theorem k_180_14 : lk 180 14 = some (.iload_n 1, 15, 1, 0, .null) := by decide +kernel
theorem x_180_14 : Tr sc d 180 (14, [l0, some (.int x), l2, l3], [.ref k0], h) Q = Tr sc d 180 (15, [l0, some (.int x), l2, l3], [.int x, .ref k0], h) Q := t_iload_n k_180_14 rfl
theorem k_180_15 : lk 180 15 = some (.aload_n 0, 16, 0, 0, .null) := by decide +kernel
theorem x_180_15 : Tr sc d 180 (15, [some (.ref xk), l1, l2, l3], [.int i1, .ref k0], h) Q = Tr sc d 180 (16, [some (.ref xk), l1, l2, l3], [.ref xk, .int i1, .ref k0], h) Q := t_aload_n k_180_15 rfl
theorem k_180_16 : lk 180 16 = some (.getfield 178, 19, 10, 12, .int 0) := by decide +kernel
theorem x_180_16 : Tr sc d 180 (16, [l0, l1, l2, l3], [.ref k2, .int i1, .ref k0], h) Q = (okp h k2 10 = true ∧ Tr sc d 180 (19, [l0, l1, l2, l3], [.int (hI h k2 12), .int i1, .ref k0], h) Q) := t_gd k_180_16 rfl
theorem k_180_19 : lk 180 19 = some (.iastore, 20, 0, 0, .null) := by decide +kernel
theorem x_180_19 : Tr sc d 180 (19, [l0, l1, l2, l3], [.int i2, .int i1, .ref k0], h) Q = ((okp h k0 11 && inb i1 (LN k0)) = true ∧ Tr sc d 180 (20, [l0, l1, l2, l3], [], (sI h k0 i1.toNatClampNeg i2)) Q) := t_gd k_180_19 rfl
theorem k_180_20 : lk 180 20 = some (.iconst 1, 21, 0, 0, .int 1) := by decide +kernel
theorem x_180_20 : Tr sc d 180 (20, [l0, l1, l2, l3], [], h) Q = Tr sc d 180 (21, [l0, l1, l2, l3], [.int 1], h) Q := t_go k_180_20 rfl
theorem k_180_21 : lk 180 21 = some (.istore_n 2, 22, 2, 0, .null) := by decide +kernel
theorem x_180_21 : Tr sc d 180 (21, [l0, l1, l2, l3], [.int i0], h) Q = Tr sc d 180 (22, [l0, cl2 l1, some (.int i0), l3], [], h) Q := t_istore_n k_180_21 (Nat.le_of_ble_eq_true rfl)
theorem k_180_22 : lk 180 22 = some (.iconst 0, 23, 0, 0, .int 0) := by decide +kernel
theorem x_180_22 : Tr sc d 180 (22, [l0, l1, l2, l3], [], h) Q = Tr sc d 180 (23, [l0, l1, l2, l3], [.int 0], h) Q := t_go k_180_22 rfl
theorem k_180_23 : lk 180 23 = some (.istore_n 3, 24, 3, 0, .null) := by decide +kernel
theorem x_180_23 : Tr sc d 180 (23, [l0, l1, l2, l3], [.int i0], h) Q = Tr sc d 180 (24, [l0, l1, cl2 l2, some (.int i0)], [], h) Q := t_istore_n k_180_23 (Nat.le_of_ble_eq_true rfl)
theorem k_180_24 : lk 180 24 = some (.iload_n 3, 25, 3, 0, .null) := by decide +kernel
theorem x_180_24 : Tr sc d 180 (24, [l0, l1, l2, some (.int x)], [], h) Q = Tr sc d 180 (25, [l0, l1, l2, some (.int x)], [.int x], h) Q := t_iload_n k_180_24 rfl
theorem k_180_25 : lk 180 25 = some (.aload_n 0, 26, 0, 0, .null) := by decide +kernel
theorem x_180_25 : Tr sc d 180 (25, [some (.ref xk), l1, l2, l3], [.int i0], h) Q = Tr sc d 180 (26, [some (.ref xk), l1, l2, l3], [.ref xk, .int i0], h) Q := t_aload_n k_180_25 rfl
theorem k_180_26 : lk 180 26 = some (.getfield 178, 29, 10, 12, .int 0) := by decide +kernel
theorem x_180_26 : Tr sc d 180 (26, [l0, l1, l2, l3], [.ref k1, .int i0], h) Q = (okp h k1 10 = true ∧ Tr sc d 180 (29, [l0, l1, l2, l3], [.int (hI h k1 12), .int i0], h) Q) := t_gd k_180_26 rfl
theorem k_180_29 : lk 180 29 = some (.if_icmp .ge 103, 32, 132, 0, .null) := by decide +kernel
theorem x_180_29 : Tr sc d 180 (29, [l0, l1, l2, l3], [.int i1, .int i0], h) Q = if i1 ≤ i0 then Tr sc d 180 (132, [l0, l1, l2, l3], [], h) Q else Tr sc d 180 (32, [l0, l1, l2, l3], [], h) Q := t_if k_180_29 rfl
theorem k_180_32 : lk 180 32 = some (.aload_n 0, 33, 0, 0, .null) := by decide +kernel
theorem x_180_32 : Tr sc d 180 (32, [some (.ref xk), l1, l2, l3], [], h) Q = Tr sc d 180 (33, [some (.ref xk), l1, l2, l3], [.ref xk], h) Q := t_aload_n k_180_32 rfl
theorem k_180_33 : lk 180 33 = some (.getfield 44, 36, 10, 19, .null) := by decide +kernel
theorem x_180_33 : Tr sc d 180 (33, [l0, l1, l2, l3], [.ref k0], h) Q = (okp h k0 10 = true ∧ ∃ q, hR h k0 19 = some q ∧ Tr sc d 180 (36, [l0, l1, l2, l3], [.ref q], h) Q) := t_getr k_180_33
theorem k_180_36 : lk 180 36 = some (.bipush 6, 38, 0, 0, .int 6) := by decide +kernel
theorem x_180_36 : Tr sc d 180 (36, [l0, l1, l2, l3], [.ref k0], h) Q = Tr sc d 180 (38, [l0, l1, l2, l3], [.int 6, .ref k0], h) Q := t_go k_180_36 rfl
theorem k_180_38 : lk 180 38 = some (.iload_n 1, 39, 1, 0, .null) := by decide +kernel
theorem x_180_38 : Tr sc d 180 (38, [l0, some (.int x), l2, l3], [.int i1, .ref k0], h) Q = Tr sc d 180 (39, [l0, some (.int x), l2, l3], [.int x, .int i1, .ref k0], h) Q := t_iload_n k_180_38 rfl
theorem k_180_39 : lk 180 39 = some (.imul, 40, 0, 0, .null) := by decide +kernel
theorem x_180_39 : Tr sc d 180 (39, [l0, l1, l2, l3], [.int i2, .int i1, .ref k0], h) Q = Tr sc d 180 (40, [l0, l1, l2, l3], [.int (i1 * i2), .ref k0], h) Q := t_go k_180_39 rfl
theorem k_180_40 : lk 180 40 = some (.iload_n 3, 41, 3, 0, .null) := by decide +kernel
theorem x_180_40 : Tr sc d 180 (40, [l0, l1, l2, some (.int x)], [.int i1, .ref k0], h) Q = Tr sc d 180 (41, [l0, l1, l2, some (.int x)], [.int x, .int i1, .ref k0], h) Q := t_iload_n k_180_40 rfl
theorem k_180_41 : lk 180 41 = some (.iadd, 42, 0, 0, .null) := by decide +kernel
theorem x_180_41 : Tr sc d 180 (41, [l0, l1, l2, l3], [.int i2, .int i1, .ref k0], h) Q = Tr sc d 180 (42, [l0, l1, l2, l3], [.int (i1 + i2), .ref k0], h) Q := t_go k_180_41 rfl
theorem k_180_42 : lk 180 42 = some (.aload_n 0, 43, 0, 0, .null) := by decide +kernel
theorem x_180_42 : Tr sc d 180 (42, [some (.ref xk), l1, l2, l3], [.int i1, .ref k0], h) Q = Tr sc d 180 (43, [some (.ref xk), l1, l2, l3], [.ref xk, .int i1, .ref k0], h) Q := t_aload_n k_180_42 rfl
theorem k_180_43 : lk 180 43 = some (.getfield 32, 46, 10, 13, .null) := by decide +kernel
theorem x_180_43 : Tr sc d 180 (43, [l0, l1, l2, l3], [.ref k2, .int i1, .ref k0], h) Q = (okp h k2 10 = true ∧ ∃ q, hR h k2 13 = some q ∧ Tr sc d 180 (46, [l0, l1, l2, l3], [.ref q, .int i1, .ref k0], h) Q) := t_getr k_180_43
theorem k_180_46 : lk 180 46 = some (.iconst 3, 47, 0, 0, .int 3) := by decide +kernel
theorem x_180_46 : Tr sc d 180 (46, [l0, l1, l2, l3], [.ref k2, .int i1, .ref k0], h) Q = Tr sc d 180 (47, [l0, l1, l2, l3], [.int 3, .ref k2, .int i1, .ref k0], h) Q := t_go k_180_46 rfl
theorem k_180_47 : lk 180 47 = some (.iload_n 3, 48, 3, 0, .null) := by decide +kernel
theorem x_180_47 : Tr sc d 180 (47, [l0, l1, l2, some (.int x)], [.int i3, .ref k2, .int i1, .ref k0], h) Q = Tr sc d 180 (48, [l0, l1, l2, some (.int x)], [.int x, .int i3, .ref k2, .int i1, .ref k0], h) Q := t_iload_n k_180_47 rfl
theorem k_180_48 : lk 180 48 = some (.imul, 49, 0, 0, .null) := by decide +kernel
theorem x_180_48 : Tr sc d 180 (48, [l0, l1, l2, l3], [.int i4, .int i3, .ref k2, .int i1, .ref k0], h) Q = Tr sc d 180 (49, [l0, l1, l2, l3], [.int (i3 * i4), .ref k2, .int i1, .ref k0], h) Q := t_go k_180_48 rfl
theorem k_180_49 : lk 180 49 = some (.iaload, 50, 0, 0, .null) := by decide +kernel
theorem x_180_49 : Tr sc d 180 (49, [l0, l1, l2, l3], [.int i3, .ref k2, .int i1, .ref k0], h) Q = (iOk sc h k2 i3 ∧ Tr sc d 180 (50, [l0, l1, l2, l3], [.int (iRd sc h k2 i3), .int i1, .ref k0], h) Q) := t_iald k_180_49
theorem k_180_50 : lk 180 50 = some (.iastore, 51, 0, 0, .null) := by decide +kernel
theorem x_180_50 : Tr sc d 180 (50, [l0, l1, l2, l3], [.int i2, .int i1, .ref k0], h) Q = ((okp h k0 11 && inb i1 (LN k0)) = true ∧ Tr sc d 180 (51, [l0, l1, l2, l3], [], (sI h k0 i1.toNatClampNeg i2)) Q) := t_gd k_180_50 rfl
theorem k_180_51 : lk 180 51 = some (.aload_n 0, 52, 0, 0, .null) := by decide +kernel
theorem x_180_51 : Tr sc d 180 (51, [some (.ref xk), l1, l2, l3], [], h) Q = Tr sc d 180 (52, [some (.ref xk), l1, l2, l3], [.ref xk], h) Q := t_aload_n k_180_51 rfl
theorem k_180_52 : lk 180 52 = some (.getfield 47, 55, 10, 20, .null) := by decide +kernel
theorem x_180_52 : Tr sc d 180 (52, [l0, l1, l2, l3], [.ref k0], h) Q = (okp h k0 10 = true ∧ ∃ q, hR h k0 20 = some q ∧ Tr sc d 180 (55, [l0, l1, l2, l3], [.ref q], h) Q) := t_getr k_180_52
theorem k_180_55 : lk 180 55 = some (.bipush 6, 57, 0, 0, .int 6) := by decide +kernel
theorem x_180_55 : Tr sc d 180 (55, [l0, l1, l2, l3], [.ref k0], h) Q = Tr sc d 180 (57, [l0, l1, l2, l3], [.int 6, .ref k0], h) Q := t_go k_180_55 rfl
theorem k_180_57 : lk 180 57 = some (.iload_n 1, 58, 1, 0, .null) := by decide +kernel
theorem x_180_57 : Tr sc d 180 (57, [l0, some (.int x), l2, l3], [.int i1, .ref k0], h) Q = Tr sc d 180 (58, [l0, some (.int x), l2, l3], [.int x, .int i1, .ref k0], h) Q := t_iload_n k_180_57 rfl
theorem k_180_58 : lk 180 58 = some (.imul, 59, 0, 0, .null) := by decide +kernel
theorem x_180_58 : Tr sc d 180 (58, [l0, l1, l2, l3], [.int i2, .int i1, .ref k0], h) Q = Tr sc d 180 (59, [l0, l1, l2, l3], [.int (i1 * i2), .ref k0], h) Q := t_go k_180_58 rfl
theorem k_180_59 : lk 180 59 = some (.iload_n 3, 60, 3, 0, .null) := by decide +kernel
theorem x_180_59 : Tr sc d 180 (59, [l0, l1, l2, some (.int x)], [.int i1, .ref k0], h) Q = Tr sc d 180 (60, [l0, l1, l2, some (.int x)], [.int x, .int i1, .ref k0], h) Q := t_iload_n k_180_59 rfl
theorem k_180_60 : lk 180 60 = some (.iadd, 61, 0, 0, .null) := by decide +kernel
theorem x_180_60 : Tr sc d 180 (60, [l0, l1, l2, l3], [.int i2, .int i1, .ref k0], h) Q = Tr sc d 180 (61, [l0, l1, l2, l3], [.int (i1 + i2), .ref k0], h) Q := t_go k_180_60 rfl
theorem k_180_61 : lk 180 61 = some (.aload_n 0, 62, 0, 0, .null) := by decide +kernel
theorem x_180_61 : Tr sc d 180 (61, [some (.ref xk), l1, l2, l3], [.int i1, .ref k0], h) Q = Tr sc d 180 (62, [some (.ref xk), l1, l2, l3], [.ref xk, .int i1, .ref k0], h) Q := t_aload_n k_180_61 rfl
theorem k_180_62 : lk 180 62 = some (.getfield 32, 65, 10, 13, .null) := by decide +kernel
theorem x_180_62 : Tr sc d 180 (62, [l0, l1, l2, l3], [.ref k2, .int i1, .ref k0], h) Q = (okp h k2 10 = true ∧ ∃ q, hR h k2 13 = some q ∧ Tr sc d 180 (65, [l0, l1, l2, l3], [.ref q, .int i1, .ref k0], h) Q) := t_getr k_180_62
theorem k_180_65 : lk 180 65 = some (.iconst 3, 66, 0, 0, .int 3) := by decide +kernel
theorem x_180_65 : Tr sc d 180 (65, [l0, l1, l2, l3], [.ref k2, .int i1, .ref k0], h) Q = Tr sc d 180 (66, [l0, l1, l2, l3], [.int 3, .ref k2, .int i1, .ref k0], h) Q := t_go k_180_65 rfl
theorem k_180_66 : lk 180 66 = some (.iload_n 3, 67, 3, 0, .null) := by decide +kernel
theorem x_180_66 : Tr sc d 180 (66, [l0, l1, l2, some (.int x)], [.int i3, .ref k2, .int i1, .ref k0], h) Q = Tr sc d 180 (67, [l0, l1, l2, some (.int x)], [.int x, .int i3, .ref k2, .int i1, .ref k0], h) Q := t_iload_n k_180_66 rfl
theorem k_180_67 : lk 180 67 = some (.imul, 68, 0, 0, .null) := by decide +kernel
theorem x_180_67 : Tr sc d 180 (67, [l0, l1, l2, l3], [.int i4, .int i3, .ref k2, .int i1, .ref k0], h) Q = Tr sc d 180 (68, [l0, l1, l2, l3], [.int (i3 * i4), .ref k2, .int i1, .ref k0], h) Q := t_go k_180_67 rfl
theorem k_180_68 : lk 180 68 = some (.iconst 1, 69, 0, 0, .int 1) := by decide +kernel
theorem x_180_68 : Tr sc d 180 (68, [l0, l1, l2, l3], [.int i3, .ref k2, .int i1, .ref k0], h) Q = Tr sc d 180 (69, [l0, l1, l2, l3], [.int 1, .int i3, .ref k2, .int i1, .ref k0], h) Q := t_go k_180_68 rfl
theorem k_180_69 : lk 180 69 = some (.iadd, 70, 0, 0, .null) := by decide +kernel
theorem x_180_69 : Tr sc d 180 (69, [l0, l1, l2, l3], [.int i4, .int i3, .ref k2, .int i1, .ref k0], h) Q = Tr sc d 180 (70, [l0, l1, l2, l3], [.int (i3 + i4), .ref k2, .int i1, .ref k0], h) Q := t_go k_180_69 rfl
theorem k_180_70 : lk 180 70 = some (.iaload, 71, 0, 0, .null) := by decide +kernel
theorem x_180_70 : Tr sc d 180 (70, [l0, l1, l2, l3], [.int i3, .ref k2, .int i1, .ref k0], h) Q = (iOk sc h k2 i3 ∧ Tr sc d 180 (71, [l0, l1, l2, l3], [.int (iRd sc h k2 i3), .int i1, .ref k0], h) Q) := t_iald k_180_70
theorem k_180_71 : lk 180 71 = some (.iastore, 72, 0, 0, .null) := by decide +kernel
theorem x_180_71 : Tr sc d 180 (71, [l0, l1, l2, l3], [.int i2, .int i1, .ref k0], h) Q = ((okp h k0 11 && inb i1 (LN k0)) = true ∧ Tr sc d 180 (72, [l0, l1, l2, l3], [], (sI h k0 i1.toNatClampNeg i2)) Q) := t_gd k_180_71 rfl
theorem k_180_72 : lk 180 72 = some (.aload_n 0, 73, 0, 0, .null) := by decide +kernel
theorem x_180_72 : Tr sc d 180 (72, [some (.ref xk), l1, l2, l3], [], h) Q = Tr sc d 180 (73, [some (.ref xk), l1, l2, l3], [.ref xk], h) Q := t_aload_n k_180_72 rfl
theorem k_180_73 : lk 180 73 = some (.getfield 50, 76, 10, 21, .null) := by decide +kernel
theorem x_180_73 : Tr sc d 180 (73, [l0, l1, l2, l3], [.ref k0], h) Q = (okp h k0 10 = true ∧ ∃ q, hR h k0 21 = some q ∧ Tr sc d 180 (76, [l0, l1, l2, l3], [.ref q], h) Q) := t_getr k_180_73
theorem k_180_76 : lk 180 76 = some (.bipush 6, 78, 0, 0, .int 6) := by decide +kernel
theorem x_180_76 : Tr sc d 180 (76, [l0, l1, l2, l3], [.ref k0], h) Q = Tr sc d 180 (78, [l0, l1, l2, l3], [.int 6, .ref k0], h) Q := t_go k_180_76 rfl
theorem k_180_78 : lk 180 78 = some (.iload_n 1, 79, 1, 0, .null) := by decide +kernel
theorem x_180_78 : Tr sc d 180 (78, [l0, some (.int x), l2, l3], [.int i1, .ref k0], h) Q = Tr sc d 180 (79, [l0, some (.int x), l2, l3], [.int x, .int i1, .ref k0], h) Q := t_iload_n k_180_78 rfl
theorem k_180_79 : lk 180 79 = some (.imul, 80, 0, 0, .null) := by decide +kernel
theorem x_180_79 : Tr sc d 180 (79, [l0, l1, l2, l3], [.int i2, .int i1, .ref k0], h) Q = Tr sc d 180 (80, [l0, l1, l2, l3], [.int (i1 * i2), .ref k0], h) Q := t_go k_180_79 rfl
theorem k_180_80 : lk 180 80 = some (.iload_n 3, 81, 3, 0, .null) := by decide +kernel
theorem x_180_80 : Tr sc d 180 (80, [l0, l1, l2, some (.int x)], [.int i1, .ref k0], h) Q = Tr sc d 180 (81, [l0, l1, l2, some (.int x)], [.int x, .int i1, .ref k0], h) Q := t_iload_n k_180_80 rfl
theorem k_180_81 : lk 180 81 = some (.iadd, 82, 0, 0, .null) := by decide +kernel
theorem x_180_81 : Tr sc d 180 (81, [l0, l1, l2, l3], [.int i2, .int i1, .ref k0], h) Q = Tr sc d 180 (82, [l0, l1, l2, l3], [.int (i1 + i2), .ref k0], h) Q := t_go k_180_81 rfl
theorem k_180_82 : lk 180 82 = some (.aload_n 0, 83, 0, 0, .null) := by decide +kernel
theorem x_180_82 : Tr sc d 180 (82, [some (.ref xk), l1, l2, l3], [.int i1, .ref k0], h) Q = Tr sc d 180 (83, [some (.ref xk), l1, l2, l3], [.ref xk, .int i1, .ref k0], h) Q := t_aload_n k_180_82 rfl
theorem k_180_83 : lk 180 83 = some (.getfield 32, 86, 10, 13, .null) := by decide +kernel
theorem x_180_83 : Tr sc d 180 (83, [l0, l1, l2, l3], [.ref k2, .int i1, .ref k0], h) Q = (okp h k2 10 = true ∧ ∃ q, hR h k2 13 = some q ∧ Tr sc d 180 (86, [l0, l1, l2, l3], [.ref q, .int i1, .ref k0], h) Q) := t_getr k_180_83
theorem k_180_86 : lk 180 86 = some (.iconst 3, 87, 0, 0, .int 3) := by decide +kernel
theorem x_180_86 : Tr sc d 180 (86, [l0, l1, l2, l3], [.ref k2, .int i1, .ref k0], h) Q = Tr sc d 180 (87, [l0, l1, l2, l3], [.int 3, .ref k2, .int i1, .ref k0], h) Q := t_go k_180_86 rfl
theorem k_180_87 : lk 180 87 = some (.iload_n 3, 88, 3, 0, .null) := by decide +kernel
theorem x_180_87 : Tr sc d 180 (87, [l0, l1, l2, some (.int x)], [.int i3, .ref k2, .int i1, .ref k0], h) Q = Tr sc d 180 (88, [l0, l1, l2, some (.int x)], [.int x, .int i3, .ref k2, .int i1, .ref k0], h) Q := t_iload_n k_180_87 rfl
theorem k_180_88 : lk 180 88 = some (.imul, 89, 0, 0, .null) := by decide +kernel
theorem x_180_88 : Tr sc d 180 (88, [l0, l1, l2, l3], [.int i4, .int i3, .ref k2, .int i1, .ref k0], h) Q = Tr sc d 180 (89, [l0, l1, l2, l3], [.int (i3 * i4), .ref k2, .int i1, .ref k0], h) Q := t_go k_180_88 rfl
theorem k_180_89 : lk 180 89 = some (.iconst 2, 90, 0, 0, .int 2) := by decide +kernel
theorem x_180_89 : Tr sc d 180 (89, [l0, l1, l2, l3], [.int i3, .ref k2, .int i1, .ref k0], h) Q = Tr sc d 180 (90, [l0, l1, l2, l3], [.int 2, .int i3, .ref k2, .int i1, .ref k0], h) Q := t_go k_180_89 rfl
theorem k_180_90 : lk 180 90 = some (.iadd, 91, 0, 0, .null) := by decide +kernel
theorem x_180_90 : Tr sc d 180 (90, [l0, l1, l2, l3], [.int i4, .int i3, .ref k2, .int i1, .ref k0], h) Q = Tr sc d 180 (91, [l0, l1, l2, l3], [.int (i3 + i4), .ref k2, .int i1, .ref k0], h) Q := t_go k_180_90 rfl
theorem k_180_91 : lk 180 91 = some (.iaload, 92, 0, 0, .null) := by decide +kernel
theorem x_180_91 : Tr sc d 180 (91, [l0, l1, l2, l3], [.int i3, .ref k2, .int i1, .ref k0], h) Q = (iOk sc h k2 i3 ∧ Tr sc d 180 (92, [l0, l1, l2, l3], [.int (iRd sc h k2 i3), .int i1, .ref k0], h) Q) := t_iald k_180_91
theorem k_180_92 : lk 180 92 = some (.iastore, 93, 0, 0, .null) := by decide +kernel
theorem x_180_92 : Tr sc d 180 (92, [l0, l1, l2, l3], [.int i2, .int i1, .ref k0], h) Q = ((okp h k0 11 && inb i1 (LN k0)) = true ∧ Tr sc d 180 (93, [l0, l1, l2, l3], [], (sI h k0 i1.toNatClampNeg i2)) Q) := t_gd k_180_92 rfl
theorem k_180_93 : lk 180 93 = some (.aload_n 0, 94, 0, 0, .null) := by decide +kernel
theorem x_180_93 : Tr sc d 180 (93, [some (.ref xk), l1, l2, l3], [], h) Q = Tr sc d 180 (94, [some (.ref xk), l1, l2, l3], [.ref xk], h) Q := t_aload_n k_180_93 rfl
theorem k_180_94 : lk 180 94 = some (.getfield 53, 97, 10, 22, .null) := by decide +kernel
theorem x_180_94 : Tr sc d 180 (94, [l0, l1, l2, l3], [.ref k0], h) Q = (okp h k0 10 = true ∧ ∃ q, hR h k0 22 = some q ∧ Tr sc d 180 (97, [l0, l1, l2, l3], [.ref q], h) Q) := t_getr k_180_94
theorem k_180_97 : lk 180 97 = some (.bipush 6, 99, 0, 0, .int 6) := by decide +kernel
theorem x_180_97 : Tr sc d 180 (97, [l0, l1, l2, l3], [.ref k0], h) Q = Tr sc d 180 (99, [l0, l1, l2, l3], [.int 6, .ref k0], h) Q := t_go k_180_97 rfl
theorem k_180_99 : lk 180 99 = some (.iload_n 1, 100, 1, 0, .null) := by decide +kernel
theorem x_180_99 : Tr sc d 180 (99, [l0, some (.int x), l2, l3], [.int i1, .ref k0], h) Q = Tr sc d 180 (100, [l0, some (.int x), l2, l3], [.int x, .int i1, .ref k0], h) Q := t_iload_n k_180_99 rfl
theorem k_180_100 : lk 180 100 = some (.imul, 101, 0, 0, .null) := by decide +kernel
theorem x_180_100 : Tr sc d 180 (100, [l0, l1, l2, l3], [.int i2, .int i1, .ref k0], h) Q = Tr sc d 180 (101, [l0, l1, l2, l3], [.int (i1 * i2), .ref k0], h) Q := t_go k_180_100 rfl
theorem k_180_101 : lk 180 101 = some (.iload_n 3, 102, 3, 0, .null) := by decide +kernel
theorem x_180_101 : Tr sc d 180 (101, [l0, l1, l2, some (.int x)], [.int i1, .ref k0], h) Q = Tr sc d 180 (102, [l0, l1, l2, some (.int x)], [.int x, .int i1, .ref k0], h) Q := t_iload_n k_180_101 rfl
theorem k_180_102 : lk 180 102 = some (.iadd, 103, 0, 0, .null) := by decide +kernel
theorem x_180_102 : Tr sc d 180 (102, [l0, l1, l2, l3], [.int i2, .int i1, .ref k0], h) Q = Tr sc d 180 (103, [l0, l1, l2, l3], [.int (i1 + i2), .ref k0], h) Q := t_go k_180_102 rfl
theorem k_180_103 : lk 180 103 = some (.iconst 0, 104, 0, 0, .int 0) := by decide +kernel
theorem x_180_103 : Tr sc d 180 (103, [l0, l1, l2, l3], [.int i1, .ref k0], h) Q = Tr sc d 180 (104, [l0, l1, l2, l3], [.int 0, .int i1, .ref k0], h) Q := t_go k_180_103 rfl
theorem k_180_104 : lk 180 104 = some (.iastore, 105, 0, 0, .null) := by decide +kernel
theorem x_180_104 : Tr sc d 180 (104, [l0, l1, l2, l3], [.int i2, .int i1, .ref k0], h) Q = ((okp h k0 11 && inb i1 (LN k0)) = true ∧ Tr sc d 180 (105, [l0, l1, l2, l3], [], (sI h k0 i1.toNatClampNeg i2)) Q) := t_gd k_180_104 rfl
theorem k_180_105 : lk 180 105 = some (.iload_n 2, 106, 2, 0, .null) := by decide +kernel
theorem x_180_105 : Tr sc d 180 (105, [l0, l1, some (.int x), l3], [], h) Q = Tr sc d 180 (106, [l0, l1, some (.int x), l3], [.int x], h) Q := t_iload_n k_180_105 rfl
theorem k_180_106 : lk 180 106 = some (.ifCond .eq 18, 109, 124, 0, .null) := by decide +kernel
theorem x_180_106 : Tr sc d 180 (106, [l0, l1, l2, l3], [.int i0], h) Q = if i0 = 0 then Tr sc d 180 (124, [l0, l1, l2, l3], [], h) Q else Tr sc d 180 (109, [l0, l1, l2, l3], [], h) Q := t_if k_180_106 rfl
theorem k_180_109 : lk 180 109 = some (.aload_n 0, 110, 0, 0, .null) := by decide +kernel
theorem x_180_109 : Tr sc d 180 (109, [some (.ref xk), l1, l2, l3], [], h) Q = Tr sc d 180 (110, [some (.ref xk), l1, l2, l3], [.ref xk], h) Q := t_aload_n k_180_109 rfl
theorem k_180_110 : lk 180 110 = some (.getfield 32, 113, 10, 13, .null) := by decide +kernel
theorem x_180_110 : Tr sc d 180 (110, [l0, l1, l2, l3], [.ref k0], h) Q = (okp h k0 10 = true ∧ ∃ q, hR h k0 13 = some q ∧ Tr sc d 180 (113, [l0, l1, l2, l3], [.ref q], h) Q) := t_getr k_180_110
theorem k_180_113 : lk 180 113 = some (.iconst 3, 114, 0, 0, .int 3) := by decide +kernel
theorem x_180_113 : Tr sc d 180 (113, [l0, l1, l2, l3], [.ref k0], h) Q = Tr sc d 180 (114, [l0, l1, l2, l3], [.int 3, .ref k0], h) Q := t_go k_180_113 rfl
theorem k_180_114 : lk 180 114 = some (.iload_n 3, 115, 3, 0, .null) := by decide +kernel
theorem x_180_114 : Tr sc d 180 (114, [l0, l1, l2, some (.int x)], [.int i1, .ref k0], h) Q = Tr sc d 180 (115, [l0, l1, l2, some (.int x)], [.int x, .int i1, .ref k0], h) Q := t_iload_n k_180_114 rfl
theorem k_180_115 : lk 180 115 = some (.imul, 116, 0, 0, .null) := by decide +kernel
theorem x_180_115 : Tr sc d 180 (115, [l0, l1, l2, l3], [.int i2, .int i1, .ref k0], h) Q = Tr sc d 180 (116, [l0, l1, l2, l3], [.int (i1 * i2), .ref k0], h) Q := t_go k_180_115 rfl
theorem k_180_116 : lk 180 116 = some (.iaload, 117, 0, 0, .null) := by decide +kernel
theorem x_180_116 : Tr sc d 180 (116, [l0, l1, l2, l3], [.int i1, .ref k0], h) Q = (iOk sc h k0 i1 ∧ Tr sc d 180 (117, [l0, l1, l2, l3], [.int (iRd sc h k0 i1)], h) Q) := t_iald k_180_116
theorem k_180_117 : lk 180 117 = some (.ifCond .ne 7, 120, 124, 0, .null) := by decide +kernel
theorem x_180_117 : Tr sc d 180 (117, [l0, l1, l2, l3], [.int i0], h) Q = if i0 = 0 then Tr sc d 180 (120, [l0, l1, l2, l3], [], h) Q else Tr sc d 180 (124, [l0, l1, l2, l3], [], h) Q := t_if k_180_117 rfl
theorem k_180_120 : lk 180 120 = some (.iconst 1, 121, 0, 0, .int 1) := by decide +kernel
theorem x_180_120 : Tr sc d 180 (120, [l0, l1, l2, l3], [], h) Q = Tr sc d 180 (121, [l0, l1, l2, l3], [.int 1], h) Q := t_go k_180_120 rfl
theorem k_180_121 : lk 180 121 = some (.goto 4, 124, 125, 0, .null) := by decide +kernel
theorem x_180_121 : Tr sc d 180 (121, [l0, l1, l2, l3], [.int i0], h) Q = Tr sc d 180 (125, [l0, l1, l2, l3], [.int i0], h) Q := t_go k_180_121 rfl
theorem k_180_124 : lk 180 124 = some (.iconst 0, 125, 0, 0, .int 0) := by decide +kernel
theorem x_180_124 : Tr sc d 180 (124, [l0, l1, l2, l3], [], h) Q = Tr sc d 180 (125, [l0, l1, l2, l3], [.int 0], h) Q := t_go k_180_124 rfl
theorem k_180_125 : lk 180 125 = some (.istore_n 2, 126, 2, 0, .null) := by decide +kernel
theorem x_180_125 : Tr sc d 180 (125, [l0, l1, l2, l3], [.int i0], h) Q = Tr sc d 180 (126, [l0, cl2 l1, some (.int i0), l3], [], h) Q := t_istore_n k_180_125 (Nat.le_of_ble_eq_true rfl)
theorem k_180_126 : lk 180 126 = some (.iinc 3 1, 129, 3, 0, .int 1) := by decide +kernel
theorem x_180_126 : Tr sc d 180 (126, [l0, l1, l2, some (.int x)], [], h) Q = Tr sc d 180 (129, [l0, l1, cl2 l2, some (.int (x + 1))], [], h) Q := t_inc k_180_126 rfl (Nat.le_of_ble_eq_true rfl)
theorem k_180_129 : lk 180 129 = some (.goto (-105), 132, 24, 0, .null) := by decide +kernel
theorem x_180_129 : Tr sc d 180 (129, [l0, l1, l2, l3], [], h) Q = Tr sc d 180 (24, [l0, l1, l2, l3], [], h) Q := t_go k_180_129 rfl
theorem k_180_132 : lk 180 132 = some (.aload_n 0, 133, 0, 0, .null) := by decide +kernel
theorem x_180_132 : Tr sc d 180 (132, [some (.ref xk), l1, l2, l3], [], h) Q = Tr sc d 180 (133, [some (.ref xk), l1, l2, l3], [.ref xk], h) Q := t_aload_n k_180_132 rfl
theorem k_180_133 : lk 180 133 = some (.getfield 35, 136, 10, 16, .null) := by decide +kernel
theorem x_180_133 : Tr sc d 180 (133, [l0, l1, l2, l3], [.ref k0], h) Q = (okp h k0 10 = true ∧ ∃ q, hR h k0 16 = some q ∧ Tr sc d 180 (136, [l0, l1, l2, l3], [.ref q], h) Q) := t_getr k_180_133
theorem k_180_136 : lk 180 136 = some (.iload_n 1, 137, 1, 0, .null) := by decide +kernel
theorem x_180_136 : Tr sc d 180 (136, [l0, some (.int x), l2, l3], [.ref k0], h) Q = Tr sc d 180 (137, [l0, some (.int x), l2, l3], [.int x, .ref k0], h) Q := t_iload_n k_180_136 rfl
theorem k_180_137 : lk 180 137 = some (.iload_n 2, 138, 2, 0, .null) := by decide +kernel
theorem x_180_137 : Tr sc d 180 (137, [l0, l1, some (.int x), l3], [.int i1, .ref k0], h) Q = Tr sc d 180 (138, [l0, l1, some (.int x), l3], [.int x, .int i1, .ref k0], h) Q := t_iload_n k_180_137 rfl
theorem k_180_138 : lk 180 138 = some (.ifCond .ne 7, 141, 145, 0, .null) := by decide +kernel
theorem x_180_138 : Tr sc d 180 (138, [l0, l1, l2, l3], [.int i2, .int i1, .ref k0], h) Q = if i2 = 0 then Tr sc d 180 (141, [l0, l1, l2, l3], [.int i1, .ref k0], h) Q else Tr sc d 180 (145, [l0, l1, l2, l3], [.int i1, .ref k0], h) Q := t_if k_180_138 rfl
theorem k_180_141 : lk 180 141 = some (.iconst 0, 142, 0, 0, .int 0) := by decide +kernel
theorem x_180_141 : Tr sc d 180 (141, [l0, l1, l2, l3], [.int i1, .ref k0], h) Q = Tr sc d 180 (142, [l0, l1, l2, l3], [.int 0, .int i1, .ref k0], h) Q := t_go k_180_141 rfl
theorem k_180_142 : lk 180 142 = some (.goto 16, 145, 158, 0, .null) := by decide +kernel
theorem x_180_142 : Tr sc d 180 (142, [l0, l1, l2, l3], [.int i2, .int i1, .ref k0], h) Q = Tr sc d 180 (158, [l0, l1, l2, l3], [.int i2, .int i1, .ref k0], h) Q := t_go k_180_142 rfl
theorem k_180_145 : lk 180 145 = some (.aload_n 0, 146, 0, 0, .null) := by decide +kernel
theorem x_180_145 : Tr sc d 180 (145, [some (.ref xk), l1, l2, l3], [.int i1, .ref k0], h) Q = Tr sc d 180 (146, [some (.ref xk), l1, l2, l3], [.ref xk, .int i1, .ref k0], h) Q := t_aload_n k_180_145 rfl
theorem k_180_146 : lk 180 146 = some (.iload_n 1, 147, 1, 0, .null) := by decide +kernel
theorem x_180_146 : Tr sc d 180 (146, [l0, some (.int x), l2, l3], [.ref k2, .int i1, .ref k0], h) Q = Tr sc d 180 (147, [l0, some (.int x), l2, l3], [.int x, .ref k2, .int i1, .ref k0], h) Q := t_iload_n k_180_146 rfl
theorem k_180_147 : lk 180 147 = some (.invokevirtual 193, 150, 217, 1, .null) := by decide +kernel
theorem x_180_147 : Tr sc (d + 1) 180 (147, [l0, l1, l2, l3], [.int i3, .ref k2, .int i1, .ref k0], h) Q = (okp h k2 10 = true ∧ Tr sc d 217 (ent0 217 [.ref k2, .int i3] h) (fun z => Tr sc (d + 1) 180 (150, [l0, l1, l2, l3], z.1.toList ++ [.int i1, .ref k0], z.2) Q)) := t_cv (as := [.int i3]) (r := [.int i1, .ref k0]) k_180_147 rfl rfl (Nat.le_of_ble_eq_true rfl) (Nat.le_of_ble_eq_true rfl) (Nat.le_of_ble_eq_true rfl)
theorem k_180_150 : lk 180 150 = some (.ifCond .eq 7, 153, 157, 0, .null) := by decide +kernel
theorem x_180_150 : Tr sc d 180 (150, [l0, l1, l2, l3], [.int i2, .int i1, .ref k0], h) Q = if i2 = 0 then Tr sc d 180 (157, [l0, l1, l2, l3], [.int i1, .ref k0], h) Q else Tr sc d 180 (153, [l0, l1, l2, l3], [.int i1, .ref k0], h) Q := t_if k_180_150 rfl
theorem k_180_153 : lk 180 153 = some (.iconst 2, 154, 0, 0, .int 2) := by decide +kernel
theorem x_180_153 : Tr sc d 180 (153, [l0, l1, l2, l3], [.int i1, .ref k0], h) Q = Tr sc d 180 (154, [l0, l1, l2, l3], [.int 2, .int i1, .ref k0], h) Q := t_go k_180_153 rfl
theorem k_180_154 : lk 180 154 = some (.goto 4, 157, 158, 0, .null) := by decide +kernel
theorem x_180_154 : Tr sc d 180 (154, [l0, l1, l2, l3], [.int i2, .int i1, .ref k0], h) Q = Tr sc d 180 (158, [l0, l1, l2, l3], [.int i2, .int i1, .ref k0], h) Q := t_go k_180_154 rfl
theorem k_180_157 : lk 180 157 = some (.iconst 1, 158, 0, 0, .int 1) := by decide +kernel
theorem x_180_157 : Tr sc d 180 (157, [l0, l1, l2, l3], [.int i1, .ref k0], h) Q = Tr sc d 180 (158, [l0, l1, l2, l3], [.int 1, .int i1, .ref k0], h) Q := t_go k_180_157 rfl
theorem k_180_158 : lk 180 158 = some (.iastore, 159, 0, 0, .null) := by decide +kernel
theorem x_180_158 : Tr sc d 180 (158, [l0, l1, l2, l3], [.int i2, .int i1, .ref k0], h) Q = ((okp h k0 11 && inb i1 (LN k0)) = true ∧ Tr sc d 180 (159, [l0, l1, l2, l3], [], (sI h k0 i1.toNatClampNeg i2)) Q) := t_gd k_180_158 rfl
theorem k_180_159 : lk 180 159 = some (.aload_n 0, 160, 0, 0, .null) := by decide +kernel
theorem x_180_159 : Tr sc d 180 (159, [some (.ref xk), l1, l2, l3], [], h) Q = Tr sc d 180 (160, [some (.ref xk), l1, l2, l3], [.ref xk], h) Q := t_aload_n k_180_159 rfl
theorem k_180_160 : lk 180 160 = some (.getfield 35, 163, 10, 16, .null) := by decide +kernel
theorem x_180_160 : Tr sc d 180 (160, [l0, l1, l2, l3], [.ref k0], h) Q = (okp h k0 10 = true ∧ ∃ q, hR h k0 16 = some q ∧ Tr sc d 180 (163, [l0, l1, l2, l3], [.ref q], h) Q) := t_getr k_180_160
theorem k_180_163 : lk 180 163 = some (.iload_n 1, 164, 1, 0, .null) := by decide +kernel
theorem x_180_163 : Tr sc d 180 (163, [l0, some (.int x), l2, l3], [.ref k0], h) Q = Tr sc d 180 (164, [l0, some (.int x), l2, l3], [.int x, .ref k0], h) Q := t_iload_n k_180_163 rfl
theorem k_180_164 : lk 180 164 = some (.iaload, 165, 0, 0, .null) := by decide +kernel
theorem x_180_164 : Tr sc d 180 (164, [l0, l1, l2, l3], [.int i1, .ref k0], h) Q = (iOk sc h k0 i1 ∧ Tr sc d 180 (165, [l0, l1, l2, l3], [.int (iRd sc h k0 i1)], h) Q) := t_iald k_180_164
theorem k_180_165 : lk 180 165 = some (.ireturn, 166, 0, 0, .null) := by decide +kernel
theorem x_180_165 : Tr sc d 180 (165, [l0, l1, l2, l3], [.int i0], h) Q = Q (some (.int i0), h) := t_ret k_180_165 (by rw [r_180]; rfl)
theorem e_180 : Tr sc d 180 (ent0 180 [.ref k0, .int i1] h) Q = Tr sc d 180 (0, [some (.ref k0), some (.int i1), none, none], [], h) Q := by
  have e : mL 180 = 4 := by decide +kernel
  unfold ent0
  rw [e]
  rfl
theorem r_181 : mR 181 = some .int := by decide +kernel
theorem k_181_0 : lk 181 0 = some (.iload_n 1, 1, 1, 0, .null) := by decide +kernel
theorem x_181_0 : Tr sc d 181 (0, [l0, some (.int x), l2], [], h) Q = Tr sc d 181 (1, [l0, some (.int x), l2], [.int x], h) Q := t_iload_n k_181_0 rfl
theorem k_181_1 : lk 181 1 = some (.invokestatic 190, 4, 176, 1, .null) := by decide +kernel
theorem x_181_1 : Tr sc (d + 1) 181 (1, [l0, l1, l2], [.int i0], h) Q = Tr sc d 176 (ent0 176 [.int i0] h) (fun z => Tr sc (d + 1) 181 (4, [l0, l1, l2], z.1.toList ++ [], z.2) Q) := t_cs (as := [.int i0]) (r := []) k_181_1 (by decide) rfl rfl (Nat.le_of_ble_eq_true rfl) (Nat.le_of_ble_eq_true rfl)
theorem k_181_4 : lk 181 4 = some (.ifCond .eq 10, 7, 14, 0, .null) := by decide +kernel
theorem x_181_4 : Tr sc d 181 (4, [l0, l1, l2], [.int i0], h) Q = if i0 = 0 then Tr sc d 181 (14, [l0, l1, l2], [], h) Q else Tr sc d 181 (7, [l0, l1, l2], [], h) Q := t_if k_181_4 rfl
theorem k_181_7 : lk 181 7 = some (.iload_n 2, 8, 2, 0, .null) := by decide +kernel
theorem x_181_7 : Tr sc d 181 (7, [l0, l1, some (.int x)], [], h) Q = Tr sc d 181 (8, [l0, l1, some (.int x)], [.int x], h) Q := t_iload_n k_181_7 rfl
theorem k_181_8 : lk 181 8 = some (.invokestatic 156, 11, 162, 1, .null) := by decide +kernel
theorem x_181_8 : Tr sc (d + 1) 181 (8, [l0, l1, l2], [.int i0], h) Q = Tr sc d 162 (ent0 162 [.int i0] h) (fun z => Tr sc (d + 1) 181 (11, [l0, l1, l2], z.1.toList ++ [], z.2) Q) := t_cs (as := [.int i0]) (r := []) k_181_8 (by decide) rfl rfl (Nat.le_of_ble_eq_true rfl) (Nat.le_of_ble_eq_true rfl)
theorem k_181_11 : lk 181 11 = some (.ifCond .ne 5, 14, 16, 0, .null) := by decide +kernel
theorem x_181_11 : Tr sc d 181 (11, [l0, l1, l2], [.int i0], h) Q = if i0 = 0 then Tr sc d 181 (14, [l0, l1, l2], [], h) Q else Tr sc d 181 (16, [l0, l1, l2], [], h) Q := t_if k_181_11 rfl
theorem k_181_14 : lk 181 14 = some (.iconst (-1), 15, 0, 0, .int (-1)) := by decide +kernel
theorem x_181_14 : Tr sc d 181 (14, [l0, l1, l2], [], h) Q = Tr sc d 181 (15, [l0, l1, l2], [.int (-1)], h) Q := t_go k_181_14 rfl
theorem k_181_15 : lk 181 15 = some (.ireturn, 16, 0, 0, .null) := by decide +kernel
theorem x_181_15 : Tr sc d 181 (15, [l0, l1, l2], [.int i0], h) Q = Q (some (.int i0), h) := t_ret k_181_15 (by rw [r_181]; rfl)
theorem k_181_16 : lk 181 16 = some (.aload_n 0, 17, 0, 0, .null) := by decide +kernel
theorem x_181_16 : Tr sc d 181 (16, [some (.ref xk), l1, l2], [], h) Q = Tr sc d 181 (17, [some (.ref xk), l1, l2], [.ref xk], h) Q := t_aload_n k_181_16 rfl
theorem k_181_17 : lk 181 17 = some (.getfield 26, 20, 10, 9, .null) := by decide +kernel
theorem x_181_17 : Tr sc d 181 (17, [l0, l1, l2], [.ref k0], h) Q = (okp h k0 10 = true ∧ ∃ q, hR h k0 9 = some q ∧ Tr sc d 181 (20, [l0, l1, l2], [.ref q], h) Q) := t_getr k_181_17
theorem k_181_20 : lk 181 20 = some (.iload_n 2, 21, 2, 0, .null) := by decide +kernel
theorem x_181_20 : Tr sc d 181 (20, [l0, l1, some (.int x)], [.ref k0], h) Q = Tr sc d 181 (21, [l0, l1, some (.int x)], [.int x, .ref k0], h) Q := t_iload_n k_181_20 rfl
theorem k_181_21 : lk 181 21 = some (.iaload, 22, 0, 0, .null) := by decide +kernel
theorem x_181_21 : Tr sc d 181 (21, [l0, l1, l2], [.int i1, .ref k0], h) Q = (iOk sc h k0 i1 ∧ Tr sc d 181 (22, [l0, l1, l2], [.int (iRd sc h k0 i1)], h) Q) := t_iald k_181_21
theorem k_181_22 : lk 181 22 = some (.ifCond .ge 9, 25, 31, 0, .null) := by decide +kernel
theorem x_181_22 : Tr sc d 181 (22, [l0, l1, l2], [.int i0], h) Q = if 0 ≤ i0 then Tr sc d 181 (31, [l0, l1, l2], [], h) Q else Tr sc d 181 (25, [l0, l1, l2], [], h) Q := t_if k_181_22 rfl
theorem k_181_25 : lk 181 25 = some (.aload_n 0, 26, 0, 0, .null) := by decide +kernel
theorem x_181_25 : Tr sc d 181 (25, [some (.ref xk), l1, l2], [], h) Q = Tr sc d 181 (26, [some (.ref xk), l1, l2], [.ref xk], h) Q := t_aload_n k_181_25 rfl
theorem k_181_26 : lk 181 26 = some (.iconst 1, 27, 0, 0, .int 1) := by decide +kernel
theorem x_181_26 : Tr sc d 181 (26, [l0, l1, l2], [.ref k0], h) Q = Tr sc d 181 (27, [l0, l1, l2], [.int 1, .ref k0], h) Q := t_go k_181_26 rfl
theorem k_181_27 : lk 181 27 = some (.invokevirtual 152, 30, 158, 1, .null) := by decide +kernel
theorem x_181_27 : Tr sc (d + 1) 181 (27, [l0, l1, l2], [.int i1, .ref k0], h) Q = (okp h k0 10 = true ∧ Tr sc d 158 (ent0 158 [.ref k0, .int i1] h) (fun z => Tr sc (d + 1) 181 (30, [l0, l1, l2], z.1.toList ++ [], z.2) Q)) := t_cv (as := [.int i1]) (r := []) k_181_27 rfl rfl (Nat.le_of_ble_eq_true rfl) (Nat.le_of_ble_eq_true rfl) (Nat.le_of_ble_eq_true rfl)
theorem k_181_30 : lk 181 30 = some (.ireturn, 31, 0, 0, .null) := by decide +kernel
theorem x_181_30 : Tr sc d 181 (30, [l0, l1, l2], [.int i0], h) Q = Q (some (.int i0), h) := t_ret k_181_30 (by rw [r_181]; rfl)
theorem k_181_31 : lk 181 31 = some (.aload_n 0, 32, 0, 0, .null) := by decide +kernel
theorem x_181_31 : Tr sc d 181 (31, [some (.ref xk), l1, l2], [], h) Q = Tr sc d 181 (32, [some (.ref xk), l1, l2], [.ref xk], h) Q := t_aload_n k_181_31 rfl
theorem k_181_32 : lk 181 32 = some (.iload_n 2, 33, 2, 0, .null) := by decide +kernel
theorem x_181_32 : Tr sc d 181 (32, [l0, l1, some (.int x)], [.ref k0], h) Q = Tr sc d 181 (33, [l0, l1, some (.int x)], [.int x, .ref k0], h) Q := t_iload_n k_181_32 rfl
theorem k_181_33 : lk 181 33 = some (.invokevirtual 187, 36, 174, 1, .null) := by decide +kernel
theorem x_181_33 : Tr sc (d + 1) 181 (33, [l0, l1, l2], [.int i1, .ref k0], h) Q = (okp h k0 10 = true ∧ Tr sc d 174 (ent0 174 [.ref k0, .int i1] h) (fun z => Tr sc (d + 1) 181 (36, [l0, l1, l2], z.1.toList ++ [], z.2) Q)) := t_cv (as := [.int i1]) (r := []) k_181_33 rfl rfl (Nat.le_of_ble_eq_true rfl) (Nat.le_of_ble_eq_true rfl) (Nat.le_of_ble_eq_true rfl)
theorem k_181_36 : lk 181 36 = some (.bipush (-9), 38, 0, 0, .int (-9)) := by decide +kernel
theorem x_181_36 : Tr sc d 181 (36, [l0, l1, l2], [.int i0], h) Q = Tr sc d 181 (38, [l0, l1, l2], [.int (-9), .int i0], h) Q := t_go k_181_36 rfl
theorem k_181_38 : lk 181 38 = some (.if_icmp .eq 8, 41, 46, 0, .null) := by decide +kernel
theorem x_181_38 : Tr sc d 181 (38, [l0, l1, l2], [.int i1, .int i0], h) Q = if i0 = i1 then Tr sc d 181 (46, [l0, l1, l2], [], h) Q else Tr sc d 181 (41, [l0, l1, l2], [], h) Q := t_if k_181_38 rfl
theorem k_181_41 : lk 181 41 = some (.bipush (-4), 43, 0, 0, .int (-4)) := by decide +kernel
theorem x_181_41 : Tr sc d 181 (41, [l0, l1, l2], [], h) Q = Tr sc d 181 (43, [l0, l1, l2], [.int (-4)], h) Q := t_go k_181_41 rfl
theorem k_181_43 : lk 181 43 = some (.goto 8, 46, 51, 0, .null) := by decide +kernel
theorem x_181_43 : Tr sc d 181 (43, [l0, l1, l2], [.int i0], h) Q = Tr sc d 181 (51, [l0, l1, l2], [.int i0], h) Q := t_go k_181_43 rfl
theorem k_181_46 : lk 181 46 = some (.aload_n 0, 47, 0, 0, .null) := by decide +kernel
theorem x_181_46 : Tr sc d 181 (46, [some (.ref xk), l1, l2], [], h) Q = Tr sc d 181 (47, [some (.ref xk), l1, l2], [.ref xk], h) Q := t_aload_n k_181_46 rfl
theorem k_181_47 : lk 181 47 = some (.iload_n 1, 48, 1, 0, .null) := by decide +kernel
theorem x_181_47 : Tr sc d 181 (47, [l0, some (.int x), l2], [.ref k0], h) Q = Tr sc d 181 (48, [l0, some (.int x), l2], [.int x, .ref k0], h) Q := t_iload_n k_181_47 rfl
theorem k_181_48 : lk 181 48 = some (.invokevirtual 196, 51, 180, 1, .null) := by decide +kernel
theorem x_181_48 : Tr sc (d + 1) 181 (48, [l0, l1, l2], [.int i1, .ref k0], h) Q = (okp h k0 10 = true ∧ Tr sc d 180 (ent0 180 [.ref k0, .int i1] h) (fun z => Tr sc (d + 1) 181 (51, [l0, l1, l2], z.1.toList ++ [], z.2) Q)) := t_cv (as := [.int i1]) (r := []) k_181_48 rfl rfl (Nat.le_of_ble_eq_true rfl) (Nat.le_of_ble_eq_true rfl) (Nat.le_of_ble_eq_true rfl)
theorem k_181_51 : lk 181 51 = some (.ireturn, 52, 0, 0, .null) := by decide +kernel
theorem x_181_51 : Tr sc d 181 (51, [l0, l1, l2], [.int i0], h) Q = Q (some (.int i0), h) := t_ret k_181_51 (by rw [r_181]; rfl)
theorem e_181 : Tr sc d 181 (ent0 181 [.ref k0, .int i1, .int i2] h) Q = Tr sc d 181 (0, [some (.ref k0), some (.int i1), some (.int i2)], [], h) Q := by
  have e : mL 181 = 3 := by decide +kernel
  unfold ent0
  rw [e]
  rfl
theorem r_182 : mR 182 = none := by decide +kernel
theorem k_182_0 : lk 182 0 = some (.aload_n 0, 1, 0, 0, .null) := by decide +kernel
theorem x_182_0 : Tr sc d 182 (0, [some (.ref xk), l1, l2, l3], [], h) Q = Tr sc d 182 (1, [some (.ref xk), l1, l2, l3], [.ref xk], h) Q := t_aload_n k_182_0 rfl
theorem k_182_1 : lk 182 1 = some (.getfield 38, 4, 10, 17, .null) := by decide +kernel
theorem x_182_1 : Tr sc d 182 (1, [l0, l1, l2, l3], [.ref k0], h) Q = (okp h k0 10 = true ∧ ∃ q, hR h k0 17 = some q ∧ Tr sc d 182 (4, [l0, l1, l2, l3], [.ref q], h) Q) := t_getr k_182_1
theorem k_182_4 : lk 182 4 = some (.iload_n 1, 5, 1, 0, .null) := by decide +kernel
theorem x_182_4 : Tr sc d 182 (4, [l0, some (.int x), l2, l3], [.ref k0], h) Q = Tr sc d 182 (5, [l0, some (.int x), l2, l3], [.int x, .ref k0], h) Q := t_iload_n k_182_4 rfl
theorem k_182_5 : lk 182 5 = some (.aload_n 0, 6, 0, 0, .null) := by decide +kernel
theorem x_182_5 : Tr sc d 182 (5, [some (.ref xk), l1, l2, l3], [.int i1, .ref k0], h) Q = Tr sc d 182 (6, [some (.ref xk), l1, l2, l3], [.ref xk, .int i1, .ref k0], h) Q := t_aload_n k_182_5 rfl
theorem k_182_6 : lk 182 6 = some (.getfield 38, 9, 10, 17, .null) := by decide +kernel
theorem x_182_6 : Tr sc d 182 (6, [l0, l1, l2, l3], [.ref k2, .int i1, .ref k0], h) Q = (okp h k2 10 = true ∧ ∃ q, hR h k2 17 = some q ∧ Tr sc d 182 (9, [l0, l1, l2, l3], [.ref q, .int i1, .ref k0], h) Q) := t_getr k_182_6
theorem k_182_9 : lk 182 9 = some (.iload_n 2, 10, 2, 0, .null) := by decide +kernel
theorem x_182_9 : Tr sc d 182 (9, [l0, l1, some (.int x), l3], [.ref k2, .int i1, .ref k0], h) Q = Tr sc d 182 (10, [l0, l1, some (.int x), l3], [.int x, .ref k2, .int i1, .ref k0], h) Q := t_iload_n k_182_9 rfl
theorem k_182_10 : lk 182 10 = some (.iaload, 11, 0, 0, .null) := by decide +kernel
theorem x_182_10 : Tr sc d 182 (10, [l0, l1, l2, l3], [.int i3, .ref k2, .int i1, .ref k0], h) Q = (iOk sc h k2 i3 ∧ Tr sc d 182 (11, [l0, l1, l2, l3], [.int (iRd sc h k2 i3), .int i1, .ref k0], h) Q) := t_iald k_182_10
theorem k_182_11 : lk 182 11 = some (.iastore, 12, 0, 0, .null) := by decide +kernel
theorem x_182_11 : Tr sc d 182 (11, [l0, l1, l2, l3], [.int i2, .int i1, .ref k0], h) Q = ((okp h k0 11 && inb i1 (LN k0)) = true ∧ Tr sc d 182 (12, [l0, l1, l2, l3], [], (sI h k0 i1.toNatClampNeg i2)) Q) := t_gd k_182_11 rfl
theorem k_182_12 : lk 182 12 = some (.aload_n 0, 13, 0, 0, .null) := by decide +kernel
theorem x_182_12 : Tr sc d 182 (12, [some (.ref xk), l1, l2, l3], [], h) Q = Tr sc d 182 (13, [some (.ref xk), l1, l2, l3], [.ref xk], h) Q := t_aload_n k_182_12 rfl
theorem k_182_13 : lk 182 13 = some (.getfield 41, 16, 10, 18, .null) := by decide +kernel
theorem x_182_13 : Tr sc d 182 (13, [l0, l1, l2, l3], [.ref k0], h) Q = (okp h k0 10 = true ∧ ∃ q, hR h k0 18 = some q ∧ Tr sc d 182 (16, [l0, l1, l2, l3], [.ref q], h) Q) := t_getr k_182_13
theorem k_182_16 : lk 182 16 = some (.iload_n 1, 17, 1, 0, .null) := by decide +kernel
theorem x_182_16 : Tr sc d 182 (16, [l0, some (.int x), l2, l3], [.ref k0], h) Q = Tr sc d 182 (17, [l0, some (.int x), l2, l3], [.int x, .ref k0], h) Q := t_iload_n k_182_16 rfl
theorem k_182_17 : lk 182 17 = some (.aload_n 0, 18, 0, 0, .null) := by decide +kernel
theorem x_182_17 : Tr sc d 182 (17, [some (.ref xk), l1, l2, l3], [.int i1, .ref k0], h) Q = Tr sc d 182 (18, [some (.ref xk), l1, l2, l3], [.ref xk, .int i1, .ref k0], h) Q := t_aload_n k_182_17 rfl
theorem k_182_18 : lk 182 18 = some (.getfield 41, 21, 10, 18, .null) := by decide +kernel
theorem x_182_18 : Tr sc d 182 (18, [l0, l1, l2, l3], [.ref k2, .int i1, .ref k0], h) Q = (okp h k2 10 = true ∧ ∃ q, hR h k2 18 = some q ∧ Tr sc d 182 (21, [l0, l1, l2, l3], [.ref q, .int i1, .ref k0], h) Q) := t_getr k_182_18
theorem k_182_21 : lk 182 21 = some (.iload_n 2, 22, 2, 0, .null) := by decide +kernel
theorem x_182_21 : Tr sc d 182 (21, [l0, l1, some (.int x), l3], [.ref k2, .int i1, .ref k0], h) Q = Tr sc d 182 (22, [l0, l1, some (.int x), l3], [.int x, .ref k2, .int i1, .ref k0], h) Q := t_iload_n k_182_21 rfl
theorem k_182_22 : lk 182 22 = some (.iaload, 23, 0, 0, .null) := by decide +kernel
theorem x_182_22 : Tr sc d 182 (22, [l0, l1, l2, l3], [.int i3, .ref k2, .int i1, .ref k0], h) Q = (iOk sc h k2 i3 ∧ Tr sc d 182 (23, [l0, l1, l2, l3], [.int (iRd sc h k2 i3), .int i1, .ref k0], h) Q) := t_iald k_182_22
theorem k_182_23 : lk 182 23 = some (.iastore, 24, 0, 0, .null) := by decide +kernel
theorem x_182_23 : Tr sc d 182 (23, [l0, l1, l2, l3], [.int i2, .int i1, .ref k0], h) Q = ((okp h k0 11 && inb i1 (LN k0)) = true ∧ Tr sc d 182 (24, [l0, l1, l2, l3], [], (sI h k0 i1.toNatClampNeg i2)) Q) := t_gd k_182_23 rfl
theorem k_182_24 : lk 182 24 = some (.iconst 0, 25, 0, 0, .int 0) := by decide +kernel
theorem x_182_24 : Tr sc d 182 (24, [l0, l1, l2, l3], [], h) Q = Tr sc d 182 (25, [l0, l1, l2, l3], [.int 0], h) Q := t_go k_182_24 rfl
theorem k_182_25 : lk 182 25 = some (.istore_n 3, 26, 3, 0, .null) := by decide +kernel
theorem x_182_25 : Tr sc d 182 (25, [l0, l1, l2, l3], [.int i0], h) Q = Tr sc d 182 (26, [l0, l1, cl2 l2, some (.int i0)], [], h) Q := t_istore_n k_182_25 (Nat.le_of_ble_eq_true rfl)
theorem k_182_26 : lk 182 26 = some (.iload_n 3, 27, 3, 0, .null) := by decide +kernel
theorem x_182_26 : Tr sc d 182 (26, [l0, l1, l2, some (.int x)], [], h) Q = Tr sc d 182 (27, [l0, l1, l2, some (.int x)], [.int x], h) Q := t_iload_n k_182_26 rfl
theorem k_182_27 : lk 182 27 = some (.bipush 6, 29, 0, 0, .int 6) := by decide +kernel
theorem x_182_27 : Tr sc d 182 (27, [l0, l1, l2, l3], [.int i0], h) Q = Tr sc d 182 (29, [l0, l1, l2, l3], [.int 6, .int i0], h) Q := t_go k_182_27 rfl
theorem k_182_29 : lk 182 29 = some (.if_icmp .ge 75, 32, 104, 0, .null) := by decide +kernel
theorem x_182_29 : Tr sc d 182 (29, [l0, l1, l2, l3], [.int i1, .int i0], h) Q = if i1 ≤ i0 then Tr sc d 182 (104, [l0, l1, l2, l3], [], h) Q else Tr sc d 182 (32, [l0, l1, l2, l3], [], h) Q := t_if k_182_29 rfl
theorem k_182_32 : lk 182 32 = some (.aload_n 0, 33, 0, 0, .null) := by decide +kernel
theorem x_182_32 : Tr sc d 182 (32, [some (.ref xk), l1, l2, l3], [], h) Q = Tr sc d 182 (33, [some (.ref xk), l1, l2, l3], [.ref xk], h) Q := t_aload_n k_182_32 rfl
theorem k_182_33 : lk 182 33 = some (.getfield 44, 36, 10, 19, .null) := by decide +kernel
theorem x_182_33 : Tr sc d 182 (33, [l0, l1, l2, l3], [.ref k0], h) Q = (okp h k0 10 = true ∧ ∃ q, hR h k0 19 = some q ∧ Tr sc d 182 (36, [l0, l1, l2, l3], [.ref q], h) Q) := t_getr k_182_33
theorem k_182_36 : lk 182 36 = some (.bipush 6, 38, 0, 0, .int 6) := by decide +kernel
theorem x_182_36 : Tr sc d 182 (36, [l0, l1, l2, l3], [.ref k0], h) Q = Tr sc d 182 (38, [l0, l1, l2, l3], [.int 6, .ref k0], h) Q := t_go k_182_36 rfl
theorem k_182_38 : lk 182 38 = some (.iload_n 1, 39, 1, 0, .null) := by decide +kernel
theorem x_182_38 : Tr sc d 182 (38, [l0, some (.int x), l2, l3], [.int i1, .ref k0], h) Q = Tr sc d 182 (39, [l0, some (.int x), l2, l3], [.int x, .int i1, .ref k0], h) Q := t_iload_n k_182_38 rfl
theorem k_182_39 : lk 182 39 = some (.imul, 40, 0, 0, .null) := by decide +kernel
theorem x_182_39 : Tr sc d 182 (39, [l0, l1, l2, l3], [.int i2, .int i1, .ref k0], h) Q = Tr sc d 182 (40, [l0, l1, l2, l3], [.int (i1 * i2), .ref k0], h) Q := t_go k_182_39 rfl
theorem k_182_40 : lk 182 40 = some (.iload_n 3, 41, 3, 0, .null) := by decide +kernel
theorem x_182_40 : Tr sc d 182 (40, [l0, l1, l2, some (.int x)], [.int i1, .ref k0], h) Q = Tr sc d 182 (41, [l0, l1, l2, some (.int x)], [.int x, .int i1, .ref k0], h) Q := t_iload_n k_182_40 rfl
theorem k_182_41 : lk 182 41 = some (.iadd, 42, 0, 0, .null) := by decide +kernel
theorem x_182_41 : Tr sc d 182 (41, [l0, l1, l2, l3], [.int i2, .int i1, .ref k0], h) Q = Tr sc d 182 (42, [l0, l1, l2, l3], [.int (i1 + i2), .ref k0], h) Q := t_go k_182_41 rfl
theorem k_182_42 : lk 182 42 = some (.aload_n 0, 43, 0, 0, .null) := by decide +kernel
theorem x_182_42 : Tr sc d 182 (42, [some (.ref xk), l1, l2, l3], [.int i1, .ref k0], h) Q = Tr sc d 182 (43, [some (.ref xk), l1, l2, l3], [.ref xk, .int i1, .ref k0], h) Q := t_aload_n k_182_42 rfl
theorem k_182_43 : lk 182 43 = some (.getfield 44, 46, 10, 19, .null) := by decide +kernel
theorem x_182_43 : Tr sc d 182 (43, [l0, l1, l2, l3], [.ref k2, .int i1, .ref k0], h) Q = (okp h k2 10 = true ∧ ∃ q, hR h k2 19 = some q ∧ Tr sc d 182 (46, [l0, l1, l2, l3], [.ref q, .int i1, .ref k0], h) Q) := t_getr k_182_43
theorem k_182_46 : lk 182 46 = some (.bipush 6, 48, 0, 0, .int 6) := by decide +kernel
theorem x_182_46 : Tr sc d 182 (46, [l0, l1, l2, l3], [.ref k2, .int i1, .ref k0], h) Q = Tr sc d 182 (48, [l0, l1, l2, l3], [.int 6, .ref k2, .int i1, .ref k0], h) Q := t_go k_182_46 rfl
theorem k_182_48 : lk 182 48 = some (.iload_n 2, 49, 2, 0, .null) := by decide +kernel
theorem x_182_48 : Tr sc d 182 (48, [l0, l1, some (.int x), l3], [.int i3, .ref k2, .int i1, .ref k0], h) Q = Tr sc d 182 (49, [l0, l1, some (.int x), l3], [.int x, .int i3, .ref k2, .int i1, .ref k0], h) Q := t_iload_n k_182_48 rfl
theorem k_182_49 : lk 182 49 = some (.imul, 50, 0, 0, .null) := by decide +kernel
theorem x_182_49 : Tr sc d 182 (49, [l0, l1, l2, l3], [.int i4, .int i3, .ref k2, .int i1, .ref k0], h) Q = Tr sc d 182 (50, [l0, l1, l2, l3], [.int (i3 * i4), .ref k2, .int i1, .ref k0], h) Q := t_go k_182_49 rfl
theorem k_182_50 : lk 182 50 = some (.iload_n 3, 51, 3, 0, .null) := by decide +kernel
theorem x_182_50 : Tr sc d 182 (50, [l0, l1, l2, some (.int x)], [.int i3, .ref k2, .int i1, .ref k0], h) Q = Tr sc d 182 (51, [l0, l1, l2, some (.int x)], [.int x, .int i3, .ref k2, .int i1, .ref k0], h) Q := t_iload_n k_182_50 rfl
theorem k_182_51 : lk 182 51 = some (.iadd, 52, 0, 0, .null) := by decide +kernel
theorem x_182_51 : Tr sc d 182 (51, [l0, l1, l2, l3], [.int i4, .int i3, .ref k2, .int i1, .ref k0], h) Q = Tr sc d 182 (52, [l0, l1, l2, l3], [.int (i3 + i4), .ref k2, .int i1, .ref k0], h) Q := t_go k_182_51 rfl
theorem k_182_52 : lk 182 52 = some (.iaload, 53, 0, 0, .null) := by decide +kernel
theorem x_182_52 : Tr sc d 182 (52, [l0, l1, l2, l3], [.int i3, .ref k2, .int i1, .ref k0], h) Q = (iOk sc h k2 i3 ∧ Tr sc d 182 (53, [l0, l1, l2, l3], [.int (iRd sc h k2 i3), .int i1, .ref k0], h) Q) := t_iald k_182_52
theorem k_182_53 : lk 182 53 = some (.iastore, 54, 0, 0, .null) := by decide +kernel
theorem x_182_53 : Tr sc d 182 (53, [l0, l1, l2, l3], [.int i2, .int i1, .ref k0], h) Q = ((okp h k0 11 && inb i1 (LN k0)) = true ∧ Tr sc d 182 (54, [l0, l1, l2, l3], [], (sI h k0 i1.toNatClampNeg i2)) Q) := t_gd k_182_53 rfl
theorem k_182_54 : lk 182 54 = some (.aload_n 0, 55, 0, 0, .null) := by decide +kernel
theorem x_182_54 : Tr sc d 182 (54, [some (.ref xk), l1, l2, l3], [], h) Q = Tr sc d 182 (55, [some (.ref xk), l1, l2, l3], [.ref xk], h) Q := t_aload_n k_182_54 rfl
theorem k_182_55 : lk 182 55 = some (.getfield 47, 58, 10, 20, .null) := by decide +kernel
theorem x_182_55 : Tr sc d 182 (55, [l0, l1, l2, l3], [.ref k0], h) Q = (okp h k0 10 = true ∧ ∃ q, hR h k0 20 = some q ∧ Tr sc d 182 (58, [l0, l1, l2, l3], [.ref q], h) Q) := t_getr k_182_55
theorem k_182_58 : lk 182 58 = some (.bipush 6, 60, 0, 0, .int 6) := by decide +kernel
theorem x_182_58 : Tr sc d 182 (58, [l0, l1, l2, l3], [.ref k0], h) Q = Tr sc d 182 (60, [l0, l1, l2, l3], [.int 6, .ref k0], h) Q := t_go k_182_58 rfl
theorem k_182_60 : lk 182 60 = some (.iload_n 1, 61, 1, 0, .null) := by decide +kernel
theorem x_182_60 : Tr sc d 182 (60, [l0, some (.int x), l2, l3], [.int i1, .ref k0], h) Q = Tr sc d 182 (61, [l0, some (.int x), l2, l3], [.int x, .int i1, .ref k0], h) Q := t_iload_n k_182_60 rfl
theorem k_182_61 : lk 182 61 = some (.imul, 62, 0, 0, .null) := by decide +kernel
theorem x_182_61 : Tr sc d 182 (61, [l0, l1, l2, l3], [.int i2, .int i1, .ref k0], h) Q = Tr sc d 182 (62, [l0, l1, l2, l3], [.int (i1 * i2), .ref k0], h) Q := t_go k_182_61 rfl
theorem k_182_62 : lk 182 62 = some (.iload_n 3, 63, 3, 0, .null) := by decide +kernel
theorem x_182_62 : Tr sc d 182 (62, [l0, l1, l2, some (.int x)], [.int i1, .ref k0], h) Q = Tr sc d 182 (63, [l0, l1, l2, some (.int x)], [.int x, .int i1, .ref k0], h) Q := t_iload_n k_182_62 rfl
theorem k_182_63 : lk 182 63 = some (.iadd, 64, 0, 0, .null) := by decide +kernel
theorem x_182_63 : Tr sc d 182 (63, [l0, l1, l2, l3], [.int i2, .int i1, .ref k0], h) Q = Tr sc d 182 (64, [l0, l1, l2, l3], [.int (i1 + i2), .ref k0], h) Q := t_go k_182_63 rfl
theorem k_182_64 : lk 182 64 = some (.aload_n 0, 65, 0, 0, .null) := by decide +kernel
theorem x_182_64 : Tr sc d 182 (64, [some (.ref xk), l1, l2, l3], [.int i1, .ref k0], h) Q = Tr sc d 182 (65, [some (.ref xk), l1, l2, l3], [.ref xk, .int i1, .ref k0], h) Q := t_aload_n k_182_64 rfl
theorem k_182_65 : lk 182 65 = some (.getfield 47, 68, 10, 20, .null) := by decide +kernel
theorem x_182_65 : Tr sc d 182 (65, [l0, l1, l2, l3], [.ref k2, .int i1, .ref k0], h) Q = (okp h k2 10 = true ∧ ∃ q, hR h k2 20 = some q ∧ Tr sc d 182 (68, [l0, l1, l2, l3], [.ref q, .int i1, .ref k0], h) Q) := t_getr k_182_65
theorem k_182_68 : lk 182 68 = some (.bipush 6, 70, 0, 0, .int 6) := by decide +kernel
theorem x_182_68 : Tr sc d 182 (68, [l0, l1, l2, l3], [.ref k2, .int i1, .ref k0], h) Q = Tr sc d 182 (70, [l0, l1, l2, l3], [.int 6, .ref k2, .int i1, .ref k0], h) Q := t_go k_182_68 rfl
theorem k_182_70 : lk 182 70 = some (.iload_n 2, 71, 2, 0, .null) := by decide +kernel
theorem x_182_70 : Tr sc d 182 (70, [l0, l1, some (.int x), l3], [.int i3, .ref k2, .int i1, .ref k0], h) Q = Tr sc d 182 (71, [l0, l1, some (.int x), l3], [.int x, .int i3, .ref k2, .int i1, .ref k0], h) Q := t_iload_n k_182_70 rfl
theorem k_182_71 : lk 182 71 = some (.imul, 72, 0, 0, .null) := by decide +kernel
theorem x_182_71 : Tr sc d 182 (71, [l0, l1, l2, l3], [.int i4, .int i3, .ref k2, .int i1, .ref k0], h) Q = Tr sc d 182 (72, [l0, l1, l2, l3], [.int (i3 * i4), .ref k2, .int i1, .ref k0], h) Q := t_go k_182_71 rfl
theorem k_182_72 : lk 182 72 = some (.iload_n 3, 73, 3, 0, .null) := by decide +kernel
theorem x_182_72 : Tr sc d 182 (72, [l0, l1, l2, some (.int x)], [.int i3, .ref k2, .int i1, .ref k0], h) Q = Tr sc d 182 (73, [l0, l1, l2, some (.int x)], [.int x, .int i3, .ref k2, .int i1, .ref k0], h) Q := t_iload_n k_182_72 rfl
theorem k_182_73 : lk 182 73 = some (.iadd, 74, 0, 0, .null) := by decide +kernel
theorem x_182_73 : Tr sc d 182 (73, [l0, l1, l2, l3], [.int i4, .int i3, .ref k2, .int i1, .ref k0], h) Q = Tr sc d 182 (74, [l0, l1, l2, l3], [.int (i3 + i4), .ref k2, .int i1, .ref k0], h) Q := t_go k_182_73 rfl
theorem k_182_74 : lk 182 74 = some (.iaload, 75, 0, 0, .null) := by decide +kernel
theorem x_182_74 : Tr sc d 182 (74, [l0, l1, l2, l3], [.int i3, .ref k2, .int i1, .ref k0], h) Q = (iOk sc h k2 i3 ∧ Tr sc d 182 (75, [l0, l1, l2, l3], [.int (iRd sc h k2 i3), .int i1, .ref k0], h) Q) := t_iald k_182_74
theorem k_182_75 : lk 182 75 = some (.iastore, 76, 0, 0, .null) := by decide +kernel
theorem x_182_75 : Tr sc d 182 (75, [l0, l1, l2, l3], [.int i2, .int i1, .ref k0], h) Q = ((okp h k0 11 && inb i1 (LN k0)) = true ∧ Tr sc d 182 (76, [l0, l1, l2, l3], [], (sI h k0 i1.toNatClampNeg i2)) Q) := t_gd k_182_75 rfl
theorem k_182_76 : lk 182 76 = some (.aload_n 0, 77, 0, 0, .null) := by decide +kernel
theorem x_182_76 : Tr sc d 182 (76, [some (.ref xk), l1, l2, l3], [], h) Q = Tr sc d 182 (77, [some (.ref xk), l1, l2, l3], [.ref xk], h) Q := t_aload_n k_182_76 rfl
theorem k_182_77 : lk 182 77 = some (.getfield 50, 80, 10, 21, .null) := by decide +kernel
theorem x_182_77 : Tr sc d 182 (77, [l0, l1, l2, l3], [.ref k0], h) Q = (okp h k0 10 = true ∧ ∃ q, hR h k0 21 = some q ∧ Tr sc d 182 (80, [l0, l1, l2, l3], [.ref q], h) Q) := t_getr k_182_77
theorem k_182_80 : lk 182 80 = some (.bipush 6, 82, 0, 0, .int 6) := by decide +kernel
theorem x_182_80 : Tr sc d 182 (80, [l0, l1, l2, l3], [.ref k0], h) Q = Tr sc d 182 (82, [l0, l1, l2, l3], [.int 6, .ref k0], h) Q := t_go k_182_80 rfl
theorem k_182_82 : lk 182 82 = some (.iload_n 1, 83, 1, 0, .null) := by decide +kernel
theorem x_182_82 : Tr sc d 182 (82, [l0, some (.int x), l2, l3], [.int i1, .ref k0], h) Q = Tr sc d 182 (83, [l0, some (.int x), l2, l3], [.int x, .int i1, .ref k0], h) Q := t_iload_n k_182_82 rfl
theorem k_182_83 : lk 182 83 = some (.imul, 84, 0, 0, .null) := by decide +kernel
theorem x_182_83 : Tr sc d 182 (83, [l0, l1, l2, l3], [.int i2, .int i1, .ref k0], h) Q = Tr sc d 182 (84, [l0, l1, l2, l3], [.int (i1 * i2), .ref k0], h) Q := t_go k_182_83 rfl
theorem k_182_84 : lk 182 84 = some (.iload_n 3, 85, 3, 0, .null) := by decide +kernel
theorem x_182_84 : Tr sc d 182 (84, [l0, l1, l2, some (.int x)], [.int i1, .ref k0], h) Q = Tr sc d 182 (85, [l0, l1, l2, some (.int x)], [.int x, .int i1, .ref k0], h) Q := t_iload_n k_182_84 rfl
theorem k_182_85 : lk 182 85 = some (.iadd, 86, 0, 0, .null) := by decide +kernel
theorem x_182_85 : Tr sc d 182 (85, [l0, l1, l2, l3], [.int i2, .int i1, .ref k0], h) Q = Tr sc d 182 (86, [l0, l1, l2, l3], [.int (i1 + i2), .ref k0], h) Q := t_go k_182_85 rfl
theorem k_182_86 : lk 182 86 = some (.aload_n 0, 87, 0, 0, .null) := by decide +kernel
theorem x_182_86 : Tr sc d 182 (86, [some (.ref xk), l1, l2, l3], [.int i1, .ref k0], h) Q = Tr sc d 182 (87, [some (.ref xk), l1, l2, l3], [.ref xk, .int i1, .ref k0], h) Q := t_aload_n k_182_86 rfl
theorem k_182_87 : lk 182 87 = some (.getfield 50, 90, 10, 21, .null) := by decide +kernel
theorem x_182_87 : Tr sc d 182 (87, [l0, l1, l2, l3], [.ref k2, .int i1, .ref k0], h) Q = (okp h k2 10 = true ∧ ∃ q, hR h k2 21 = some q ∧ Tr sc d 182 (90, [l0, l1, l2, l3], [.ref q, .int i1, .ref k0], h) Q) := t_getr k_182_87
theorem k_182_90 : lk 182 90 = some (.bipush 6, 92, 0, 0, .int 6) := by decide +kernel
theorem x_182_90 : Tr sc d 182 (90, [l0, l1, l2, l3], [.ref k2, .int i1, .ref k0], h) Q = Tr sc d 182 (92, [l0, l1, l2, l3], [.int 6, .ref k2, .int i1, .ref k0], h) Q := t_go k_182_90 rfl
theorem k_182_92 : lk 182 92 = some (.iload_n 2, 93, 2, 0, .null) := by decide +kernel
theorem x_182_92 : Tr sc d 182 (92, [l0, l1, some (.int x), l3], [.int i3, .ref k2, .int i1, .ref k0], h) Q = Tr sc d 182 (93, [l0, l1, some (.int x), l3], [.int x, .int i3, .ref k2, .int i1, .ref k0], h) Q := t_iload_n k_182_92 rfl
theorem k_182_93 : lk 182 93 = some (.imul, 94, 0, 0, .null) := by decide +kernel
theorem x_182_93 : Tr sc d 182 (93, [l0, l1, l2, l3], [.int i4, .int i3, .ref k2, .int i1, .ref k0], h) Q = Tr sc d 182 (94, [l0, l1, l2, l3], [.int (i3 * i4), .ref k2, .int i1, .ref k0], h) Q := t_go k_182_93 rfl
theorem k_182_94 : lk 182 94 = some (.iload_n 3, 95, 3, 0, .null) := by decide +kernel
theorem x_182_94 : Tr sc d 182 (94, [l0, l1, l2, some (.int x)], [.int i3, .ref k2, .int i1, .ref k0], h) Q = Tr sc d 182 (95, [l0, l1, l2, some (.int x)], [.int x, .int i3, .ref k2, .int i1, .ref k0], h) Q := t_iload_n k_182_94 rfl
theorem k_182_95 : lk 182 95 = some (.iadd, 96, 0, 0, .null) := by decide +kernel
theorem x_182_95 : Tr sc d 182 (95, [l0, l1, l2, l3], [.int i4, .int i3, .ref k2, .int i1, .ref k0], h) Q = Tr sc d 182 (96, [l0, l1, l2, l3], [.int (i3 + i4), .ref k2, .int i1, .ref k0], h) Q := t_go k_182_95 rfl
theorem k_182_96 : lk 182 96 = some (.iaload, 97, 0, 0, .null) := by decide +kernel
theorem x_182_96 : Tr sc d 182 (96, [l0, l1, l2, l3], [.int i3, .ref k2, .int i1, .ref k0], h) Q = (iOk sc h k2 i3 ∧ Tr sc d 182 (97, [l0, l1, l2, l3], [.int (iRd sc h k2 i3), .int i1, .ref k0], h) Q) := t_iald k_182_96
theorem k_182_97 : lk 182 97 = some (.iastore, 98, 0, 0, .null) := by decide +kernel
theorem x_182_97 : Tr sc d 182 (97, [l0, l1, l2, l3], [.int i2, .int i1, .ref k0], h) Q = ((okp h k0 11 && inb i1 (LN k0)) = true ∧ Tr sc d 182 (98, [l0, l1, l2, l3], [], (sI h k0 i1.toNatClampNeg i2)) Q) := t_gd k_182_97 rfl
theorem k_182_98 : lk 182 98 = some (.iinc 3 1, 101, 3, 0, .int 1) := by decide +kernel
theorem x_182_98 : Tr sc d 182 (98, [l0, l1, l2, some (.int x)], [], h) Q = Tr sc d 182 (101, [l0, l1, cl2 l2, some (.int (x + 1))], [], h) Q := t_inc k_182_98 rfl (Nat.le_of_ble_eq_true rfl)
theorem k_182_101 : lk 182 101 = some (.goto (-75), 104, 26, 0, .null) := by decide +kernel
theorem x_182_101 : Tr sc d 182 (101, [l0, l1, l2, l3], [], h) Q = Tr sc d 182 (26, [l0, l1, l2, l3], [], h) Q := t_go k_182_101 rfl
theorem k_182_104 : lk 182 104 = some (.return_, 105, 0, 0, .null) := by decide +kernel
theorem x_182_104 : Tr sc d 182 (104, [l0, l1, l2, l3], [], h) Q = Q (none, h) := t_ret k_182_104 (by rw [r_182]; rfl)
theorem e_182 : Tr sc d 182 (ent0 182 [.ref k0, .int i1, .int i2] h) Q = Tr sc d 182 (0, [some (.ref k0), some (.int i1), some (.int i2), none], [], h) Q := by
  have e : mL 182 = 4 := by decide +kernel
  unfold ent0
  rw [e]
  rfl
theorem r_183 : mR 183 = some .int := by decide +kernel
theorem k_183_0 : lk 183 0 = some (.iload_n 1, 1, 1, 0, .null) := by decide +kernel
theorem x_183_0 : Tr sc d 183 (0, [l0, some (.int x), l2, l3, l4, l5, l6, l7], [], h) Q = Tr sc d 183 (1, [l0, some (.int x), l2, l3, l4, l5, l6, l7], [.int x], h) Q := t_iload_n k_183_0 rfl
theorem k_183_1 : lk 183 1 = some (.invokestatic 190, 4, 176, 1, .null) := by decide +kernel
theorem x_183_1 : Tr sc (d + 1) 183 (1, [l0, l1, l2, l3, l4, l5, l6, l7], [.int i0], h) Q = Tr sc d 176 (ent0 176 [.int i0] h) (fun z => Tr sc (d + 1) 183 (4, [l0, l1, l2, l3, l4, l5, l6, l7], z.1.toList ++ [], z.2) Q) := t_cs (as := [.int i0]) (r := []) k_183_1 (by decide) rfl rfl (Nat.le_of_ble_eq_true rfl) (Nat.le_of_ble_eq_true rfl)
theorem k_183_4 : lk 183 4 = some (.ifCond .eq 17, 7, 21, 0, .null) := by decide +kernel
theorem x_183_4 : Tr sc d 183 (4, [l0, l1, l2, l3, l4, l5, l6, l7], [.int i0], h) Q = if i0 = 0 then Tr sc d 183 (21, [l0, l1, l2, l3, l4, l5, l6, l7], [], h) Q else Tr sc d 183 (7, [l0, l1, l2, l3, l4, l5, l6, l7], [], h) Q := t_if k_183_4 rfl
theorem k_183_7 : lk 183 7 = some (.iload_n 2, 8, 2, 0, .null) := by decide +kernel
theorem x_183_7 : Tr sc d 183 (7, [l0, l1, some (.int x), l3, l4, l5, l6, l7], [], h) Q = Tr sc d 183 (8, [l0, l1, some (.int x), l3, l4, l5, l6, l7], [.int x], h) Q := t_iload_n k_183_7 rfl
theorem k_183_8 : lk 183 8 = some (.invokestatic 190, 11, 176, 1, .null) := by decide +kernel
theorem x_183_8 : Tr sc (d + 1) 183 (8, [l0, l1, l2, l3, l4, l5, l6, l7], [.int i0], h) Q = Tr sc d 176 (ent0 176 [.int i0] h) (fun z => Tr sc (d + 1) 183 (11, [l0, l1, l2, l3, l4, l5, l6, l7], z.1.toList ++ [], z.2) Q) := t_cs (as := [.int i0]) (r := []) k_183_8 (by decide) rfl rfl (Nat.le_of_ble_eq_true rfl) (Nat.le_of_ble_eq_true rfl)
theorem k_183_11 : lk 183 11 = some (.ifCond .eq 10, 14, 21, 0, .null) := by decide +kernel
theorem x_183_11 : Tr sc d 183 (11, [l0, l1, l2, l3, l4, l5, l6, l7], [.int i0], h) Q = if i0 = 0 then Tr sc d 183 (21, [l0, l1, l2, l3, l4, l5, l6, l7], [], h) Q else Tr sc d 183 (14, [l0, l1, l2, l3, l4, l5, l6, l7], [], h) Q := t_if k_183_11 rfl
theorem k_183_14 : lk 183 14 = some (.iload_n 3, 15, 3, 0, .null) := by decide +kernel
theorem x_183_14 : Tr sc d 183 (14, [l0, l1, l2, some (.int x), l4, l5, l6, l7], [], h) Q = Tr sc d 183 (15, [l0, l1, l2, some (.int x), l4, l5, l6, l7], [.int x], h) Q := t_iload_n k_183_14 rfl
theorem k_183_15 : lk 183 15 = some (.invokestatic 148, 18, 161, 1, .null) := by decide +kernel
theorem x_183_15 : Tr sc (d + 1) 183 (15, [l0, l1, l2, l3, l4, l5, l6, l7], [.int i0], h) Q = Tr sc d 161 (ent0 161 [.int i0] h) (fun z => Tr sc (d + 1) 183 (18, [l0, l1, l2, l3, l4, l5, l6, l7], z.1.toList ++ [], z.2) Q) := t_cs (as := [.int i0]) (r := []) k_183_15 (by decide) rfl rfl (Nat.le_of_ble_eq_true rfl) (Nat.le_of_ble_eq_true rfl)
theorem k_183_18 : lk 183 18 = some (.ifCond .ne 5, 21, 23, 0, .null) := by decide +kernel
theorem x_183_18 : Tr sc d 183 (18, [l0, l1, l2, l3, l4, l5, l6, l7], [.int i0], h) Q = if i0 = 0 then Tr sc d 183 (21, [l0, l1, l2, l3, l4, l5, l6, l7], [], h) Q else Tr sc d 183 (23, [l0, l1, l2, l3, l4, l5, l6, l7], [], h) Q := t_if k_183_18 rfl
theorem k_183_21 : lk 183 21 = some (.iconst (-1), 22, 0, 0, .int (-1)) := by decide +kernel
theorem x_183_21 : Tr sc d 183 (21, [l0, l1, l2, l3, l4, l5, l6, l7], [], h) Q = Tr sc d 183 (22, [l0, l1, l2, l3, l4, l5, l6, l7], [.int (-1)], h) Q := t_go k_183_21 rfl
theorem k_183_22 : lk 183 22 = some (.ireturn, 23, 0, 0, .null) := by decide +kernel
theorem x_183_22 : Tr sc d 183 (22, [l0, l1, l2, l3, l4, l5, l6, l7], [.int i0], h) Q = Q (some (.int i0), h) := t_ret k_183_22 (by rw [r_183]; rfl)
theorem k_183_23 : lk 183 23 = some (.aload_n 0, 24, 0, 0, .null) := by decide +kernel
theorem x_183_23 : Tr sc d 183 (23, [some (.ref xk), l1, l2, l3, l4, l5, l6, l7], [], h) Q = Tr sc d 183 (24, [some (.ref xk), l1, l2, l3, l4, l5, l6, l7], [.ref xk], h) Q := t_aload_n k_183_23 rfl
theorem k_183_24 : lk 183 24 = some (.getfield 41, 27, 10, 18, .null) := by decide +kernel
theorem x_183_24 : Tr sc d 183 (24, [l0, l1, l2, l3, l4, l5, l6, l7], [.ref k0], h) Q = (okp h k0 10 = true ∧ ∃ q, hR h k0 18 = some q ∧ Tr sc d 183 (27, [l0, l1, l2, l3, l4, l5, l6, l7], [.ref q], h) Q) := t_getr k_183_24
theorem k_183_27 : lk 183 27 = some (.iload_n 2, 28, 2, 0, .null) := by decide +kernel
theorem x_183_27 : Tr sc d 183 (27, [l0, l1, some (.int x), l3, l4, l5, l6, l7], [.ref k0], h) Q = Tr sc d 183 (28, [l0, l1, some (.int x), l3, l4, l5, l6, l7], [.int x, .ref k0], h) Q := t_iload_n k_183_27 rfl
theorem k_183_28 : lk 183 28 = some (.iaload, 29, 0, 0, .null) := by decide +kernel
theorem x_183_28 : Tr sc d 183 (28, [l0, l1, l2, l3, l4, l5, l6, l7], [.int i1, .ref k0], h) Q = (iOk sc h k0 i1 ∧ Tr sc d 183 (29, [l0, l1, l2, l3, l4, l5, l6, l7], [.int (iRd sc h k0 i1)], h) Q) := t_iald k_183_28
theorem k_183_29 : lk 183 29 = some (.ifCond .eq 12, 32, 41, 0, .null) := by decide +kernel
theorem x_183_29 : Tr sc d 183 (29, [l0, l1, l2, l3, l4, l5, l6, l7], [.int i0], h) Q = if i0 = 0 then Tr sc d 183 (41, [l0, l1, l2, l3, l4, l5, l6, l7], [], h) Q else Tr sc d 183 (32, [l0, l1, l2, l3, l4, l5, l6, l7], [], h) Q := t_if k_183_29 rfl
theorem k_183_32 : lk 183 32 = some (.aload_n 0, 33, 0, 0, .null) := by decide +kernel
theorem x_183_32 : Tr sc d 183 (32, [some (.ref xk), l1, l2, l3, l4, l5, l6, l7], [], h) Q = Tr sc d 183 (33, [some (.ref xk), l1, l2, l3, l4, l5, l6, l7], [.ref xk], h) Q := t_aload_n k_183_32 rfl
theorem k_183_33 : lk 183 33 = some (.getfield 17, 36, 10, 6, .null) := by decide +kernel
theorem x_183_33 : Tr sc d 183 (33, [l0, l1, l2, l3, l4, l5, l6, l7], [.ref k0], h) Q = (okp h k0 10 = true ∧ ∃ q, hR h k0 6 = some q ∧ Tr sc d 183 (36, [l0, l1, l2, l3, l4, l5, l6, l7], [.ref q], h) Q) := t_getr k_183_33
theorem k_183_36 : lk 183 36 = some (.iload_n 3, 37, 3, 0, .null) := by decide +kernel
theorem x_183_36 : Tr sc d 183 (36, [l0, l1, l2, some (.int x), l4, l5, l6, l7], [.ref k0], h) Q = Tr sc d 183 (37, [l0, l1, l2, some (.int x), l4, l5, l6, l7], [.int x, .ref k0], h) Q := t_iload_n k_183_36 rfl
theorem k_183_37 : lk 183 37 = some (.iaload, 38, 0, 0, .null) := by decide +kernel
theorem x_183_37 : Tr sc d 183 (37, [l0, l1, l2, l3, l4, l5, l6, l7], [.int i1, .ref k0], h) Q = (iOk sc h k0 i1 ∧ Tr sc d 183 (38, [l0, l1, l2, l3, l4, l5, l6, l7], [.int (iRd sc h k0 i1)], h) Q) := t_iald k_183_37
theorem k_183_38 : lk 183 38 = some (.ifCond .ge 9, 41, 47, 0, .null) := by decide +kernel
theorem x_183_38 : Tr sc d 183 (38, [l0, l1, l2, l3, l4, l5, l6, l7], [.int i0], h) Q = if 0 ≤ i0 then Tr sc d 183 (47, [l0, l1, l2, l3, l4, l5, l6, l7], [], h) Q else Tr sc d 183 (41, [l0, l1, l2, l3, l4, l5, l6, l7], [], h) Q := t_if k_183_38 rfl
theorem k_183_41 : lk 183 41 = some (.aload_n 0, 42, 0, 0, .null) := by decide +kernel
theorem x_183_41 : Tr sc d 183 (41, [some (.ref xk), l1, l2, l3, l4, l5, l6, l7], [], h) Q = Tr sc d 183 (42, [some (.ref xk), l1, l2, l3, l4, l5, l6, l7], [.ref xk], h) Q := t_aload_n k_183_41 rfl
theorem k_183_42 : lk 183 42 = some (.iconst 1, 43, 0, 0, .int 1) := by decide +kernel
theorem x_183_42 : Tr sc d 183 (42, [l0, l1, l2, l3, l4, l5, l6, l7], [.ref k0], h) Q = Tr sc d 183 (43, [l0, l1, l2, l3, l4, l5, l6, l7], [.int 1, .ref k0], h) Q := t_go k_183_42 rfl
theorem k_183_43 : lk 183 43 = some (.invokevirtual 152, 46, 158, 1, .null) := by decide +kernel
theorem x_183_43 : Tr sc (d + 1) 183 (43, [l0, l1, l2, l3, l4, l5, l6, l7], [.int i1, .ref k0], h) Q = (okp h k0 10 = true ∧ Tr sc d 158 (ent0 158 [.ref k0, .int i1] h) (fun z => Tr sc (d + 1) 183 (46, [l0, l1, l2, l3, l4, l5, l6, l7], z.1.toList ++ [], z.2) Q)) := t_cv (as := [.int i1]) (r := []) k_183_43 rfl rfl (Nat.le_of_ble_eq_true rfl) (Nat.le_of_ble_eq_true rfl) (Nat.le_of_ble_eq_true rfl)
theorem k_183_46 : lk 183 46 = some (.ireturn, 47, 0, 0, .null) := by decide +kernel
theorem x_183_46 : Tr sc d 183 (46, [l0, l1, l2, l3, l4, l5, l6, l7], [.int i0], h) Q = Q (some (.int i0), h) := t_ret k_183_46 (by rw [r_183]; rfl)
theorem k_183_47 : lk 183 47 = some (.aload_n 0, 48, 0, 0, .null) := by decide +kernel
theorem x_183_47 : Tr sc d 183 (47, [some (.ref xk), l1, l2, l3, l4, l5, l6, l7], [], h) Q = Tr sc d 183 (48, [some (.ref xk), l1, l2, l3, l4, l5, l6, l7], [.ref xk], h) Q := t_aload_n k_183_47 rfl
theorem k_183_48 : lk 183 48 = some (.getfield 17, 51, 10, 6, .null) := by decide +kernel
theorem x_183_48 : Tr sc d 183 (48, [l0, l1, l2, l3, l4, l5, l6, l7], [.ref k0], h) Q = (okp h k0 10 = true ∧ ∃ q, hR h k0 6 = some q ∧ Tr sc d 183 (51, [l0, l1, l2, l3, l4, l5, l6, l7], [.ref q], h) Q) := t_getr k_183_48
theorem k_183_51 : lk 183 51 = some (.iload_n 3, 52, 3, 0, .null) := by decide +kernel
theorem x_183_51 : Tr sc d 183 (51, [l0, l1, l2, some (.int x), l4, l5, l6, l7], [.ref k0], h) Q = Tr sc d 183 (52, [l0, l1, l2, some (.int x), l4, l5, l6, l7], [.int x, .ref k0], h) Q := t_iload_n k_183_51 rfl
theorem k_183_52 : lk 183 52 = some (.iaload, 53, 0, 0, .null) := by decide +kernel
theorem x_183_52 : Tr sc d 183 (52, [l0, l1, l2, l3, l4, l5, l6, l7], [.int i1, .ref k0], h) Q = (iOk sc h k0 i1 ∧ Tr sc d 183 (53, [l0, l1, l2, l3, l4, l5, l6, l7], [.int (iRd sc h k0 i1)], h) Q) := t_iald k_183_52
theorem k_183_53 : lk 183 53 = some (.aload_n 0, 54, 0, 0, .null) := by decide +kernel
theorem x_183_53 : Tr sc d 183 (53, [some (.ref xk), l1, l2, l3, l4, l5, l6, l7], [.int i0], h) Q = Tr sc d 183 (54, [some (.ref xk), l1, l2, l3, l4, l5, l6, l7], [.ref xk, .int i0], h) Q := t_aload_n k_183_53 rfl
theorem k_183_54 : lk 183 54 = some (.getfield 41, 57, 10, 18, .null) := by decide +kernel
theorem x_183_54 : Tr sc d 183 (54, [l0, l1, l2, l3, l4, l5, l6, l7], [.ref k1, .int i0], h) Q = (okp h k1 10 = true ∧ ∃ q, hR h k1 18 = some q ∧ Tr sc d 183 (57, [l0, l1, l2, l3, l4, l5, l6, l7], [.ref q, .int i0], h) Q) := t_getr k_183_54
theorem k_183_57 : lk 183 57 = some (.iload_n 2, 58, 2, 0, .null) := by decide +kernel
theorem x_183_57 : Tr sc d 183 (57, [l0, l1, some (.int x), l3, l4, l5, l6, l7], [.ref k1, .int i0], h) Q = Tr sc d 183 (58, [l0, l1, some (.int x), l3, l4, l5, l6, l7], [.int x, .ref k1, .int i0], h) Q := t_iload_n k_183_57 rfl
theorem k_183_58 : lk 183 58 = some (.iaload, 59, 0, 0, .null) := by decide +kernel
theorem x_183_58 : Tr sc d 183 (58, [l0, l1, l2, l3, l4, l5, l6, l7], [.int i2, .ref k1, .int i0], h) Q = (iOk sc h k1 i2 ∧ Tr sc d 183 (59, [l0, l1, l2, l3, l4, l5, l6, l7], [.int (iRd sc h k1 i2), .int i0], h) Q) := t_iald k_183_58
theorem k_183_59 : lk 183 59 = some (.if_icmp .eq 9, 62, 68, 0, .null) := by decide +kernel
theorem x_183_59 : Tr sc d 183 (59, [l0, l1, l2, l3, l4, l5, l6, l7], [.int i1, .int i0], h) Q = if i0 = i1 then Tr sc d 183 (68, [l0, l1, l2, l3, l4, l5, l6, l7], [], h) Q else Tr sc d 183 (62, [l0, l1, l2, l3, l4, l5, l6, l7], [], h) Q := t_if k_183_59 rfl
theorem k_183_62 : lk 183 62 = some (.aload_n 0, 63, 0, 0, .null) := by decide +kernel
theorem x_183_62 : Tr sc d 183 (62, [some (.ref xk), l1, l2, l3, l4, l5, l6, l7], [], h) Q = Tr sc d 183 (63, [some (.ref xk), l1, l2, l3, l4, l5, l6, l7], [.ref xk], h) Q := t_aload_n k_183_62 rfl
theorem k_183_63 : lk 183 63 = some (.iconst 5, 64, 0, 0, .int 5) := by decide +kernel
theorem x_183_63 : Tr sc d 183 (63, [l0, l1, l2, l3, l4, l5, l6, l7], [.ref k0], h) Q = Tr sc d 183 (64, [l0, l1, l2, l3, l4, l5, l6, l7], [.int 5, .ref k0], h) Q := t_go k_183_63 rfl
theorem k_183_64 : lk 183 64 = some (.invokevirtual 152, 67, 158, 1, .null) := by decide +kernel
theorem x_183_64 : Tr sc (d + 1) 183 (64, [l0, l1, l2, l3, l4, l5, l6, l7], [.int i1, .ref k0], h) Q = (okp h k0 10 = true ∧ Tr sc d 158 (ent0 158 [.ref k0, .int i1] h) (fun z => Tr sc (d + 1) 183 (67, [l0, l1, l2, l3, l4, l5, l6, l7], z.1.toList ++ [], z.2) Q)) := t_cv (as := [.int i1]) (r := []) k_183_64 rfl rfl (Nat.le_of_ble_eq_true rfl) (Nat.le_of_ble_eq_true rfl) (Nat.le_of_ble_eq_true rfl)
theorem k_183_67 : lk 183 67 = some (.ireturn, 68, 0, 0, .null) := by decide +kernel
theorem x_183_67 : Tr sc d 183 (67, [l0, l1, l2, l3, l4, l5, l6, l7], [.int i0], h) Q = Q (some (.int i0), h) := t_ret k_183_67 (by rw [r_183]; rfl)
theorem k_183_68 : lk 183 68 = some (.iconst 1, 69, 0, 0, .int 1) := by decide +kernel
theorem x_183_68 : Tr sc d 183 (68, [l0, l1, l2, l3, l4, l5, l6, l7], [], h) Q = Tr sc d 183 (69, [l0, l1, l2, l3, l4, l5, l6, l7], [.int 1], h) Q := t_go k_183_68 rfl
theorem k_183_69 : lk 183 69 = some (.istore 6, 71, 6, 0, .null) := by decide +kernel
theorem x_183_69 : Tr sc d 183 (69, [l0, l1, l2, l3, l4, l5, l6, l7], [.int i0], h) Q = Tr sc d 183 (71, [l0, l1, l2, l3, l4, cl2 l5, some (.int i0), l7], [], h) Q := t_istore k_183_69 (Nat.le_of_ble_eq_true rfl)
theorem k_183_71 : lk 183 71 = some (.iconst 0, 72, 0, 0, .int 0) := by decide +kernel
theorem x_183_71 : Tr sc d 183 (71, [l0, l1, l2, l3, l4, l5, l6, l7], [], h) Q = Tr sc d 183 (72, [l0, l1, l2, l3, l4, l5, l6, l7], [.int 0], h) Q := t_go k_183_71 rfl
theorem k_183_72 : lk 183 72 = some (.istore 7, 74, 7, 0, .null) := by decide +kernel
theorem x_183_72 : Tr sc d 183 (72, [l0, l1, l2, l3, l4, l5, l6, l7], [.int i0], h) Q = Tr sc d 183 (74, [l0, l1, l2, l3, l4, l5, cl2 l6, some (.int i0)], [], h) Q := t_istore k_183_72 (Nat.le_of_ble_eq_true rfl)
theorem k_183_74 : lk 183 74 = some (.iload 7, 76, 7, 0, .null) := by decide +kernel
theorem x_183_74 : Tr sc d 183 (74, [l0, l1, l2, l3, l4, l5, l6, some (.int x)], [], h) Q = Tr sc d 183 (76, [l0, l1, l2, l3, l4, l5, l6, some (.int x)], [.int x], h) Q := t_iload k_183_74 rfl
theorem k_183_76 : lk 183 76 = some (.aload_n 0, 77, 0, 0, .null) := by decide +kernel
theorem x_183_76 : Tr sc d 183 (76, [some (.ref xk), l1, l2, l3, l4, l5, l6, l7], [.int i0], h) Q = Tr sc d 183 (77, [some (.ref xk), l1, l2, l3, l4, l5, l6, l7], [.ref xk, .int i0], h) Q := t_aload_n k_183_76 rfl
theorem k_183_77 : lk 183 77 = some (.getfield 41, 80, 10, 18, .null) := by decide +kernel
theorem x_183_77 : Tr sc d 183 (77, [l0, l1, l2, l3, l4, l5, l6, l7], [.ref k1, .int i0], h) Q = (okp h k1 10 = true ∧ ∃ q, hR h k1 18 = some q ∧ Tr sc d 183 (80, [l0, l1, l2, l3, l4, l5, l6, l7], [.ref q, .int i0], h) Q) := t_getr k_183_77
theorem k_183_80 : lk 183 80 = some (.iload_n 2, 81, 2, 0, .null) := by decide +kernel
theorem x_183_80 : Tr sc d 183 (80, [l0, l1, some (.int x), l3, l4, l5, l6, l7], [.ref k1, .int i0], h) Q = Tr sc d 183 (81, [l0, l1, some (.int x), l3, l4, l5, l6, l7], [.int x, .ref k1, .int i0], h) Q := t_iload_n k_183_80 rfl
theorem k_183_81 : lk 183 81 = some (.iaload, 82, 0, 0, .null) := by decide +kernel
theorem x_183_81 : Tr sc d 183 (81, [l0, l1, l2, l3, l4, l5, l6, l7], [.int i2, .ref k1, .int i0], h) Q = (iOk sc h k1 i2 ∧ Tr sc d 183 (82, [l0, l1, l2, l3, l4, l5, l6, l7], [.int (iRd sc h k1 i2), .int i0], h) Q) := t_iald k_183_81
theorem k_183_82 : lk 183 82 = some (.if_icmp .ge 61, 85, 143, 0, .null) := by decide +kernel
theorem x_183_82 : Tr sc d 183 (82, [l0, l1, l2, l3, l4, l5, l6, l7], [.int i1, .int i0], h) Q = if i1 ≤ i0 then Tr sc d 183 (143, [l0, l1, l2, l3, l4, l5, l6, l7], [], h) Q else Tr sc d 183 (85, [l0, l1, l2, l3, l4, l5, l6, l7], [], h) Q := t_if k_183_82 rfl
theorem k_183_85 : lk 183 85 = some (.iload 6, 87, 6, 0, .null) := by decide +kernel
theorem x_183_85 : Tr sc d 183 (85, [l0, l1, l2, l3, l4, l5, some (.int x), l7], [], h) Q = Tr sc d 183 (87, [l0, l1, l2, l3, l4, l5, some (.int x), l7], [.int x], h) Q := t_iload k_183_85 rfl
theorem k_183_87 : lk 183 87 = some (.ifCond .eq 47, 90, 134, 0, .null) := by decide +kernel
theorem x_183_87 : Tr sc d 183 (87, [l0, l1, l2, l3, l4, l5, l6, l7], [.int i0], h) Q = if i0 = 0 then Tr sc d 183 (134, [l0, l1, l2, l3, l4, l5, l6, l7], [], h) Q else Tr sc d 183 (90, [l0, l1, l2, l3, l4, l5, l6, l7], [], h) Q := t_if k_183_87 rfl
theorem k_183_90 : lk 183 90 = some (.aload_n 0, 91, 0, 0, .null) := by decide +kernel
theorem x_183_90 : Tr sc d 183 (90, [some (.ref xk), l1, l2, l3, l4, l5, l6, l7], [], h) Q = Tr sc d 183 (91, [some (.ref xk), l1, l2, l3, l4, l5, l6, l7], [.ref xk], h) Q := t_aload_n k_183_90 rfl
theorem k_183_91 : lk 183 91 = some (.getfield 20, 94, 10, 7, .null) := by decide +kernel
theorem x_183_91 : Tr sc d 183 (91, [l0, l1, l2, l3, l4, l5, l6, l7], [.ref k0], h) Q = (okp h k0 10 = true ∧ ∃ q, hR h k0 7 = some q ∧ Tr sc d 183 (94, [l0, l1, l2, l3, l4, l5, l6, l7], [.ref q], h) Q) := t_getr k_183_91
theorem k_183_94 : lk 183 94 = some (.bipush 40, 96, 0, 0, .int 40) := by decide +kernel
theorem x_183_94 : Tr sc d 183 (94, [l0, l1, l2, l3, l4, l5, l6, l7], [.ref k0], h) Q = Tr sc d 183 (96, [l0, l1, l2, l3, l4, l5, l6, l7], [.int 40, .ref k0], h) Q := t_go k_183_94 rfl
theorem k_183_96 : lk 183 96 = some (.iload_n 3, 97, 3, 0, .null) := by decide +kernel
theorem x_183_96 : Tr sc d 183 (96, [l0, l1, l2, some (.int x), l4, l5, l6, l7], [.int i1, .ref k0], h) Q = Tr sc d 183 (97, [l0, l1, l2, some (.int x), l4, l5, l6, l7], [.int x, .int i1, .ref k0], h) Q := t_iload_n k_183_96 rfl
theorem k_183_97 : lk 183 97 = some (.imul, 98, 0, 0, .null) := by decide +kernel
theorem x_183_97 : Tr sc d 183 (97, [l0, l1, l2, l3, l4, l5, l6, l7], [.int i2, .int i1, .ref k0], h) Q = Tr sc d 183 (98, [l0, l1, l2, l3, l4, l5, l6, l7], [.int (i1 * i2), .ref k0], h) Q := t_go k_183_97 rfl
theorem k_183_98 : lk 183 98 = some (.iload 7, 100, 7, 0, .null) := by decide +kernel
theorem x_183_98 : Tr sc d 183 (98, [l0, l1, l2, l3, l4, l5, l6, some (.int x)], [.int i1, .ref k0], h) Q = Tr sc d 183 (100, [l0, l1, l2, l3, l4, l5, l6, some (.int x)], [.int x, .int i1, .ref k0], h) Q := t_iload k_183_98 rfl
theorem k_183_100 : lk 183 100 = some (.iadd, 101, 0, 0, .null) := by decide +kernel
theorem x_183_100 : Tr sc d 183 (100, [l0, l1, l2, l3, l4, l5, l6, l7], [.int i2, .int i1, .ref k0], h) Q = Tr sc d 183 (101, [l0, l1, l2, l3, l4, l5, l6, l7], [.int (i1 + i2), .ref k0], h) Q := t_go k_183_100 rfl
theorem k_183_101 : lk 183 101 = some (.iaload, 102, 0, 0, .null) := by decide +kernel
theorem x_183_101 : Tr sc d 183 (101, [l0, l1, l2, l3, l4, l5, l6, l7], [.int i1, .ref k0], h) Q = (iOk sc h k0 i1 ∧ Tr sc d 183 (102, [l0, l1, l2, l3, l4, l5, l6, l7], [.int (iRd sc h k0 i1)], h) Q) := t_iald k_183_101
theorem k_183_102 : lk 183 102 = some (.iload 4, 104, 4, 0, .null) := by decide +kernel
theorem x_183_102 : Tr sc d 183 (102, [l0, l1, l2, l3, some (.int x), l5, l6, l7], [.int i0], h) Q = Tr sc d 183 (104, [l0, l1, l2, l3, some (.int x), l5, l6, l7], [.int x, .int i0], h) Q := t_iload k_183_102 rfl
theorem k_183_104 : lk 183 104 = some (.iload 5, 106, 5, 0, .null) := by decide +kernel
theorem x_183_104 : Tr sc d 183 (104, [l0, l1, l2, l3, l4, some (.int x), l6, l7], [.int i1, .int i0], h) Q = Tr sc d 183 (106, [l0, l1, l2, l3, l4, some (.int x), l6, l7], [.int x, .int i1, .int i0], h) Q := t_iload k_183_104 rfl
theorem k_183_106 : lk 183 106 = some (.ifCond .ge 16, 109, 122, 0, .null) := by decide +kernel
theorem x_183_106 : Tr sc d 183 (106, [l0, l1, l2, l3, l4, l5, l6, l7], [.int i2, .int i1, .int i0], h) Q = if 0 ≤ i2 then Tr sc d 183 (122, [l0, l1, l2, l3, l4, l5, l6, l7], [.int i1, .int i0], h) Q else Tr sc d 183 (109, [l0, l1, l2, l3, l4, l5, l6, l7], [.int i1, .int i0], h) Q := t_if k_183_106 rfl
theorem k_183_109 : lk 183 109 = some (.iconst 1, 110, 0, 0, .int 1) := by decide +kernel
theorem x_183_109 : Tr sc d 183 (109, [l0, l1, l2, l3, l4, l5, l6, l7], [.int i1, .int i0], h) Q = Tr sc d 183 (110, [l0, l1, l2, l3, l4, l5, l6, l7], [.int 1, .int i1, .int i0], h) Q := t_go k_183_109 rfl
theorem k_183_110 : lk 183 110 = some (.aload_n 0, 111, 0, 0, .null) := by decide +kernel
theorem x_183_110 : Tr sc d 183 (110, [some (.ref xk), l1, l2, l3, l4, l5, l6, l7], [.int i2, .int i1, .int i0], h) Q = Tr sc d 183 (111, [some (.ref xk), l1, l2, l3, l4, l5, l6, l7], [.ref xk, .int i2, .int i1, .int i0], h) Q := t_aload_n k_183_110 rfl
theorem k_183_111 : lk 183 111 = some (.getfield 41, 114, 10, 18, .null) := by decide +kernel
theorem x_183_111 : Tr sc d 183 (111, [l0, l1, l2, l3, l4, l5, l6, l7], [.ref k3, .int i2, .int i1, .int i0], h) Q = (okp h k3 10 = true ∧ ∃ q, hR h k3 18 = some q ∧ Tr sc d 183 (114, [l0, l1, l2, l3, l4, l5, l6, l7], [.ref q, .int i2, .int i1, .int i0], h) Q) := t_getr k_183_111
theorem k_183_114 : lk 183 114 = some (.iload_n 2, 115, 2, 0, .null) := by decide +kernel
theorem x_183_114 : Tr sc d 183 (114, [l0, l1, some (.int x), l3, l4, l5, l6, l7], [.ref k3, .int i2, .int i1, .int i0], h) Q = Tr sc d 183 (115, [l0, l1, some (.int x), l3, l4, l5, l6, l7], [.int x, .ref k3, .int i2, .int i1, .int i0], h) Q := t_iload_n k_183_114 rfl
theorem k_183_115 : lk 183 115 = some (.iaload, 116, 0, 0, .null) := by decide +kernel
theorem x_183_115 : Tr sc d 183 (115, [l0, l1, l2, l3, l4, l5, l6, l7], [.int i4, .ref k3, .int i2, .int i1, .int i0], h) Q = (iOk sc h k3 i4 ∧ Tr sc d 183 (116, [l0, l1, l2, l3, l4, l5, l6, l7], [.int (iRd sc h k3 i4), .int i2, .int i1, .int i0], h) Q) := t_iald k_183_115
theorem k_183_116 : lk 183 116 = some (.ishl, 117, 0, 0, .null) := by decide +kernel
theorem x_183_116 : Tr sc d 183 (116, [l0, l1, l2, l3, l4, l5, l6, l7], [.int i3, .int i2, .int i1, .int i0], h) Q = Tr sc d 183 (117, [l0, l1, l2, l3, l4, l5, l6, l7], [.int (i2 <<< (i3 &&& 31)), .int i1, .int i0], h) Q := t_go k_183_116 rfl
theorem k_183_117 : lk 183 117 = some (.iconst 1, 118, 0, 0, .int 1) := by decide +kernel
theorem x_183_117 : Tr sc d 183 (117, [l0, l1, l2, l3, l4, l5, l6, l7], [.int i2, .int i1, .int i0], h) Q = Tr sc d 183 (118, [l0, l1, l2, l3, l4, l5, l6, l7], [.int 1, .int i2, .int i1, .int i0], h) Q := t_go k_183_117 rfl
theorem k_183_118 : lk 183 118 = some (.isub, 119, 0, 0, .null) := by decide +kernel
theorem x_183_118 : Tr sc d 183 (118, [l0, l1, l2, l3, l4, l5, l6, l7], [.int i3, .int i2, .int i1, .int i0], h) Q = Tr sc d 183 (119, [l0, l1, l2, l3, l4, l5, l6, l7], [.int (i2 - i3), .int i1, .int i0], h) Q := t_go k_183_118 rfl
theorem k_183_119 : lk 183 119 = some (.goto 5, 122, 124, 0, .null) := by decide +kernel
theorem x_183_119 : Tr sc d 183 (119, [l0, l1, l2, l3, l4, l5, l6, l7], [.int i2, .int i1, .int i0], h) Q = Tr sc d 183 (124, [l0, l1, l2, l3, l4, l5, l6, l7], [.int i2, .int i1, .int i0], h) Q := t_go k_183_119 rfl
theorem k_183_122 : lk 183 122 = some (.iload 5, 124, 5, 0, .null) := by decide +kernel
theorem x_183_122 : Tr sc d 183 (122, [l0, l1, l2, l3, l4, some (.int x), l6, l7], [.int i1, .int i0], h) Q = Tr sc d 183 (124, [l0, l1, l2, l3, l4, some (.int x), l6, l7], [.int x, .int i1, .int i0], h) Q := t_iload k_183_122 rfl
theorem k_183_124 : lk 183 124 = some (.invokestatic 144, 127, 157, 3, .null) := by decide +kernel
theorem x_183_124 : Tr sc (d + 1) 183 (124, [l0, l1, l2, l3, l4, l5, l6, l7], [.int i2, .int i1, .int i0], h) Q = Tr sc d 157 (ent0 157 [.int i0, .int i1, .int i2] h) (fun z => Tr sc (d + 1) 183 (127, [l0, l1, l2, l3, l4, l5, l6, l7], z.1.toList ++ [], z.2) Q) := t_cs (as := [.int i0, .int i1, .int i2]) (r := []) k_183_124 (by decide) rfl rfl (Nat.le_of_ble_eq_true rfl) (Nat.le_of_ble_eq_true rfl)
theorem k_183_127 : lk 183 127 = some (.ifCond .eq 7, 130, 134, 0, .null) := by decide +kernel
theorem x_183_127 : Tr sc d 183 (127, [l0, l1, l2, l3, l4, l5, l6, l7], [.int i0], h) Q = if i0 = 0 then Tr sc d 183 (134, [l0, l1, l2, l3, l4, l5, l6, l7], [], h) Q else Tr sc d 183 (130, [l0, l1, l2, l3, l4, l5, l6, l7], [], h) Q := t_if k_183_127 rfl
theorem k_183_130 : lk 183 130 = some (.iconst 1, 131, 0, 0, .int 1) := by decide +kernel
theorem x_183_130 : Tr sc d 183 (130, [l0, l1, l2, l3, l4, l5, l6, l7], [], h) Q = Tr sc d 183 (131, [l0, l1, l2, l3, l4, l5, l6, l7], [.int 1], h) Q := t_go k_183_130 rfl
theorem k_183_131 : lk 183 131 = some (.goto 4, 134, 135, 0, .null) := by decide +kernel
theorem x_183_131 : Tr sc d 183 (131, [l0, l1, l2, l3, l4, l5, l6, l7], [.int i0], h) Q = Tr sc d 183 (135, [l0, l1, l2, l3, l4, l5, l6, l7], [.int i0], h) Q := t_go k_183_131 rfl
theorem k_183_134 : lk 183 134 = some (.iconst 0, 135, 0, 0, .int 0) := by decide +kernel
theorem x_183_134 : Tr sc d 183 (134, [l0, l1, l2, l3, l4, l5, l6, l7], [], h) Q = Tr sc d 183 (135, [l0, l1, l2, l3, l4, l5, l6, l7], [.int 0], h) Q := t_go k_183_134 rfl
theorem k_183_135 : lk 183 135 = some (.istore 6, 137, 6, 0, .null) := by decide +kernel
theorem x_183_135 : Tr sc d 183 (135, [l0, l1, l2, l3, l4, l5, l6, l7], [.int i0], h) Q = Tr sc d 183 (137, [l0, l1, l2, l3, l4, cl2 l5, some (.int i0), l7], [], h) Q := t_istore k_183_135 (Nat.le_of_ble_eq_true rfl)
theorem k_183_137 : lk 183 137 = some (.iinc 7 1, 140, 7, 0, .int 1) := by decide +kernel
theorem x_183_137 : Tr sc d 183 (137, [l0, l1, l2, l3, l4, l5, l6, some (.int x)], [], h) Q = Tr sc d 183 (140, [l0, l1, l2, l3, l4, l5, cl2 l6, some (.int (x + 1))], [], h) Q := t_inc k_183_137 rfl (Nat.le_of_ble_eq_true rfl)
theorem k_183_140 : lk 183 140 = some (.goto (-66), 143, 74, 0, .null) := by decide +kernel
theorem x_183_140 : Tr sc d 183 (140, [l0, l1, l2, l3, l4, l5, l6, l7], [], h) Q = Tr sc d 183 (74, [l0, l1, l2, l3, l4, l5, l6, l7], [], h) Q := t_go k_183_140 rfl
theorem k_183_143 : lk 183 143 = some (.iload 6, 145, 6, 0, .null) := by decide +kernel
theorem x_183_143 : Tr sc d 183 (143, [l0, l1, l2, l3, l4, l5, some (.int x), l7], [], h) Q = Tr sc d 183 (145, [l0, l1, l2, l3, l4, l5, some (.int x), l7], [.int x], h) Q := t_iload k_183_143 rfl
theorem k_183_145 : lk 183 145 = some (.ifCond .eq 7, 148, 152, 0, .null) := by decide +kernel
theorem x_183_145 : Tr sc d 183 (145, [l0, l1, l2, l3, l4, l5, l6, l7], [.int i0], h) Q = if i0 = 0 then Tr sc d 183 (152, [l0, l1, l2, l3, l4, l5, l6, l7], [], h) Q else Tr sc d 183 (148, [l0, l1, l2, l3, l4, l5, l6, l7], [], h) Q := t_if k_183_145 rfl
theorem k_183_148 : lk 183 148 = some (.iconst 0, 149, 0, 0, .int 0) := by decide +kernel
theorem x_183_148 : Tr sc d 183 (148, [l0, l1, l2, l3, l4, l5, l6, l7], [], h) Q = Tr sc d 183 (149, [l0, l1, l2, l3, l4, l5, l6, l7], [.int 0], h) Q := t_go k_183_148 rfl
theorem k_183_149 : lk 183 149 = some (.goto 8, 152, 157, 0, .null) := by decide +kernel
theorem x_183_149 : Tr sc d 183 (149, [l0, l1, l2, l3, l4, l5, l6, l7], [.int i0], h) Q = Tr sc d 183 (157, [l0, l1, l2, l3, l4, l5, l6, l7], [.int i0], h) Q := t_go k_183_149 rfl
theorem k_183_152 : lk 183 152 = some (.aload_n 0, 153, 0, 0, .null) := by decide +kernel
theorem x_183_152 : Tr sc d 183 (152, [some (.ref xk), l1, l2, l3, l4, l5, l6, l7], [], h) Q = Tr sc d 183 (153, [some (.ref xk), l1, l2, l3, l4, l5, l6, l7], [.ref xk], h) Q := t_aload_n k_183_152 rfl
theorem k_183_153 : lk 183 153 = some (.iconst 3, 154, 0, 0, .int 3) := by decide +kernel
theorem x_183_153 : Tr sc d 183 (153, [l0, l1, l2, l3, l4, l5, l6, l7], [.ref k0], h) Q = Tr sc d 183 (154, [l0, l1, l2, l3, l4, l5, l6, l7], [.int 3, .ref k0], h) Q := t_go k_183_153 rfl
theorem k_183_154 : lk 183 154 = some (.invokevirtual 152, 157, 158, 1, .null) := by decide +kernel
theorem x_183_154 : Tr sc (d + 1) 183 (154, [l0, l1, l2, l3, l4, l5, l6, l7], [.int i1, .ref k0], h) Q = (okp h k0 10 = true ∧ Tr sc d 158 (ent0 158 [.ref k0, .int i1] h) (fun z => Tr sc (d + 1) 183 (157, [l0, l1, l2, l3, l4, l5, l6, l7], z.1.toList ++ [], z.2) Q)) := t_cv (as := [.int i1]) (r := []) k_183_154 rfl rfl (Nat.le_of_ble_eq_true rfl) (Nat.le_of_ble_eq_true rfl) (Nat.le_of_ble_eq_true rfl)
theorem k_183_157 : lk 183 157 = some (.ireturn, 158, 0, 0, .null) := by decide +kernel
theorem x_183_157 : Tr sc d 183 (157, [l0, l1, l2, l3, l4, l5, l6, l7], [.int i0], h) Q = Q (some (.int i0), h) := t_ret k_183_157 (by rw [r_183]; rfl)
theorem e_183 : Tr sc d 183 (ent0 183 [.ref k0, .int i1, .int i2, .int i3, .int i4, .int i5] h) Q = Tr sc d 183 (0, [some (.ref k0), some (.int i1), some (.int i2), some (.int i3), some (.int i4), some (.int i5), none, none], [], h) Q := by
  have e : mL 183 = 8 := by decide +kernel
  unfold ent0
  rw [e]
  rfl
theorem r_184 : mR 184 = none := by decide +kernel
theorem k_184_0 : lk 184 0 = some (.aload_n 0, 1, 0, 0, .null) := by decide +kernel
theorem x_184_0 : Tr sc d 184 (0, [some (.ref xk), l1, l2, l3, l4, l5], [], h) Q = Tr sc d 184 (1, [some (.ref xk), l1, l2, l3, l4, l5], [.ref xk], h) Q := t_aload_n k_184_0 rfl
theorem k_184_1 : lk 184 1 = some (.iload_n 1, 2, 1, 0, .null) := by decide +kernel
theorem x_184_1 : Tr sc d 184 (1, [l0, some (.int x), l2, l3, l4, l5], [.ref k0], h) Q = Tr sc d 184 (2, [l0, some (.int x), l2, l3, l4, l5], [.int x, .ref k0], h) Q := t_iload_n k_184_1 rfl
theorem k_184_2 : lk 184 2 = some (.iload_n 2, 3, 2, 0, .null) := by decide +kernel
theorem x_184_2 : Tr sc d 184 (2, [l0, l1, some (.int x), l3, l4, l5], [.int i1, .ref k0], h) Q = Tr sc d 184 (3, [l0, l1, some (.int x), l3, l4, l5], [.int x, .int i1, .ref k0], h) Q := t_iload_n k_184_2 rfl
theorem k_184_3 : lk 184 3 = some (.invokevirtual 199, 6, 182, 2, .null) := by decide +kernel
theorem x_184_3 : Tr sc (d + 1) 184 (3, [l0, l1, l2, l3, l4, l5], [.int i2, .int i1, .ref k0], h) Q = (okp h k0 10 = true ∧ Tr sc d 182 (ent0 182 [.ref k0, .int i1, .int i2] h) (fun z => Tr sc (d + 1) 184 (6, [l0, l1, l2, l3, l4, l5], z.1.toList ++ [], z.2) Q)) := t_cv (as := [.int i1, .int i2]) (r := []) k_184_3 rfl rfl (Nat.le_of_ble_eq_true rfl) (Nat.le_of_ble_eq_true rfl) (Nat.le_of_ble_eq_true rfl)
theorem k_184_6 : lk 184 6 = some (.iconst 0, 7, 0, 0, .int 0) := by decide +kernel
theorem x_184_6 : Tr sc d 184 (6, [l0, l1, l2, l3, l4, l5], [], h) Q = Tr sc d 184 (7, [l0, l1, l2, l3, l4, l5], [.int 0], h) Q := t_go k_184_6 rfl
theorem k_184_7 : lk 184 7 = some (.istore 5, 9, 5, 0, .null) := by decide +kernel
theorem x_184_7 : Tr sc d 184 (7, [l0, l1, l2, l3, l4, l5], [.int i0], h) Q = Tr sc d 184 (9, [l0, l1, l2, l3, cl2 l4, some (.int i0)], [], h) Q := t_istore k_184_7 (Nat.le_of_ble_eq_true rfl)
theorem k_184_9 : lk 184 9 = some (.iload 5, 11, 5, 0, .null) := by decide +kernel
theorem x_184_9 : Tr sc d 184 (9, [l0, l1, l2, l3, l4, some (.int x)], [], h) Q = Tr sc d 184 (11, [l0, l1, l2, l3, l4, some (.int x)], [.int x], h) Q := t_iload k_184_9 rfl
theorem k_184_11 : lk 184 11 = some (.aload_n 0, 12, 0, 0, .null) := by decide +kernel
theorem x_184_11 : Tr sc d 184 (11, [some (.ref xk), l1, l2, l3, l4, l5], [.int i0], h) Q = Tr sc d 184 (12, [some (.ref xk), l1, l2, l3, l4, l5], [.ref xk, .int i0], h) Q := t_aload_n k_184_11 rfl
theorem k_184_12 : lk 184 12 = some (.getfield 41, 15, 10, 18, .null) := by decide +kernel
theorem x_184_12 : Tr sc d 184 (12, [l0, l1, l2, l3, l4, l5], [.ref k1, .int i0], h) Q = (okp h k1 10 = true ∧ ∃ q, hR h k1 18 = some q ∧ Tr sc d 184 (15, [l0, l1, l2, l3, l4, l5], [.ref q, .int i0], h) Q) := t_getr k_184_12
theorem k_184_15 : lk 184 15 = some (.iload_n 1, 16, 1, 0, .null) := by decide +kernel
theorem x_184_15 : Tr sc d 184 (15, [l0, some (.int x), l2, l3, l4, l5], [.ref k1, .int i0], h) Q = Tr sc d 184 (16, [l0, some (.int x), l2, l3, l4, l5], [.int x, .ref k1, .int i0], h) Q := t_iload_n k_184_15 rfl
theorem k_184_16 : lk 184 16 = some (.iaload, 17, 0, 0, .null) := by decide +kernel
theorem x_184_16 : Tr sc d 184 (16, [l0, l1, l2, l3, l4, l5], [.int i2, .ref k1, .int i0], h) Q = (iOk sc h k1 i2 ∧ Tr sc d 184 (17, [l0, l1, l2, l3, l4, l5], [.int (iRd sc h k1 i2), .int i0], h) Q) := t_iald k_184_16
theorem k_184_17 : lk 184 17 = some (.if_icmp .ge 33, 20, 50, 0, .null) := by decide +kernel
theorem x_184_17 : Tr sc d 184 (17, [l0, l1, l2, l3, l4, l5], [.int i1, .int i0], h) Q = if i1 ≤ i0 then Tr sc d 184 (50, [l0, l1, l2, l3, l4, l5], [], h) Q else Tr sc d 184 (20, [l0, l1, l2, l3, l4, l5], [], h) Q := t_if k_184_17 rfl
theorem k_184_20 : lk 184 20 = some (.aload_n 0, 21, 0, 0, .null) := by decide +kernel
theorem x_184_20 : Tr sc d 184 (20, [some (.ref xk), l1, l2, l3, l4, l5], [], h) Q = Tr sc d 184 (21, [some (.ref xk), l1, l2, l3, l4, l5], [.ref xk], h) Q := t_aload_n k_184_20 rfl
theorem k_184_21 : lk 184 21 = some (.getfield 53, 24, 10, 22, .null) := by decide +kernel
theorem x_184_21 : Tr sc d 184 (21, [l0, l1, l2, l3, l4, l5], [.ref k0], h) Q = (okp h k0 10 = true ∧ ∃ q, hR h k0 22 = some q ∧ Tr sc d 184 (24, [l0, l1, l2, l3, l4, l5], [.ref q], h) Q) := t_getr k_184_21
theorem k_184_24 : lk 184 24 = some (.bipush 6, 26, 0, 0, .int 6) := by decide +kernel
theorem x_184_24 : Tr sc d 184 (24, [l0, l1, l2, l3, l4, l5], [.ref k0], h) Q = Tr sc d 184 (26, [l0, l1, l2, l3, l4, l5], [.int 6, .ref k0], h) Q := t_go k_184_24 rfl
theorem k_184_26 : lk 184 26 = some (.iload_n 1, 27, 1, 0, .null) := by decide +kernel
theorem x_184_26 : Tr sc d 184 (26, [l0, some (.int x), l2, l3, l4, l5], [.int i1, .ref k0], h) Q = Tr sc d 184 (27, [l0, some (.int x), l2, l3, l4, l5], [.int x, .int i1, .ref k0], h) Q := t_iload_n k_184_26 rfl
theorem k_184_27 : lk 184 27 = some (.imul, 28, 0, 0, .null) := by decide +kernel
theorem x_184_27 : Tr sc d 184 (27, [l0, l1, l2, l3, l4, l5], [.int i2, .int i1, .ref k0], h) Q = Tr sc d 184 (28, [l0, l1, l2, l3, l4, l5], [.int (i1 * i2), .ref k0], h) Q := t_go k_184_27 rfl
theorem k_184_28 : lk 184 28 = some (.iload 5, 30, 5, 0, .null) := by decide +kernel
theorem x_184_28 : Tr sc d 184 (28, [l0, l1, l2, l3, l4, some (.int x)], [.int i1, .ref k0], h) Q = Tr sc d 184 (30, [l0, l1, l2, l3, l4, some (.int x)], [.int x, .int i1, .ref k0], h) Q := t_iload k_184_28 rfl
theorem k_184_30 : lk 184 30 = some (.iadd, 31, 0, 0, .null) := by decide +kernel
theorem x_184_30 : Tr sc d 184 (30, [l0, l1, l2, l3, l4, l5], [.int i2, .int i1, .ref k0], h) Q = Tr sc d 184 (31, [l0, l1, l2, l3, l4, l5], [.int (i1 + i2), .ref k0], h) Q := t_go k_184_30 rfl
theorem k_184_31 : lk 184 31 = some (.aload_n 0, 32, 0, 0, .null) := by decide +kernel
theorem x_184_31 : Tr sc d 184 (31, [some (.ref xk), l1, l2, l3, l4, l5], [.int i1, .ref k0], h) Q = Tr sc d 184 (32, [some (.ref xk), l1, l2, l3, l4, l5], [.ref xk, .int i1, .ref k0], h) Q := t_aload_n k_184_31 rfl
theorem k_184_32 : lk 184 32 = some (.getfield 20, 35, 10, 7, .null) := by decide +kernel
theorem x_184_32 : Tr sc d 184 (32, [l0, l1, l2, l3, l4, l5], [.ref k2, .int i1, .ref k0], h) Q = (okp h k2 10 = true ∧ ∃ q, hR h k2 7 = some q ∧ Tr sc d 184 (35, [l0, l1, l2, l3, l4, l5], [.ref q, .int i1, .ref k0], h) Q) := t_getr k_184_32
theorem k_184_35 : lk 184 35 = some (.bipush 40, 37, 0, 0, .int 40) := by decide +kernel
theorem x_184_35 : Tr sc d 184 (35, [l0, l1, l2, l3, l4, l5], [.ref k2, .int i1, .ref k0], h) Q = Tr sc d 184 (37, [l0, l1, l2, l3, l4, l5], [.int 40, .ref k2, .int i1, .ref k0], h) Q := t_go k_184_35 rfl
theorem k_184_37 : lk 184 37 = some (.iload_n 3, 38, 3, 0, .null) := by decide +kernel
theorem x_184_37 : Tr sc d 184 (37, [l0, l1, l2, some (.int x), l4, l5], [.int i3, .ref k2, .int i1, .ref k0], h) Q = Tr sc d 184 (38, [l0, l1, l2, some (.int x), l4, l5], [.int x, .int i3, .ref k2, .int i1, .ref k0], h) Q := t_iload_n k_184_37 rfl
theorem k_184_38 : lk 184 38 = some (.imul, 39, 0, 0, .null) := by decide +kernel
theorem x_184_38 : Tr sc d 184 (38, [l0, l1, l2, l3, l4, l5], [.int i4, .int i3, .ref k2, .int i1, .ref k0], h) Q = Tr sc d 184 (39, [l0, l1, l2, l3, l4, l5], [.int (i3 * i4), .ref k2, .int i1, .ref k0], h) Q := t_go k_184_38 rfl
theorem k_184_39 : lk 184 39 = some (.iload 5, 41, 5, 0, .null) := by decide +kernel
theorem x_184_39 : Tr sc d 184 (39, [l0, l1, l2, l3, l4, some (.int x)], [.int i3, .ref k2, .int i1, .ref k0], h) Q = Tr sc d 184 (41, [l0, l1, l2, l3, l4, some (.int x)], [.int x, .int i3, .ref k2, .int i1, .ref k0], h) Q := t_iload k_184_39 rfl
theorem k_184_41 : lk 184 41 = some (.iadd, 42, 0, 0, .null) := by decide +kernel
theorem x_184_41 : Tr sc d 184 (41, [l0, l1, l2, l3, l4, l5], [.int i4, .int i3, .ref k2, .int i1, .ref k0], h) Q = Tr sc d 184 (42, [l0, l1, l2, l3, l4, l5], [.int (i3 + i4), .ref k2, .int i1, .ref k0], h) Q := t_go k_184_41 rfl
theorem k_184_42 : lk 184 42 = some (.iaload, 43, 0, 0, .null) := by decide +kernel
theorem x_184_42 : Tr sc d 184 (42, [l0, l1, l2, l3, l4, l5], [.int i3, .ref k2, .int i1, .ref k0], h) Q = (iOk sc h k2 i3 ∧ Tr sc d 184 (43, [l0, l1, l2, l3, l4, l5], [.int (iRd sc h k2 i3), .int i1, .ref k0], h) Q) := t_iald k_184_42
theorem k_184_43 : lk 184 43 = some (.iastore, 44, 0, 0, .null) := by decide +kernel
theorem x_184_43 : Tr sc d 184 (43, [l0, l1, l2, l3, l4, l5], [.int i2, .int i1, .ref k0], h) Q = ((okp h k0 11 && inb i1 (LN k0)) = true ∧ Tr sc d 184 (44, [l0, l1, l2, l3, l4, l5], [], (sI h k0 i1.toNatClampNeg i2)) Q) := t_gd k_184_43 rfl
theorem k_184_44 : lk 184 44 = some (.iinc 5 1, 47, 5, 0, .int 1) := by decide +kernel
theorem x_184_44 : Tr sc d 184 (44, [l0, l1, l2, l3, l4, some (.int x)], [], h) Q = Tr sc d 184 (47, [l0, l1, l2, l3, cl2 l4, some (.int (x + 1))], [], h) Q := t_inc k_184_44 rfl (Nat.le_of_ble_eq_true rfl)
theorem k_184_47 : lk 184 47 = some (.goto (-38), 50, 9, 0, .null) := by decide +kernel
theorem x_184_47 : Tr sc d 184 (47, [l0, l1, l2, l3, l4, l5], [], h) Q = Tr sc d 184 (9, [l0, l1, l2, l3, l4, l5], [], h) Q := t_go k_184_47 rfl
theorem k_184_50 : lk 184 50 = some (.aload_n 0, 51, 0, 0, .null) := by decide +kernel
theorem x_184_50 : Tr sc d 184 (50, [some (.ref xk), l1, l2, l3, l4, l5], [], h) Q = Tr sc d 184 (51, [some (.ref xk), l1, l2, l3, l4, l5], [.ref xk], h) Q := t_aload_n k_184_50 rfl
theorem k_184_51 : lk 184 51 = some (.getfield 35, 54, 10, 16, .null) := by decide +kernel
theorem x_184_51 : Tr sc d 184 (51, [l0, l1, l2, l3, l4, l5], [.ref k0], h) Q = (okp h k0 10 = true ∧ ∃ q, hR h k0 16 = some q ∧ Tr sc d 184 (54, [l0, l1, l2, l3, l4, l5], [.ref q], h) Q) := t_getr k_184_51
theorem k_184_54 : lk 184 54 = some (.iload_n 1, 55, 1, 0, .null) := by decide +kernel
theorem x_184_54 : Tr sc d 184 (54, [l0, some (.int x), l2, l3, l4, l5], [.ref k0], h) Q = Tr sc d 184 (55, [l0, some (.int x), l2, l3, l4, l5], [.int x, .ref k0], h) Q := t_iload_n k_184_54 rfl
theorem k_184_55 : lk 184 55 = some (.iload 4, 57, 4, 0, .null) := by decide +kernel
theorem x_184_55 : Tr sc d 184 (55, [l0, l1, l2, l3, some (.int x), l5], [.int i1, .ref k0], h) Q = Tr sc d 184 (57, [l0, l1, l2, l3, some (.int x), l5], [.int x, .int i1, .ref k0], h) Q := t_iload k_184_55 rfl
theorem k_184_57 : lk 184 57 = some (.iastore, 58, 0, 0, .null) := by decide +kernel
theorem x_184_57 : Tr sc d 184 (57, [l0, l1, l2, l3, l4, l5], [.int i2, .int i1, .ref k0], h) Q = ((okp h k0 11 && inb i1 (LN k0)) = true ∧ Tr sc d 184 (58, [l0, l1, l2, l3, l4, l5], [], (sI h k0 i1.toNatClampNeg i2)) Q) := t_gd k_184_57 rfl
theorem k_184_58 : lk 184 58 = some (.return_, 59, 0, 0, .null) := by decide +kernel
theorem x_184_58 : Tr sc d 184 (58, [l0, l1, l2, l3, l4, l5], [], h) Q = Q (none, h) := t_ret k_184_58 (by rw [r_184]; rfl)
theorem e_184 : Tr sc d 184 (ent0 184 [.ref k0, .int i1, .int i2, .int i3, .int i4] h) Q = Tr sc d 184 (0, [some (.ref k0), some (.int i1), some (.int i2), some (.int i3), some (.int i4), none], [], h) Q := by
  have e : mL 184 = 6 := by decide +kernel
  unfold ent0
  rw [e]
  rfl
theorem r_185 : mR 185 = some .int := by decide +kernel
theorem k_185_0 : lk 185 0 = some (.iconst 0, 1, 0, 0, .int 0) := by decide +kernel
theorem x_185_0 : Tr sc d 185 (0, [l0, l1, l2, l3], [], h) Q = Tr sc d 185 (1, [l0, l1, l2, l3], [.int 0], h) Q := t_go k_185_0 rfl
theorem k_185_1 : lk 185 1 = some (.istore_n 2, 2, 2, 0, .null) := by decide +kernel
theorem x_185_1 : Tr sc d 185 (1, [l0, l1, l2, l3], [.int i0], h) Q = Tr sc d 185 (2, [l0, cl2 l1, some (.int i0), l3], [], h) Q := t_istore_n k_185_1 (Nat.le_of_ble_eq_true rfl)
theorem k_185_2 : lk 185 2 = some (.iconst 0, 3, 0, 0, .int 0) := by decide +kernel
theorem x_185_2 : Tr sc d 185 (2, [l0, l1, l2, l3], [], h) Q = Tr sc d 185 (3, [l0, l1, l2, l3], [.int 0], h) Q := t_go k_185_2 rfl
theorem k_185_3 : lk 185 3 = some (.istore_n 3, 4, 3, 0, .null) := by decide +kernel
theorem x_185_3 : Tr sc d 185 (3, [l0, l1, l2, l3], [.int i0], h) Q = Tr sc d 185 (4, [l0, l1, cl2 l2, some (.int i0)], [], h) Q := t_istore_n k_185_3 (Nat.le_of_ble_eq_true rfl)
theorem k_185_4 : lk 185 4 = some (.iload_n 3, 5, 3, 0, .null) := by decide +kernel
theorem x_185_4 : Tr sc d 185 (4, [l0, l1, l2, some (.int x)], [], h) Q = Tr sc d 185 (5, [l0, l1, l2, some (.int x)], [.int x], h) Q := t_iload_n k_185_4 rfl
theorem k_185_5 : lk 185 5 = some (.aload_n 0, 6, 0, 0, .null) := by decide +kernel
theorem x_185_5 : Tr sc d 185 (5, [some (.ref xk), l1, l2, l3], [.int i0], h) Q = Tr sc d 185 (6, [some (.ref xk), l1, l2, l3], [.ref xk, .int i0], h) Q := t_aload_n k_185_5 rfl
theorem k_185_6 : lk 185 6 = some (.getfield 41, 9, 10, 18, .null) := by decide +kernel
theorem x_185_6 : Tr sc d 185 (6, [l0, l1, l2, l3], [.ref k1, .int i0], h) Q = (okp h k1 10 = true ∧ ∃ q, hR h k1 18 = some q ∧ Tr sc d 185 (9, [l0, l1, l2, l3], [.ref q, .int i0], h) Q) := t_getr k_185_6
theorem k_185_9 : lk 185 9 = some (.iload_n 1, 10, 1, 0, .null) := by decide +kernel
theorem x_185_9 : Tr sc d 185 (9, [l0, some (.int x), l2, l3], [.ref k1, .int i0], h) Q = Tr sc d 185 (10, [l0, some (.int x), l2, l3], [.int x, .ref k1, .int i0], h) Q := t_iload_n k_185_9 rfl
theorem k_185_10 : lk 185 10 = some (.iaload, 11, 0, 0, .null) := by decide +kernel
theorem x_185_10 : Tr sc d 185 (10, [l0, l1, l2, l3], [.int i2, .ref k1, .int i0], h) Q = (iOk sc h k1 i2 ∧ Tr sc d 185 (11, [l0, l1, l2, l3], [.int (iRd sc h k1 i2), .int i0], h) Q) := t_iald k_185_10
theorem k_185_11 : lk 185 11 = some (.if_icmp .ge 37, 14, 48, 0, .null) := by decide +kernel
theorem x_185_11 : Tr sc d 185 (11, [l0, l1, l2, l3], [.int i1, .int i0], h) Q = if i1 ≤ i0 then Tr sc d 185 (48, [l0, l1, l2, l3], [], h) Q else Tr sc d 185 (14, [l0, l1, l2, l3], [], h) Q := t_if k_185_11 rfl
theorem k_185_14 : lk 185 14 = some (.iload_n 2, 15, 2, 0, .null) := by decide +kernel
theorem x_185_14 : Tr sc d 185 (14, [l0, l1, some (.int x), l3], [], h) Q = Tr sc d 185 (15, [l0, l1, some (.int x), l3], [.int x], h) Q := t_iload_n k_185_14 rfl
theorem k_185_15 : lk 185 15 = some (.aload_n 0, 16, 0, 0, .null) := by decide +kernel
theorem x_185_15 : Tr sc d 185 (15, [some (.ref xk), l1, l2, l3], [.int i0], h) Q = Tr sc d 185 (16, [some (.ref xk), l1, l2, l3], [.ref xk, .int i0], h) Q := t_aload_n k_185_15 rfl
theorem k_185_16 : lk 185 16 = some (.getfield 35, 19, 10, 16, .null) := by decide +kernel
theorem x_185_16 : Tr sc d 185 (16, [l0, l1, l2, l3], [.ref k1, .int i0], h) Q = (okp h k1 10 = true ∧ ∃ q, hR h k1 16 = some q ∧ Tr sc d 185 (19, [l0, l1, l2, l3], [.ref q, .int i0], h) Q) := t_getr k_185_16
theorem k_185_19 : lk 185 19 = some (.iload_n 1, 20, 1, 0, .null) := by decide +kernel
theorem x_185_19 : Tr sc d 185 (19, [l0, some (.int x), l2, l3], [.ref k1, .int i0], h) Q = Tr sc d 185 (20, [l0, some (.int x), l2, l3], [.int x, .ref k1, .int i0], h) Q := t_iload_n k_185_19 rfl
theorem k_185_20 : lk 185 20 = some (.iaload, 21, 0, 0, .null) := by decide +kernel
theorem x_185_20 : Tr sc d 185 (20, [l0, l1, l2, l3], [.int i2, .ref k1, .int i0], h) Q = (iOk sc h k1 i2 ∧ Tr sc d 185 (21, [l0, l1, l2, l3], [.int (iRd sc h k1 i2), .int i0], h) Q) := t_iald k_185_20
theorem k_185_21 : lk 185 21 = some (.iconst 3, 22, 0, 0, .int 3) := by decide +kernel
theorem x_185_21 : Tr sc d 185 (21, [l0, l1, l2, l3], [.int i1, .int i0], h) Q = Tr sc d 185 (22, [l0, l1, l2, l3], [.int 3, .int i1, .int i0], h) Q := t_go k_185_21 rfl
theorem k_185_22 : lk 185 22 = some (.if_icmp .ne 17, 25, 39, 0, .null) := by decide +kernel
theorem x_185_22 : Tr sc d 185 (22, [l0, l1, l2, l3], [.int i2, .int i1, .int i0], h) Q = if i1 = i2 then Tr sc d 185 (25, [l0, l1, l2, l3], [.int i0], h) Q else Tr sc d 185 (39, [l0, l1, l2, l3], [.int i0], h) Q := t_if k_185_22 rfl
theorem k_185_25 : lk 185 25 = some (.aload_n 0, 26, 0, 0, .null) := by decide +kernel
theorem x_185_25 : Tr sc d 185 (25, [some (.ref xk), l1, l2, l3], [.int i0], h) Q = Tr sc d 185 (26, [some (.ref xk), l1, l2, l3], [.ref xk, .int i0], h) Q := t_aload_n k_185_25 rfl
theorem k_185_26 : lk 185 26 = some (.getfield 53, 29, 10, 22, .null) := by decide +kernel
theorem x_185_26 : Tr sc d 185 (26, [l0, l1, l2, l3], [.ref k1, .int i0], h) Q = (okp h k1 10 = true ∧ ∃ q, hR h k1 22 = some q ∧ Tr sc d 185 (29, [l0, l1, l2, l3], [.ref q, .int i0], h) Q) := t_getr k_185_26
theorem k_185_29 : lk 185 29 = some (.bipush 6, 31, 0, 0, .int 6) := by decide +kernel
theorem x_185_29 : Tr sc d 185 (29, [l0, l1, l2, l3], [.ref k1, .int i0], h) Q = Tr sc d 185 (31, [l0, l1, l2, l3], [.int 6, .ref k1, .int i0], h) Q := t_go k_185_29 rfl
theorem k_185_31 : lk 185 31 = some (.iload_n 1, 32, 1, 0, .null) := by decide +kernel
theorem x_185_31 : Tr sc d 185 (31, [l0, some (.int x), l2, l3], [.int i2, .ref k1, .int i0], h) Q = Tr sc d 185 (32, [l0, some (.int x), l2, l3], [.int x, .int i2, .ref k1, .int i0], h) Q := t_iload_n k_185_31 rfl
theorem k_185_32 : lk 185 32 = some (.imul, 33, 0, 0, .null) := by decide +kernel
theorem x_185_32 : Tr sc d 185 (32, [l0, l1, l2, l3], [.int i3, .int i2, .ref k1, .int i0], h) Q = Tr sc d 185 (33, [l0, l1, l2, l3], [.int (i2 * i3), .ref k1, .int i0], h) Q := t_go k_185_32 rfl
theorem k_185_33 : lk 185 33 = some (.iload_n 3, 34, 3, 0, .null) := by decide +kernel
theorem x_185_33 : Tr sc d 185 (33, [l0, l1, l2, some (.int x)], [.int i2, .ref k1, .int i0], h) Q = Tr sc d 185 (34, [l0, l1, l2, some (.int x)], [.int x, .int i2, .ref k1, .int i0], h) Q := t_iload_n k_185_33 rfl
theorem k_185_34 : lk 185 34 = some (.iadd, 35, 0, 0, .null) := by decide +kernel
theorem x_185_34 : Tr sc d 185 (34, [l0, l1, l2, l3], [.int i3, .int i2, .ref k1, .int i0], h) Q = Tr sc d 185 (35, [l0, l1, l2, l3], [.int (i2 + i3), .ref k1, .int i0], h) Q := t_go k_185_34 rfl
theorem k_185_35 : lk 185 35 = some (.iaload, 36, 0, 0, .null) := by decide +kernel
theorem x_185_35 : Tr sc d 185 (35, [l0, l1, l2, l3], [.int i2, .ref k1, .int i0], h) Q = (iOk sc h k1 i2 ∧ Tr sc d 185 (36, [l0, l1, l2, l3], [.int (iRd sc h k1 i2), .int i0], h) Q) := t_iald k_185_35
theorem k_185_36 : lk 185 36 = some (.goto 4, 39, 40, 0, .null) := by decide +kernel
theorem x_185_36 : Tr sc d 185 (36, [l0, l1, l2, l3], [.int i1, .int i0], h) Q = Tr sc d 185 (40, [l0, l1, l2, l3], [.int i1, .int i0], h) Q := t_go k_185_36 rfl
theorem k_185_39 : lk 185 39 = some (.iconst 1, 40, 0, 0, .int 1) := by decide +kernel
theorem x_185_39 : Tr sc d 185 (39, [l0, l1, l2, l3], [.int i0], h) Q = Tr sc d 185 (40, [l0, l1, l2, l3], [.int 1, .int i0], h) Q := t_go k_185_39 rfl
theorem k_185_40 : lk 185 40 = some (.iadd, 41, 0, 0, .null) := by decide +kernel
theorem x_185_40 : Tr sc d 185 (40, [l0, l1, l2, l3], [.int i1, .int i0], h) Q = Tr sc d 185 (41, [l0, l1, l2, l3], [.int (i0 + i1)], h) Q := t_go k_185_40 rfl
theorem k_185_41 : lk 185 41 = some (.istore_n 2, 42, 2, 0, .null) := by decide +kernel
theorem x_185_41 : Tr sc d 185 (41, [l0, l1, l2, l3], [.int i0], h) Q = Tr sc d 185 (42, [l0, cl2 l1, some (.int i0), l3], [], h) Q := t_istore_n k_185_41 (Nat.le_of_ble_eq_true rfl)
theorem k_185_42 : lk 185 42 = some (.iinc 3 1, 45, 3, 0, .int 1) := by decide +kernel
theorem x_185_42 : Tr sc d 185 (42, [l0, l1, l2, some (.int x)], [], h) Q = Tr sc d 185 (45, [l0, l1, cl2 l2, some (.int (x + 1))], [], h) Q := t_inc k_185_42 rfl (Nat.le_of_ble_eq_true rfl)
theorem k_185_45 : lk 185 45 = some (.goto (-41), 48, 4, 0, .null) := by decide +kernel
theorem x_185_45 : Tr sc d 185 (45, [l0, l1, l2, l3], [], h) Q = Tr sc d 185 (4, [l0, l1, l2, l3], [], h) Q := t_go k_185_45 rfl
theorem k_185_48 : lk 185 48 = some (.iload_n 2, 49, 2, 0, .null) := by decide +kernel
theorem x_185_48 : Tr sc d 185 (48, [l0, l1, some (.int x), l3], [], h) Q = Tr sc d 185 (49, [l0, l1, some (.int x), l3], [.int x], h) Q := t_iload_n k_185_48 rfl
theorem k_185_49 : lk 185 49 = some (.ireturn, 50, 0, 0, .null) := by decide +kernel
theorem x_185_49 : Tr sc d 185 (49, [l0, l1, l2, l3], [.int i0], h) Q = Q (some (.int i0), h) := t_ret k_185_49 (by rw [r_185]; rfl)
theorem e_185 : Tr sc d 185 (ent0 185 [.ref k0, .int i1] h) Q = Tr sc d 185 (0, [some (.ref k0), some (.int i1), none, none], [], h) Q := by
  have e : mL 185 = 4 := by decide +kernel
  unfold ent0
  rw [e]
  rfl
theorem r_186 : mR 186 = some .int := by decide +kernel
theorem k_186_0 : lk 186 0 = some (.iconst 0, 1, 0, 0, .int 0) := by decide +kernel
theorem x_186_0 : Tr sc d 186 (0, [l0, l1, l2, l3, l4], [], h) Q = Tr sc d 186 (1, [l0, l1, l2, l3, l4], [.int 0], h) Q := t_go k_186_0 rfl
theorem k_186_1 : lk 186 1 = some (.istore_n 2, 2, 2, 0, .null) := by decide +kernel
theorem x_186_1 : Tr sc d 186 (1, [l0, l1, l2, l3, l4], [.int i0], h) Q = Tr sc d 186 (2, [l0, cl2 l1, some (.int i0), l3, l4], [], h) Q := t_istore_n k_186_1 (Nat.le_of_ble_eq_true rfl)
theorem k_186_2 : lk 186 2 = some (.iconst 0, 3, 0, 0, .int 0) := by decide +kernel
theorem x_186_2 : Tr sc d 186 (2, [l0, l1, l2, l3, l4], [], h) Q = Tr sc d 186 (3, [l0, l1, l2, l3, l4], [.int 0], h) Q := t_go k_186_2 rfl
theorem k_186_3 : lk 186 3 = some (.istore_n 3, 4, 3, 0, .null) := by decide +kernel
theorem x_186_3 : Tr sc d 186 (3, [l0, l1, l2, l3, l4], [.int i0], h) Q = Tr sc d 186 (4, [l0, l1, cl2 l2, some (.int i0), l4], [], h) Q := t_istore_n k_186_3 (Nat.le_of_ble_eq_true rfl)
theorem k_186_4 : lk 186 4 = some (.iload_n 3, 5, 3, 0, .null) := by decide +kernel
theorem x_186_4 : Tr sc d 186 (4, [l0, l1, l2, some (.int x), l4], [], h) Q = Tr sc d 186 (5, [l0, l1, l2, some (.int x), l4], [.int x], h) Q := t_iload_n k_186_4 rfl
theorem k_186_5 : lk 186 5 = some (.aload_n 0, 6, 0, 0, .null) := by decide +kernel
theorem x_186_5 : Tr sc d 186 (5, [some (.ref xk), l1, l2, l3, l4], [.int i0], h) Q = Tr sc d 186 (6, [some (.ref xk), l1, l2, l3, l4], [.ref xk, .int i0], h) Q := t_aload_n k_186_5 rfl
theorem k_186_6 : lk 186 6 = some (.getfield 41, 9, 10, 18, .null) := by decide +kernel
theorem x_186_6 : Tr sc d 186 (6, [l0, l1, l2, l3, l4], [.ref k1, .int i0], h) Q = (okp h k1 10 = true ∧ ∃ q, hR h k1 18 = some q ∧ Tr sc d 186 (9, [l0, l1, l2, l3, l4], [.ref q, .int i0], h) Q) := t_getr k_186_6
theorem k_186_9 : lk 186 9 = some (.iload_n 1, 10, 1, 0, .null) := by decide +kernel
theorem x_186_9 : Tr sc d 186 (9, [l0, some (.int x), l2, l3, l4], [.ref k1, .int i0], h) Q = Tr sc d 186 (10, [l0, some (.int x), l2, l3, l4], [.int x, .ref k1, .int i0], h) Q := t_iload_n k_186_9 rfl
theorem k_186_10 : lk 186 10 = some (.iaload, 11, 0, 0, .null) := by decide +kernel
theorem x_186_10 : Tr sc d 186 (10, [l0, l1, l2, l3, l4], [.int i2, .ref k1, .int i0], h) Q = (iOk sc h k1 i2 ∧ Tr sc d 186 (11, [l0, l1, l2, l3, l4], [.int (iRd sc h k1 i2), .int i0], h) Q) := t_iald k_186_10
theorem k_186_11 : lk 186 11 = some (.if_icmp .ge 48, 14, 59, 0, .null) := by decide +kernel
theorem x_186_11 : Tr sc d 186 (11, [l0, l1, l2, l3, l4], [.int i1, .int i0], h) Q = if i1 ≤ i0 then Tr sc d 186 (59, [l0, l1, l2, l3, l4], [], h) Q else Tr sc d 186 (14, [l0, l1, l2, l3, l4], [], h) Q := t_if k_186_11 rfl
theorem k_186_14 : lk 186 14 = some (.iconst 0, 15, 0, 0, .int 0) := by decide +kernel
theorem x_186_14 : Tr sc d 186 (14, [l0, l1, l2, l3, l4], [], h) Q = Tr sc d 186 (15, [l0, l1, l2, l3, l4], [.int 0], h) Q := t_go k_186_14 rfl
theorem k_186_15 : lk 186 15 = some (.istore 4, 17, 4, 0, .null) := by decide +kernel
theorem x_186_15 : Tr sc d 186 (15, [l0, l1, l2, l3, l4], [.int i0], h) Q = Tr sc d 186 (17, [l0, l1, l2, cl2 l3, some (.int i0)], [], h) Q := t_istore k_186_15 (Nat.le_of_ble_eq_true rfl)
theorem k_186_17 : lk 186 17 = some (.iload 4, 19, 4, 0, .null) := by decide +kernel
theorem x_186_17 : Tr sc d 186 (17, [l0, l1, l2, l3, some (.int x)], [], h) Q = Tr sc d 186 (19, [l0, l1, l2, l3, some (.int x)], [.int x], h) Q := t_iload k_186_17 rfl
theorem k_186_19 : lk 186 19 = some (.aload_n 0, 20, 0, 0, .null) := by decide +kernel
theorem x_186_19 : Tr sc d 186 (19, [some (.ref xk), l1, l2, l3, l4], [.int i0], h) Q = Tr sc d 186 (20, [some (.ref xk), l1, l2, l3, l4], [.ref xk, .int i0], h) Q := t_aload_n k_186_19 rfl
theorem k_186_20 : lk 186 20 = some (.getfield 41, 23, 10, 18, .null) := by decide +kernel
theorem x_186_20 : Tr sc d 186 (20, [l0, l1, l2, l3, l4], [.ref k1, .int i0], h) Q = (okp h k1 10 = true ∧ ∃ q, hR h k1 18 = some q ∧ Tr sc d 186 (23, [l0, l1, l2, l3, l4], [.ref q, .int i0], h) Q) := t_getr k_186_20
theorem k_186_23 : lk 186 23 = some (.iload_n 1, 24, 1, 0, .null) := by decide +kernel
theorem x_186_23 : Tr sc d 186 (23, [l0, some (.int x), l2, l3, l4], [.ref k1, .int i0], h) Q = Tr sc d 186 (24, [l0, some (.int x), l2, l3, l4], [.int x, .ref k1, .int i0], h) Q := t_iload_n k_186_23 rfl
theorem k_186_24 : lk 186 24 = some (.iaload, 25, 0, 0, .null) := by decide +kernel
theorem x_186_24 : Tr sc d 186 (24, [l0, l1, l2, l3, l4], [.int i2, .ref k1, .int i0], h) Q = (iOk sc h k1 i2 ∧ Tr sc d 186 (25, [l0, l1, l2, l3, l4], [.int (iRd sc h k1 i2), .int i0], h) Q) := t_iald k_186_24
theorem k_186_25 : lk 186 25 = some (.if_icmp .ge 28, 28, 53, 0, .null) := by decide +kernel
theorem x_186_25 : Tr sc d 186 (25, [l0, l1, l2, l3, l4], [.int i1, .int i0], h) Q = if i1 ≤ i0 then Tr sc d 186 (53, [l0, l1, l2, l3, l4], [], h) Q else Tr sc d 186 (28, [l0, l1, l2, l3, l4], [], h) Q := t_if k_186_25 rfl
theorem k_186_28 : lk 186 28 = some (.iload_n 2, 29, 2, 0, .null) := by decide +kernel
theorem x_186_28 : Tr sc d 186 (28, [l0, l1, some (.int x), l3, l4], [], h) Q = Tr sc d 186 (29, [l0, l1, some (.int x), l3, l4], [.int x], h) Q := t_iload_n k_186_28 rfl
theorem k_186_29 : lk 186 29 = some (.aload_n 0, 30, 0, 0, .null) := by decide +kernel
theorem x_186_29 : Tr sc d 186 (29, [some (.ref xk), l1, l2, l3, l4], [.int i0], h) Q = Tr sc d 186 (30, [some (.ref xk), l1, l2, l3, l4], [.ref xk, .int i0], h) Q := t_aload_n k_186_29 rfl
theorem k_186_30 : lk 186 30 = some (.iload_n 1, 31, 1, 0, .null) := by decide +kernel
theorem x_186_30 : Tr sc d 186 (30, [l0, some (.int x), l2, l3, l4], [.ref k1, .int i0], h) Q = Tr sc d 186 (31, [l0, some (.int x), l2, l3, l4], [.int x, .ref k1, .int i0], h) Q := t_iload_n k_186_30 rfl
theorem k_186_31 : lk 186 31 = some (.iload_n 3, 32, 3, 0, .null) := by decide +kernel
theorem x_186_31 : Tr sc d 186 (31, [l0, l1, l2, some (.int x), l4], [.int i2, .ref k1, .int i0], h) Q = Tr sc d 186 (32, [l0, l1, l2, some (.int x), l4], [.int x, .int i2, .ref k1, .int i0], h) Q := t_iload_n k_186_31 rfl
theorem k_186_32 : lk 186 32 = some (.iload 4, 34, 4, 0, .null) := by decide +kernel
theorem x_186_32 : Tr sc d 186 (32, [l0, l1, l2, l3, some (.int x)], [.int i3, .int i2, .ref k1, .int i0], h) Q = Tr sc d 186 (34, [l0, l1, l2, l3, some (.int x)], [.int x, .int i3, .int i2, .ref k1, .int i0], h) Q := t_iload k_186_32 rfl
theorem k_186_34 : lk 186 34 = some (.invokevirtual 203, 37, 187, 3, .null) := by decide +kernel
theorem x_186_34 : Tr sc (d + 1) 186 (34, [l0, l1, l2, l3, l4], [.int i4, .int i3, .int i2, .ref k1, .int i0], h) Q = (okp h k1 10 = true ∧ Tr sc d 187 (ent0 187 [.ref k1, .int i2, .int i3, .int i4] h) (fun z => Tr sc (d + 1) 186 (37, [l0, l1, l2, l3, l4], z.1.toList ++ [.int i0], z.2) Q)) := t_cv (as := [.int i2, .int i3, .int i4]) (r := [.int i0]) k_186_34 rfl rfl (Nat.le_of_ble_eq_true rfl) (Nat.le_of_ble_eq_true rfl) (Nat.le_of_ble_eq_true rfl)
theorem k_186_37 : lk 186 37 = some (.ifCond .eq 7, 40, 44, 0, .null) := by decide +kernel
theorem x_186_37 : Tr sc d 186 (37, [l0, l1, l2, l3, l4], [.int i1, .int i0], h) Q = if i1 = 0 then Tr sc d 186 (44, [l0, l1, l2, l3, l4], [.int i0], h) Q else Tr sc d 186 (40, [l0, l1, l2, l3, l4], [.int i0], h) Q := t_if k_186_37 rfl
theorem k_186_40 : lk 186 40 = some (.iconst 1, 41, 0, 0, .int 1) := by decide +kernel
theorem x_186_40 : Tr sc d 186 (40, [l0, l1, l2, l3, l4], [.int i0], h) Q = Tr sc d 186 (41, [l0, l1, l2, l3, l4], [.int 1, .int i0], h) Q := t_go k_186_40 rfl
theorem k_186_41 : lk 186 41 = some (.goto 4, 44, 45, 0, .null) := by decide +kernel
theorem x_186_41 : Tr sc d 186 (41, [l0, l1, l2, l3, l4], [.int i1, .int i0], h) Q = Tr sc d 186 (45, [l0, l1, l2, l3, l4], [.int i1, .int i0], h) Q := t_go k_186_41 rfl
theorem k_186_44 : lk 186 44 = some (.iconst 0, 45, 0, 0, .int 0) := by decide +kernel
theorem x_186_44 : Tr sc d 186 (44, [l0, l1, l2, l3, l4], [.int i0], h) Q = Tr sc d 186 (45, [l0, l1, l2, l3, l4], [.int 0, .int i0], h) Q := t_go k_186_44 rfl
theorem k_186_45 : lk 186 45 = some (.iadd, 46, 0, 0, .null) := by decide +kernel
theorem x_186_45 : Tr sc d 186 (45, [l0, l1, l2, l3, l4], [.int i1, .int i0], h) Q = Tr sc d 186 (46, [l0, l1, l2, l3, l4], [.int (i0 + i1)], h) Q := t_go k_186_45 rfl
theorem k_186_46 : lk 186 46 = some (.istore_n 2, 47, 2, 0, .null) := by decide +kernel
theorem x_186_46 : Tr sc d 186 (46, [l0, l1, l2, l3, l4], [.int i0], h) Q = Tr sc d 186 (47, [l0, cl2 l1, some (.int i0), l3, l4], [], h) Q := t_istore_n k_186_46 (Nat.le_of_ble_eq_true rfl)
theorem k_186_47 : lk 186 47 = some (.iinc 4 1, 50, 4, 0, .int 1) := by decide +kernel
theorem x_186_47 : Tr sc d 186 (47, [l0, l1, l2, l3, some (.int x)], [], h) Q = Tr sc d 186 (50, [l0, l1, l2, cl2 l3, some (.int (x + 1))], [], h) Q := t_inc k_186_47 rfl (Nat.le_of_ble_eq_true rfl)
theorem k_186_50 : lk 186 50 = some (.goto (-33), 53, 17, 0, .null) := by decide +kernel
theorem x_186_50 : Tr sc d 186 (50, [l0, l1, l2, l3, l4], [], h) Q = Tr sc d 186 (17, [l0, l1, l2, l3, l4], [], h) Q := t_go k_186_50 rfl
theorem k_186_53 : lk 186 53 = some (.iinc 3 1, 56, 3, 0, .int 1) := by decide +kernel
theorem x_186_53 : Tr sc d 186 (53, [l0, l1, l2, some (.int x), l4], [], h) Q = Tr sc d 186 (56, [l0, l1, cl2 l2, some (.int (x + 1)), l4], [], h) Q := t_inc k_186_53 rfl (Nat.le_of_ble_eq_true rfl)
theorem k_186_56 : lk 186 56 = some (.goto (-52), 59, 4, 0, .null) := by decide +kernel
theorem x_186_56 : Tr sc d 186 (56, [l0, l1, l2, l3, l4], [], h) Q = Tr sc d 186 (4, [l0, l1, l2, l3, l4], [], h) Q := t_go k_186_56 rfl
theorem k_186_59 : lk 186 59 = some (.iload_n 2, 60, 2, 0, .null) := by decide +kernel
theorem x_186_59 : Tr sc d 186 (59, [l0, l1, some (.int x), l3, l4], [], h) Q = Tr sc d 186 (60, [l0, l1, some (.int x), l3, l4], [.int x], h) Q := t_iload_n k_186_59 rfl
theorem k_186_60 : lk 186 60 = some (.ireturn, 61, 0, 0, .null) := by decide +kernel
theorem x_186_60 : Tr sc d 186 (60, [l0, l1, l2, l3, l4], [.int i0], h) Q = Q (some (.int i0), h) := t_ret k_186_60 (by rw [r_186]; rfl)
theorem e_186 : Tr sc d 186 (ent0 186 [.ref k0, .int i1] h) Q = Tr sc d 186 (0, [some (.ref k0), some (.int i1), none, none, none], [], h) Q := by
  have e : mL 186 = 5 := by decide +kernel
  unfold ent0
  rw [e]
  rfl
theorem r_187 : mR 187 = some .boolean := by decide +kernel
theorem k_187_0 : lk 187 0 = some (.aload_n 0, 1, 0, 0, .null) := by decide +kernel
theorem x_187_0 : Tr sc d 187 (0, [some (.ref xk), l1, l2, l3], [], h) Q = Tr sc d 187 (1, [some (.ref xk), l1, l2, l3], [.ref xk], h) Q := t_aload_n k_187_0 rfl
theorem k_187_1 : lk 187 1 = some (.getfield 35, 4, 10, 16, .null) := by decide +kernel
theorem x_187_1 : Tr sc d 187 (1, [l0, l1, l2, l3], [.ref k0], h) Q = (okp h k0 10 = true ∧ ∃ q, hR h k0 16 = some q ∧ Tr sc d 187 (4, [l0, l1, l2, l3], [.ref q], h) Q) := t_getr k_187_1
theorem k_187_4 : lk 187 4 = some (.iload_n 1, 5, 1, 0, .null) := by decide +kernel
theorem x_187_4 : Tr sc d 187 (4, [l0, some (.int x), l2, l3], [.ref k0], h) Q = Tr sc d 187 (5, [l0, some (.int x), l2, l3], [.int x, .ref k0], h) Q := t_iload_n k_187_4 rfl
theorem k_187_5 : lk 187 5 = some (.iaload, 6, 0, 0, .null) := by decide +kernel
theorem x_187_5 : Tr sc d 187 (5, [l0, l1, l2, l3], [.int i1, .ref k0], h) Q = (iOk sc h k0 i1 ∧ Tr sc d 187 (6, [l0, l1, l2, l3], [.int (iRd sc h k0 i1)], h) Q) := t_iald k_187_5
theorem k_187_6 : lk 187 6 = some (.iconst 4, 7, 0, 0, .int 4) := by decide +kernel
theorem x_187_6 : Tr sc d 187 (6, [l0, l1, l2, l3], [.int i0], h) Q = Tr sc d 187 (7, [l0, l1, l2, l3], [.int 4, .int i0], h) Q := t_go k_187_6 rfl
theorem k_187_7 : lk 187 7 = some (.if_icmp .ne 26, 10, 33, 0, .null) := by decide +kernel
theorem x_187_7 : Tr sc d 187 (7, [l0, l1, l2, l3], [.int i1, .int i0], h) Q = if i0 = i1 then Tr sc d 187 (10, [l0, l1, l2, l3], [], h) Q else Tr sc d 187 (33, [l0, l1, l2, l3], [], h) Q := t_if k_187_7 rfl
theorem k_187_10 : lk 187 10 = some (.aload_n 0, 11, 0, 0, .null) := by decide +kernel
theorem x_187_10 : Tr sc d 187 (10, [some (.ref xk), l1, l2, l3], [], h) Q = Tr sc d 187 (11, [some (.ref xk), l1, l2, l3], [.ref xk], h) Q := t_aload_n k_187_10 rfl
theorem k_187_11 : lk 187 11 = some (.getfield 53, 14, 10, 22, .null) := by decide +kernel
theorem x_187_11 : Tr sc d 187 (11, [l0, l1, l2, l3], [.ref k0], h) Q = (okp h k0 10 = true ∧ ∃ q, hR h k0 22 = some q ∧ Tr sc d 187 (14, [l0, l1, l2, l3], [.ref q], h) Q) := t_getr k_187_11
theorem k_187_14 : lk 187 14 = some (.bipush 6, 16, 0, 0, .int 6) := by decide +kernel
theorem x_187_14 : Tr sc d 187 (14, [l0, l1, l2, l3], [.ref k0], h) Q = Tr sc d 187 (16, [l0, l1, l2, l3], [.int 6, .ref k0], h) Q := t_go k_187_14 rfl
theorem k_187_16 : lk 187 16 = some (.iload_n 1, 17, 1, 0, .null) := by decide +kernel
theorem x_187_16 : Tr sc d 187 (16, [l0, some (.int x), l2, l3], [.int i1, .ref k0], h) Q = Tr sc d 187 (17, [l0, some (.int x), l2, l3], [.int x, .int i1, .ref k0], h) Q := t_iload_n k_187_16 rfl
theorem k_187_17 : lk 187 17 = some (.imul, 18, 0, 0, .null) := by decide +kernel
theorem x_187_17 : Tr sc d 187 (17, [l0, l1, l2, l3], [.int i2, .int i1, .ref k0], h) Q = Tr sc d 187 (18, [l0, l1, l2, l3], [.int (i1 * i2), .ref k0], h) Q := t_go k_187_17 rfl
theorem k_187_18 : lk 187 18 = some (.iload_n 2, 19, 2, 0, .null) := by decide +kernel
theorem x_187_18 : Tr sc d 187 (18, [l0, l1, some (.int x), l3], [.int i1, .ref k0], h) Q = Tr sc d 187 (19, [l0, l1, some (.int x), l3], [.int x, .int i1, .ref k0], h) Q := t_iload_n k_187_18 rfl
theorem k_187_19 : lk 187 19 = some (.iadd, 20, 0, 0, .null) := by decide +kernel
theorem x_187_19 : Tr sc d 187 (19, [l0, l1, l2, l3], [.int i2, .int i1, .ref k0], h) Q = Tr sc d 187 (20, [l0, l1, l2, l3], [.int (i1 + i2), .ref k0], h) Q := t_go k_187_19 rfl
theorem k_187_20 : lk 187 20 = some (.iaload, 21, 0, 0, .null) := by decide +kernel
theorem x_187_20 : Tr sc d 187 (20, [l0, l1, l2, l3], [.int i1, .ref k0], h) Q = (iOk sc h k0 i1 ∧ Tr sc d 187 (21, [l0, l1, l2, l3], [.int (iRd sc h k0 i1)], h) Q) := t_iald k_187_20
theorem k_187_21 : lk 187 21 = some (.iload_n 3, 22, 3, 0, .null) := by decide +kernel
theorem x_187_21 : Tr sc d 187 (21, [l0, l1, l2, some (.int x)], [.int i0], h) Q = Tr sc d 187 (22, [l0, l1, l2, some (.int x)], [.int x, .int i0], h) Q := t_iload_n k_187_21 rfl
theorem k_187_22 : lk 187 22 = some (.ishr, 23, 0, 0, .null) := by decide +kernel
theorem x_187_22 : Tr sc d 187 (22, [l0, l1, l2, l3], [.int i1, .int i0], h) Q = Tr sc d 187 (23, [l0, l1, l2, l3], [.int (i0 >>> (i1 &&& 31))], h) Q := t_go k_187_22 rfl
theorem k_187_23 : lk 187 23 = some (.iconst 1, 24, 0, 0, .int 1) := by decide +kernel
theorem x_187_23 : Tr sc d 187 (23, [l0, l1, l2, l3], [.int i0], h) Q = Tr sc d 187 (24, [l0, l1, l2, l3], [.int 1, .int i0], h) Q := t_go k_187_23 rfl
theorem k_187_24 : lk 187 24 = some (.iand, 25, 0, 0, .null) := by decide +kernel
theorem x_187_24 : Tr sc d 187 (24, [l0, l1, l2, l3], [.int i1, .int i0], h) Q = Tr sc d 187 (25, [l0, l1, l2, l3], [.int (i0 &&& i1)], h) Q := t_go k_187_24 rfl
theorem k_187_25 : lk 187 25 = some (.iconst 1, 26, 0, 0, .int 1) := by decide +kernel
theorem x_187_25 : Tr sc d 187 (25, [l0, l1, l2, l3], [.int i0], h) Q = Tr sc d 187 (26, [l0, l1, l2, l3], [.int 1, .int i0], h) Q := t_go k_187_25 rfl
theorem k_187_26 : lk 187 26 = some (.if_icmp .ne 7, 29, 33, 0, .null) := by decide +kernel
theorem x_187_26 : Tr sc d 187 (26, [l0, l1, l2, l3], [.int i1, .int i0], h) Q = if i0 = i1 then Tr sc d 187 (29, [l0, l1, l2, l3], [], h) Q else Tr sc d 187 (33, [l0, l1, l2, l3], [], h) Q := t_if k_187_26 rfl
theorem k_187_29 : lk 187 29 = some (.iconst 1, 30, 0, 0, .int 1) := by decide +kernel
theorem x_187_29 : Tr sc d 187 (29, [l0, l1, l2, l3], [], h) Q = Tr sc d 187 (30, [l0, l1, l2, l3], [.int 1], h) Q := t_go k_187_29 rfl
theorem k_187_30 : lk 187 30 = some (.goto 4, 33, 34, 0, .null) := by decide +kernel
theorem x_187_30 : Tr sc d 187 (30, [l0, l1, l2, l3], [.int i0], h) Q = Tr sc d 187 (34, [l0, l1, l2, l3], [.int i0], h) Q := t_go k_187_30 rfl
theorem k_187_33 : lk 187 33 = some (.iconst 0, 34, 0, 0, .int 0) := by decide +kernel
theorem x_187_33 : Tr sc d 187 (33, [l0, l1, l2, l3], [], h) Q = Tr sc d 187 (34, [l0, l1, l2, l3], [.int 0], h) Q := t_go k_187_33 rfl
theorem k_187_34 : lk 187 34 = some (.ireturn, 35, 0, 0, .null) := by decide +kernel
theorem x_187_34 : Tr sc d 187 (34, [l0, l1, l2, l3], [.int i0], h) Q = (vp_nar .boolean i0 = i0 ∧ Q (some (.int i0), h)) := t_zret k_187_34 r_187
theorem e_187 : Tr sc d 187 (ent0 187 [.ref k0, .int i1, .int i2, .int i3] h) Q = Tr sc d 187 (0, [some (.ref k0), some (.int i1), some (.int i2), some (.int i3)], [], h) Q := by
  have e : mL 187 = 4 := by decide +kernel
  unfold ent0
  rw [e]
  rfl
theorem r_188 : mR 188 = some .int := by decide +kernel
theorem k_188_0 : lk 188 0 = some (.aload_n 0, 1, 0, 0, .null) := by decide +kernel
theorem x_188_0 : Tr sc d 188 (0, [some (.ref xk), l1, l2, l3, l4], [], h) Q = Tr sc d 188 (1, [some (.ref xk), l1, l2, l3, l4], [.ref xk], h) Q := t_aload_n k_188_0 rfl
theorem k_188_1 : lk 188 1 = some (.iload_n 1, 2, 1, 0, .null) := by decide +kernel
theorem x_188_1 : Tr sc d 188 (1, [l0, some (.int x), l2, l3, l4], [.ref k0], h) Q = Tr sc d 188 (2, [l0, some (.int x), l2, l3, l4], [.int x, .ref k0], h) Q := t_iload_n k_188_1 rfl
theorem k_188_2 : lk 188 2 = some (.iload_n 2, 3, 2, 0, .null) := by decide +kernel
theorem x_188_2 : Tr sc d 188 (2, [l0, l1, some (.int x), l3, l4], [.int i1, .ref k0], h) Q = Tr sc d 188 (3, [l0, l1, some (.int x), l3, l4], [.int x, .int i1, .ref k0], h) Q := t_iload_n k_188_2 rfl
theorem k_188_3 : lk 188 3 = some (.iload_n 3, 4, 3, 0, .null) := by decide +kernel
theorem x_188_3 : Tr sc d 188 (3, [l0, l1, l2, some (.int x), l4], [.int i2, .int i1, .ref k0], h) Q = Tr sc d 188 (4, [l0, l1, l2, some (.int x), l4], [.int x, .int i2, .int i1, .ref k0], h) Q := t_iload_n k_188_3 rfl
theorem k_188_4 : lk 188 4 = some (.iconst 1, 5, 0, 0, .int 1) := by decide +kernel
theorem x_188_4 : Tr sc d 188 (4, [l0, l1, l2, l3, l4], [.int i3, .int i2, .int i1, .ref k0], h) Q = Tr sc d 188 (5, [l0, l1, l2, l3, l4], [.int 1, .int i3, .int i2, .int i1, .ref k0], h) Q := t_go k_188_4 rfl
theorem k_188_5 : lk 188 5 = some (.bipush 99, 7, 0, 0, .int 99) := by decide +kernel
theorem x_188_5 : Tr sc d 188 (5, [l0, l1, l2, l3, l4], [.int i4, .int i3, .int i2, .int i1, .ref k0], h) Q = Tr sc d 188 (7, [l0, l1, l2, l3, l4], [.int 99, .int i4, .int i3, .int i2, .int i1, .ref k0], h) Q := t_go k_188_5 rfl
theorem k_188_7 : lk 188 7 = some (.invokevirtual 206, 10, 183, 5, .null) := by decide +kernel
theorem x_188_7 : Tr sc (d + 1) 188 (7, [l0, l1, l2, l3, l4], [.int i5, .int i4, .int i3, .int i2, .int i1, .ref k0], h) Q = (okp h k0 10 = true ∧ Tr sc d 183 (ent0 183 [.ref k0, .int i1, .int i2, .int i3, .int i4, .int i5] h) (fun z => Tr sc (d + 1) 188 (10, [l0, l1, l2, l3, l4], z.1.toList ++ [], z.2) Q)) := t_cv (as := [.int i1, .int i2, .int i3, .int i4, .int i5]) (r := []) k_188_7 rfl rfl (Nat.le_of_ble_eq_true rfl) (Nat.le_of_ble_eq_true rfl) (Nat.le_of_ble_eq_true rfl)
theorem k_188_10 : lk 188 10 = some (.istore 4, 12, 4, 0, .null) := by decide +kernel
theorem x_188_10 : Tr sc d 188 (10, [l0, l1, l2, l3, l4], [.int i0], h) Q = Tr sc d 188 (12, [l0, l1, l2, cl2 l3, some (.int i0)], [], h) Q := t_istore k_188_10 (Nat.le_of_ble_eq_true rfl)
theorem k_188_12 : lk 188 12 = some (.iload 4, 14, 4, 0, .null) := by decide +kernel
theorem x_188_12 : Tr sc d 188 (12, [l0, l1, l2, l3, some (.int x)], [], h) Q = Tr sc d 188 (14, [l0, l1, l2, l3, some (.int x)], [.int x], h) Q := t_iload k_188_12 rfl
theorem k_188_14 : lk 188 14 = some (.ifCond .ge 6, 17, 20, 0, .null) := by decide +kernel
theorem x_188_14 : Tr sc d 188 (14, [l0, l1, l2, l3, l4], [.int i0], h) Q = if 0 ≤ i0 then Tr sc d 188 (20, [l0, l1, l2, l3, l4], [], h) Q else Tr sc d 188 (17, [l0, l1, l2, l3, l4], [], h) Q := t_if k_188_14 rfl
theorem k_188_17 : lk 188 17 = some (.iload 4, 19, 4, 0, .null) := by decide +kernel
theorem x_188_17 : Tr sc d 188 (17, [l0, l1, l2, l3, some (.int x)], [], h) Q = Tr sc d 188 (19, [l0, l1, l2, l3, some (.int x)], [.int x], h) Q := t_iload k_188_17 rfl
theorem k_188_19 : lk 188 19 = some (.ireturn, 20, 0, 0, .null) := by decide +kernel
theorem x_188_19 : Tr sc d 188 (19, [l0, l1, l2, l3, l4], [.int i0], h) Q = Q (some (.int i0), h) := t_ret k_188_19 (by rw [r_188]; rfl)
theorem k_188_20 : lk 188 20 = some (.aload_n 0, 21, 0, 0, .null) := by decide +kernel
theorem x_188_20 : Tr sc d 188 (20, [some (.ref xk), l1, l2, l3, l4], [], h) Q = Tr sc d 188 (21, [some (.ref xk), l1, l2, l3, l4], [.ref xk], h) Q := t_aload_n k_188_20 rfl
theorem k_188_21 : lk 188 21 = some (.iload_n 1, 22, 1, 0, .null) := by decide +kernel
theorem x_188_21 : Tr sc d 188 (21, [l0, some (.int x), l2, l3, l4], [.ref k0], h) Q = Tr sc d 188 (22, [l0, some (.int x), l2, l3, l4], [.int x, .ref k0], h) Q := t_iload_n k_188_21 rfl
theorem k_188_22 : lk 188 22 = some (.iload_n 2, 23, 2, 0, .null) := by decide +kernel
theorem x_188_22 : Tr sc d 188 (22, [l0, l1, some (.int x), l3, l4], [.int i1, .ref k0], h) Q = Tr sc d 188 (23, [l0, l1, some (.int x), l3, l4], [.int x, .int i1, .ref k0], h) Q := t_iload_n k_188_22 rfl
theorem k_188_23 : lk 188 23 = some (.iload_n 3, 24, 3, 0, .null) := by decide +kernel
theorem x_188_23 : Tr sc d 188 (23, [l0, l1, l2, some (.int x), l4], [.int i2, .int i1, .ref k0], h) Q = Tr sc d 188 (24, [l0, l1, l2, some (.int x), l4], [.int x, .int i2, .int i1, .ref k0], h) Q := t_iload_n k_188_23 rfl
theorem k_188_24 : lk 188 24 = some (.iconst 3, 25, 0, 0, .int 3) := by decide +kernel
theorem x_188_24 : Tr sc d 188 (24, [l0, l1, l2, l3, l4], [.int i3, .int i2, .int i1, .ref k0], h) Q = Tr sc d 188 (25, [l0, l1, l2, l3, l4], [.int 3, .int i3, .int i2, .int i1, .ref k0], h) Q := t_go k_188_24 rfl
theorem k_188_25 : lk 188 25 = some (.invokevirtual 210, 28, 184, 4, .null) := by decide +kernel
theorem x_188_25 : Tr sc (d + 1) 188 (25, [l0, l1, l2, l3, l4], [.int i4, .int i3, .int i2, .int i1, .ref k0], h) Q = (okp h k0 10 = true ∧ Tr sc d 184 (ent0 184 [.ref k0, .int i1, .int i2, .int i3, .int i4] h) (fun z => Tr sc (d + 1) 188 (28, [l0, l1, l2, l3, l4], z.1.toList ++ [], z.2) Q)) := t_cv (as := [.int i1, .int i2, .int i3, .int i4]) (r := []) k_188_25 rfl rfl (Nat.le_of_ble_eq_true rfl) (Nat.le_of_ble_eq_true rfl) (Nat.le_of_ble_eq_true rfl)
theorem k_188_28 : lk 188 28 = some (.aload_n 0, 29, 0, 0, .null) := by decide +kernel
theorem x_188_28 : Tr sc d 188 (28, [some (.ref xk), l1, l2, l3, l4], [], h) Q = Tr sc d 188 (29, [some (.ref xk), l1, l2, l3, l4], [.ref xk], h) Q := t_aload_n k_188_28 rfl
theorem k_188_29 : lk 188 29 = some (.iload_n 1, 30, 1, 0, .null) := by decide +kernel
theorem x_188_29 : Tr sc d 188 (29, [l0, some (.int x), l2, l3, l4], [.ref k0], h) Q = Tr sc d 188 (30, [l0, some (.int x), l2, l3, l4], [.int x, .ref k0], h) Q := t_iload_n k_188_29 rfl
theorem k_188_30 : lk 188 30 = some (.invokevirtual 214, 33, 185, 1, .null) := by decide +kernel
theorem x_188_30 : Tr sc (d + 1) 188 (30, [l0, l1, l2, l3, l4], [.int i1, .ref k0], h) Q = (okp h k0 10 = true ∧ Tr sc d 185 (ent0 185 [.ref k0, .int i1] h) (fun z => Tr sc (d + 1) 188 (33, [l0, l1, l2, l3, l4], z.1.toList ++ [], z.2) Q)) := t_cv (as := [.int i1]) (r := []) k_188_30 rfl rfl (Nat.le_of_ble_eq_true rfl) (Nat.le_of_ble_eq_true rfl) (Nat.le_of_ble_eq_true rfl)
theorem k_188_33 : lk 188 33 = some (.ireturn, 34, 0, 0, .null) := by decide +kernel
theorem x_188_33 : Tr sc d 188 (33, [l0, l1, l2, l3, l4], [.int i0], h) Q = Q (some (.int i0), h) := t_ret k_188_33 (by rw [r_188]; rfl)
theorem e_188 : Tr sc d 188 (ent0 188 [.ref k0, .int i1, .int i2, .int i3] h) Q = Tr sc d 188 (0, [some (.ref k0), some (.int i1), some (.int i2), some (.int i3), none], [], h) Q := by
  have e : mL 188 = 5 := by decide +kernel
  unfold ent0
  rw [e]
  rfl
theorem r_189 : mR 189 = some .int := by decide +kernel
theorem k_189_0 : lk 189 0 = some (.aload_n 0, 1, 0, 0, .null) := by decide +kernel
theorem x_189_0 : Tr sc d 189 (0, [some (.ref xk), l1, l2, l3, l4], [], h) Q = Tr sc d 189 (1, [some (.ref xk), l1, l2, l3, l4], [.ref xk], h) Q := t_aload_n k_189_0 rfl
theorem k_189_1 : lk 189 1 = some (.iload_n 1, 2, 1, 0, .null) := by decide +kernel
theorem x_189_1 : Tr sc d 189 (1, [l0, some (.int x), l2, l3, l4], [.ref k0], h) Q = Tr sc d 189 (2, [l0, some (.int x), l2, l3, l4], [.int x, .ref k0], h) Q := t_iload_n k_189_1 rfl
theorem k_189_2 : lk 189 2 = some (.iload_n 2, 3, 2, 0, .null) := by decide +kernel
theorem x_189_2 : Tr sc d 189 (2, [l0, l1, some (.int x), l3, l4], [.int i1, .ref k0], h) Q = Tr sc d 189 (3, [l0, l1, some (.int x), l3, l4], [.int x, .int i1, .ref k0], h) Q := t_iload_n k_189_2 rfl
theorem k_189_3 : lk 189 3 = some (.iload_n 3, 4, 3, 0, .null) := by decide +kernel
theorem x_189_3 : Tr sc d 189 (3, [l0, l1, l2, some (.int x), l4], [.int i2, .int i1, .ref k0], h) Q = Tr sc d 189 (4, [l0, l1, l2, some (.int x), l4], [.int x, .int i2, .int i1, .ref k0], h) Q := t_iload_n k_189_3 rfl
theorem k_189_4 : lk 189 4 = some (.iconst 0, 5, 0, 0, .int 0) := by decide +kernel
theorem x_189_4 : Tr sc d 189 (4, [l0, l1, l2, l3, l4], [.int i3, .int i2, .int i1, .ref k0], h) Q = Tr sc d 189 (5, [l0, l1, l2, l3, l4], [.int 0, .int i3, .int i2, .int i1, .ref k0], h) Q := t_go k_189_4 rfl
theorem k_189_5 : lk 189 5 = some (.iconst (-1), 6, 0, 0, .int (-1)) := by decide +kernel
theorem x_189_5 : Tr sc d 189 (5, [l0, l1, l2, l3, l4], [.int i4, .int i3, .int i2, .int i1, .ref k0], h) Q = Tr sc d 189 (6, [l0, l1, l2, l3, l4], [.int (-1), .int i4, .int i3, .int i2, .int i1, .ref k0], h) Q := t_go k_189_5 rfl
theorem k_189_6 : lk 189 6 = some (.invokevirtual 206, 9, 183, 5, .null) := by decide +kernel
theorem x_189_6 : Tr sc (d + 1) 189 (6, [l0, l1, l2, l3, l4], [.int i5, .int i4, .int i3, .int i2, .int i1, .ref k0], h) Q = (okp h k0 10 = true ∧ Tr sc d 183 (ent0 183 [.ref k0, .int i1, .int i2, .int i3, .int i4, .int i5] h) (fun z => Tr sc (d + 1) 189 (9, [l0, l1, l2, l3, l4], z.1.toList ++ [], z.2) Q)) := t_cv (as := [.int i1, .int i2, .int i3, .int i4, .int i5]) (r := []) k_189_6 rfl rfl (Nat.le_of_ble_eq_true rfl) (Nat.le_of_ble_eq_true rfl) (Nat.le_of_ble_eq_true rfl)
theorem k_189_9 : lk 189 9 = some (.istore 4, 11, 4, 0, .null) := by decide +kernel
theorem x_189_9 : Tr sc d 189 (9, [l0, l1, l2, l3, l4], [.int i0], h) Q = Tr sc d 189 (11, [l0, l1, l2, cl2 l3, some (.int i0)], [], h) Q := t_istore k_189_9 (Nat.le_of_ble_eq_true rfl)
theorem k_189_11 : lk 189 11 = some (.iload 4, 13, 4, 0, .null) := by decide +kernel
theorem x_189_11 : Tr sc d 189 (11, [l0, l1, l2, l3, some (.int x)], [], h) Q = Tr sc d 189 (13, [l0, l1, l2, l3, some (.int x)], [.int x], h) Q := t_iload k_189_11 rfl
theorem k_189_13 : lk 189 13 = some (.ifCond .ge 6, 16, 19, 0, .null) := by decide +kernel
theorem x_189_13 : Tr sc d 189 (13, [l0, l1, l2, l3, l4], [.int i0], h) Q = if 0 ≤ i0 then Tr sc d 189 (19, [l0, l1, l2, l3, l4], [], h) Q else Tr sc d 189 (16, [l0, l1, l2, l3, l4], [], h) Q := t_if k_189_13 rfl
theorem k_189_16 : lk 189 16 = some (.iload 4, 18, 4, 0, .null) := by decide +kernel
theorem x_189_16 : Tr sc d 189 (16, [l0, l1, l2, l3, some (.int x)], [], h) Q = Tr sc d 189 (18, [l0, l1, l2, l3, some (.int x)], [.int x], h) Q := t_iload k_189_16 rfl
theorem k_189_18 : lk 189 18 = some (.ireturn, 19, 0, 0, .null) := by decide +kernel
theorem x_189_18 : Tr sc d 189 (18, [l0, l1, l2, l3, l4], [.int i0], h) Q = Q (some (.int i0), h) := t_ret k_189_18 (by rw [r_189]; rfl)
theorem k_189_19 : lk 189 19 = some (.aload_n 0, 20, 0, 0, .null) := by decide +kernel
theorem x_189_19 : Tr sc d 189 (19, [some (.ref xk), l1, l2, l3, l4], [], h) Q = Tr sc d 189 (20, [some (.ref xk), l1, l2, l3, l4], [.ref xk], h) Q := t_aload_n k_189_19 rfl
theorem k_189_20 : lk 189 20 = some (.iload_n 1, 21, 1, 0, .null) := by decide +kernel
theorem x_189_20 : Tr sc d 189 (20, [l0, some (.int x), l2, l3, l4], [.ref k0], h) Q = Tr sc d 189 (21, [l0, some (.int x), l2, l3, l4], [.int x, .ref k0], h) Q := t_iload_n k_189_20 rfl
theorem k_189_21 : lk 189 21 = some (.iload_n 2, 22, 2, 0, .null) := by decide +kernel
theorem x_189_21 : Tr sc d 189 (21, [l0, l1, some (.int x), l3, l4], [.int i1, .ref k0], h) Q = Tr sc d 189 (22, [l0, l1, some (.int x), l3, l4], [.int x, .int i1, .ref k0], h) Q := t_iload_n k_189_21 rfl
theorem k_189_22 : lk 189 22 = some (.iload_n 3, 23, 3, 0, .null) := by decide +kernel
theorem x_189_22 : Tr sc d 189 (22, [l0, l1, l2, some (.int x), l4], [.int i2, .int i1, .ref k0], h) Q = Tr sc d 189 (23, [l0, l1, l2, some (.int x), l4], [.int x, .int i2, .int i1, .ref k0], h) Q := t_iload_n k_189_22 rfl
theorem k_189_23 : lk 189 23 = some (.iconst 4, 24, 0, 0, .int 4) := by decide +kernel
theorem x_189_23 : Tr sc d 189 (23, [l0, l1, l2, l3, l4], [.int i3, .int i2, .int i1, .ref k0], h) Q = Tr sc d 189 (24, [l0, l1, l2, l3, l4], [.int 4, .int i3, .int i2, .int i1, .ref k0], h) Q := t_go k_189_23 rfl
theorem k_189_24 : lk 189 24 = some (.invokevirtual 210, 27, 184, 4, .null) := by decide +kernel
theorem x_189_24 : Tr sc (d + 1) 189 (24, [l0, l1, l2, l3, l4], [.int i4, .int i3, .int i2, .int i1, .ref k0], h) Q = (okp h k0 10 = true ∧ Tr sc d 184 (ent0 184 [.ref k0, .int i1, .int i2, .int i3, .int i4] h) (fun z => Tr sc (d + 1) 189 (27, [l0, l1, l2, l3, l4], z.1.toList ++ [], z.2) Q)) := t_cv (as := [.int i1, .int i2, .int i3, .int i4]) (r := []) k_189_24 rfl rfl (Nat.le_of_ble_eq_true rfl) (Nat.le_of_ble_eq_true rfl) (Nat.le_of_ble_eq_true rfl)
theorem k_189_27 : lk 189 27 = some (.aload_n 0, 28, 0, 0, .null) := by decide +kernel
theorem x_189_27 : Tr sc d 189 (27, [some (.ref xk), l1, l2, l3, l4], [], h) Q = Tr sc d 189 (28, [some (.ref xk), l1, l2, l3, l4], [.ref xk], h) Q := t_aload_n k_189_27 rfl
theorem k_189_28 : lk 189 28 = some (.iload_n 1, 29, 1, 0, .null) := by decide +kernel
theorem x_189_28 : Tr sc d 189 (28, [l0, some (.int x), l2, l3, l4], [.ref k0], h) Q = Tr sc d 189 (29, [l0, some (.int x), l2, l3, l4], [.int x, .ref k0], h) Q := t_iload_n k_189_28 rfl
theorem k_189_29 : lk 189 29 = some (.invokevirtual 217, 32, 186, 1, .null) := by decide +kernel
theorem x_189_29 : Tr sc (d + 1) 189 (29, [l0, l1, l2, l3, l4], [.int i1, .ref k0], h) Q = (okp h k0 10 = true ∧ Tr sc d 186 (ent0 186 [.ref k0, .int i1] h) (fun z => Tr sc (d + 1) 189 (32, [l0, l1, l2, l3, l4], z.1.toList ++ [], z.2) Q)) := t_cv (as := [.int i1]) (r := []) k_189_29 rfl rfl (Nat.le_of_ble_eq_true rfl) (Nat.le_of_ble_eq_true rfl) (Nat.le_of_ble_eq_true rfl)
theorem k_189_32 : lk 189 32 = some (.ireturn, 33, 0, 0, .null) := by decide +kernel
theorem x_189_32 : Tr sc d 189 (32, [l0, l1, l2, l3, l4], [.int i0], h) Q = Q (some (.int i0), h) := t_ret k_189_32 (by rw [r_189]; rfl)
theorem e_189 : Tr sc d 189 (ent0 189 [.ref k0, .int i1, .int i2, .int i3] h) Q = Tr sc d 189 (0, [some (.ref k0), some (.int i1), some (.int i2), some (.int i3), none], [], h) Q := by
  have e : mL 189 = 5 := by decide +kernel
  unfold ent0
  rw [e]
  rfl
theorem r_190 : mR 190 = some .int := by decide +kernel
theorem k_190_0 : lk 190 0 = some (.iload_n 1, 1, 1, 0, .null) := by decide +kernel
theorem x_190_0 : Tr sc d 190 (0, [l0, some (.int x), l2, l3, l4, l5, l6, l7, l8], [], h) Q = Tr sc d 190 (1, [l0, some (.int x), l2, l3, l4, l5, l6, l7, l8], [.int x], h) Q := t_iload_n k_190_0 rfl
theorem k_190_1 : lk 190 1 = some (.invokestatic 190, 4, 176, 1, .null) := by decide +kernel
theorem x_190_1 : Tr sc (d + 1) 190 (1, [l0, l1, l2, l3, l4, l5, l6, l7, l8], [.int i0], h) Q = Tr sc d 176 (ent0 176 [.int i0] h) (fun z => Tr sc (d + 1) 190 (4, [l0, l1, l2, l3, l4, l5, l6, l7, l8], z.1.toList ++ [], z.2) Q) := t_cs (as := [.int i0]) (r := []) k_190_1 (by decide) rfl rfl (Nat.le_of_ble_eq_true rfl) (Nat.le_of_ble_eq_true rfl)
theorem k_190_4 : lk 190 4 = some (.ifCond .eq 10, 7, 14, 0, .null) := by decide +kernel
theorem x_190_4 : Tr sc d 190 (4, [l0, l1, l2, l3, l4, l5, l6, l7, l8], [.int i0], h) Q = if i0 = 0 then Tr sc d 190 (14, [l0, l1, l2, l3, l4, l5, l6, l7, l8], [], h) Q else Tr sc d 190 (7, [l0, l1, l2, l3, l4, l5, l6, l7, l8], [], h) Q := t_if k_190_4 rfl
theorem k_190_7 : lk 190 7 = some (.iload_n 2, 8, 2, 0, .null) := by decide +kernel
theorem x_190_7 : Tr sc d 190 (7, [l0, l1, some (.int x), l3, l4, l5, l6, l7, l8], [], h) Q = Tr sc d 190 (8, [l0, l1, some (.int x), l3, l4, l5, l6, l7, l8], [.int x], h) Q := t_iload_n k_190_7 rfl
theorem k_190_8 : lk 190 8 = some (.invokestatic 148, 11, 161, 1, .null) := by decide +kernel
theorem x_190_8 : Tr sc (d + 1) 190 (8, [l0, l1, l2, l3, l4, l5, l6, l7, l8], [.int i0], h) Q = Tr sc d 161 (ent0 161 [.int i0] h) (fun z => Tr sc (d + 1) 190 (11, [l0, l1, l2, l3, l4, l5, l6, l7, l8], z.1.toList ++ [], z.2) Q) := t_cs (as := [.int i0]) (r := []) k_190_8 (by decide) rfl rfl (Nat.le_of_ble_eq_true rfl) (Nat.le_of_ble_eq_true rfl)
theorem k_190_11 : lk 190 11 = some (.ifCond .ne 5, 14, 16, 0, .null) := by decide +kernel
theorem x_190_11 : Tr sc d 190 (11, [l0, l1, l2, l3, l4, l5, l6, l7, l8], [.int i0], h) Q = if i0 = 0 then Tr sc d 190 (14, [l0, l1, l2, l3, l4, l5, l6, l7, l8], [], h) Q else Tr sc d 190 (16, [l0, l1, l2, l3, l4, l5, l6, l7, l8], [], h) Q := t_if k_190_11 rfl
theorem k_190_14 : lk 190 14 = some (.iconst (-1), 15, 0, 0, .int (-1)) := by decide +kernel
theorem x_190_14 : Tr sc d 190 (14, [l0, l1, l2, l3, l4, l5, l6, l7, l8], [], h) Q = Tr sc d 190 (15, [l0, l1, l2, l3, l4, l5, l6, l7, l8], [.int (-1)], h) Q := t_go k_190_14 rfl
theorem k_190_15 : lk 190 15 = some (.ireturn, 16, 0, 0, .null) := by decide +kernel
theorem x_190_15 : Tr sc d 190 (15, [l0, l1, l2, l3, l4, l5, l6, l7, l8], [.int i0], h) Q = Q (some (.int i0), h) := t_ret k_190_15 (by rw [r_190]; rfl)
theorem k_190_16 : lk 190 16 = some (.aload_n 0, 17, 0, 0, .null) := by decide +kernel
theorem x_190_16 : Tr sc d 190 (16, [some (.ref xk), l1, l2, l3, l4, l5, l6, l7, l8], [], h) Q = Tr sc d 190 (17, [some (.ref xk), l1, l2, l3, l4, l5, l6, l7, l8], [.ref xk], h) Q := t_aload_n k_190_16 rfl
theorem k_190_17 : lk 190 17 = some (.getfield 17, 20, 10, 6, .null) := by decide +kernel
theorem x_190_17 : Tr sc d 190 (17, [l0, l1, l2, l3, l4, l5, l6, l7, l8], [.ref k0], h) Q = (okp h k0 10 = true ∧ ∃ q, hR h k0 6 = some q ∧ Tr sc d 190 (20, [l0, l1, l2, l3, l4, l5, l6, l7, l8], [.ref q], h) Q) := t_getr k_190_17
theorem k_190_20 : lk 190 20 = some (.iload_n 2, 21, 2, 0, .null) := by decide +kernel
theorem x_190_20 : Tr sc d 190 (20, [l0, l1, some (.int x), l3, l4, l5, l6, l7, l8], [.ref k0], h) Q = Tr sc d 190 (21, [l0, l1, some (.int x), l3, l4, l5, l6, l7, l8], [.int x, .ref k0], h) Q := t_iload_n k_190_20 rfl
theorem k_190_21 : lk 190 21 = some (.iaload, 22, 0, 0, .null) := by decide +kernel
theorem x_190_21 : Tr sc d 190 (21, [l0, l1, l2, l3, l4, l5, l6, l7, l8], [.int i1, .ref k0], h) Q = (iOk sc h k0 i1 ∧ Tr sc d 190 (22, [l0, l1, l2, l3, l4, l5, l6, l7, l8], [.int (iRd sc h k0 i1)], h) Q) := t_iald k_190_21
theorem k_190_22 : lk 190 22 = some (.ifCond .ge 9, 25, 31, 0, .null) := by decide +kernel
theorem x_190_22 : Tr sc d 190 (22, [l0, l1, l2, l3, l4, l5, l6, l7, l8], [.int i0], h) Q = if 0 ≤ i0 then Tr sc d 190 (31, [l0, l1, l2, l3, l4, l5, l6, l7, l8], [], h) Q else Tr sc d 190 (25, [l0, l1, l2, l3, l4, l5, l6, l7, l8], [], h) Q := t_if k_190_22 rfl
theorem k_190_25 : lk 190 25 = some (.aload_n 0, 26, 0, 0, .null) := by decide +kernel
theorem x_190_25 : Tr sc d 190 (25, [some (.ref xk), l1, l2, l3, l4, l5, l6, l7, l8], [], h) Q = Tr sc d 190 (26, [some (.ref xk), l1, l2, l3, l4, l5, l6, l7, l8], [.ref xk], h) Q := t_aload_n k_190_25 rfl
theorem k_190_26 : lk 190 26 = some (.iconst 1, 27, 0, 0, .int 1) := by decide +kernel
theorem x_190_26 : Tr sc d 190 (26, [l0, l1, l2, l3, l4, l5, l6, l7, l8], [.ref k0], h) Q = Tr sc d 190 (27, [l0, l1, l2, l3, l4, l5, l6, l7, l8], [.int 1, .ref k0], h) Q := t_go k_190_26 rfl
theorem k_190_27 : lk 190 27 = some (.invokevirtual 152, 30, 158, 1, .null) := by decide +kernel
theorem x_190_27 : Tr sc (d + 1) 190 (27, [l0, l1, l2, l3, l4, l5, l6, l7, l8], [.int i1, .ref k0], h) Q = (okp h k0 10 = true ∧ Tr sc d 158 (ent0 158 [.ref k0, .int i1] h) (fun z => Tr sc (d + 1) 190 (30, [l0, l1, l2, l3, l4, l5, l6, l7, l8], z.1.toList ++ [], z.2) Q)) := t_cv (as := [.int i1]) (r := []) k_190_27 rfl rfl (Nat.le_of_ble_eq_true rfl) (Nat.le_of_ble_eq_true rfl) (Nat.le_of_ble_eq_true rfl)
theorem k_190_30 : lk 190 30 = some (.ireturn, 31, 0, 0, .null) := by decide +kernel
theorem x_190_30 : Tr sc d 190 (30, [l0, l1, l2, l3, l4, l5, l6, l7, l8], [.int i0], h) Q = Q (some (.int i0), h) := t_ret k_190_30 (by rw [r_190]; rfl)
theorem k_190_31 : lk 190 31 = some (.aload_n 0, 32, 0, 0, .null) := by decide +kernel
theorem x_190_31 : Tr sc d 190 (31, [some (.ref xk), l1, l2, l3, l4, l5, l6, l7, l8], [], h) Q = Tr sc d 190 (32, [some (.ref xk), l1, l2, l3, l4, l5, l6, l7, l8], [.ref xk], h) Q := t_aload_n k_190_31 rfl
theorem k_190_32 : lk 190 32 = some (.getfield 17, 35, 10, 6, .null) := by decide +kernel
theorem x_190_32 : Tr sc d 190 (32, [l0, l1, l2, l3, l4, l5, l6, l7, l8], [.ref k0], h) Q = (okp h k0 10 = true ∧ ∃ q, hR h k0 6 = some q ∧ Tr sc d 190 (35, [l0, l1, l2, l3, l4, l5, l6, l7, l8], [.ref q], h) Q) := t_getr k_190_32
theorem k_190_35 : lk 190 35 = some (.iload_n 2, 36, 2, 0, .null) := by decide +kernel
theorem x_190_35 : Tr sc d 190 (35, [l0, l1, some (.int x), l3, l4, l5, l6, l7, l8], [.ref k0], h) Q = Tr sc d 190 (36, [l0, l1, some (.int x), l3, l4, l5, l6, l7, l8], [.int x, .ref k0], h) Q := t_iload_n k_190_35 rfl
theorem k_190_36 : lk 190 36 = some (.iaload, 37, 0, 0, .null) := by decide +kernel
theorem x_190_36 : Tr sc d 190 (36, [l0, l1, l2, l3, l4, l5, l6, l7, l8], [.int i1, .ref k0], h) Q = (iOk sc h k0 i1 ∧ Tr sc d 190 (37, [l0, l1, l2, l3, l4, l5, l6, l7, l8], [.int (iRd sc h k0 i1)], h) Q) := t_iald k_190_36
theorem k_190_37 : lk 190 37 = some (.istore_n 3, 38, 3, 0, .null) := by decide +kernel
theorem x_190_37 : Tr sc d 190 (37, [l0, l1, l2, l3, l4, l5, l6, l7, l8], [.int i0], h) Q = Tr sc d 190 (38, [l0, l1, cl2 l2, some (.int i0), l4, l5, l6, l7, l8], [], h) Q := t_istore_n k_190_37 (Nat.le_of_ble_eq_true rfl)
theorem k_190_38 : lk 190 38 = some (.iload_n 3, 39, 3, 0, .null) := by decide +kernel
theorem x_190_38 : Tr sc d 190 (38, [l0, l1, l2, some (.int x), l4, l5, l6, l7, l8], [], h) Q = Tr sc d 190 (39, [l0, l1, l2, some (.int x), l4, l5, l6, l7, l8], [.int x], h) Q := t_iload_n k_190_38 rfl
theorem k_190_39 : lk 190 39 = some (.iconst 2, 40, 0, 0, .int 2) := by decide +kernel
theorem x_190_39 : Tr sc d 190 (39, [l0, l1, l2, l3, l4, l5, l6, l7, l8], [.int i0], h) Q = Tr sc d 190 (40, [l0, l1, l2, l3, l4, l5, l6, l7, l8], [.int 2, .int i0], h) Q := t_go k_190_39 rfl
theorem k_190_40 : lk 190 40 = some (.iconst 4, 41, 0, 0, .int 4) := by decide +kernel
theorem x_190_40 : Tr sc d 190 (40, [l0, l1, l2, l3, l4, l5, l6, l7, l8], [.int i1, .int i0], h) Q = Tr sc d 190 (41, [l0, l1, l2, l3, l4, l5, l6, l7, l8], [.int 4, .int i1, .int i0], h) Q := t_go k_190_40 rfl
theorem k_190_41 : lk 190 41 = some (.invokestatic 144, 44, 157, 3, .null) := by decide +kernel
theorem x_190_41 : Tr sc (d + 1) 190 (41, [l0, l1, l2, l3, l4, l5, l6, l7, l8], [.int i2, .int i1, .int i0], h) Q = Tr sc d 157 (ent0 157 [.int i0, .int i1, .int i2] h) (fun z => Tr sc (d + 1) 190 (44, [l0, l1, l2, l3, l4, l5, l6, l7, l8], z.1.toList ++ [], z.2) Q) := t_cs (as := [.int i0, .int i1, .int i2]) (r := []) k_190_41 (by decide) rfl rfl (Nat.le_of_ble_eq_true rfl) (Nat.le_of_ble_eq_true rfl)
theorem k_190_44 : lk 190 44 = some (.ifCond .ne 9, 47, 53, 0, .null) := by decide +kernel
theorem x_190_44 : Tr sc d 190 (44, [l0, l1, l2, l3, l4, l5, l6, l7, l8], [.int i0], h) Q = if i0 = 0 then Tr sc d 190 (47, [l0, l1, l2, l3, l4, l5, l6, l7, l8], [], h) Q else Tr sc d 190 (53, [l0, l1, l2, l3, l4, l5, l6, l7, l8], [], h) Q := t_if k_190_44 rfl
theorem k_190_47 : lk 190 47 = some (.aload_n 0, 48, 0, 0, .null) := by decide +kernel
theorem x_190_47 : Tr sc d 190 (47, [some (.ref xk), l1, l2, l3, l4, l5, l6, l7, l8], [], h) Q = Tr sc d 190 (48, [some (.ref xk), l1, l2, l3, l4, l5, l6, l7, l8], [.ref xk], h) Q := t_aload_n k_190_47 rfl
theorem k_190_48 : lk 190 48 = some (.iconst 5, 49, 0, 0, .int 5) := by decide +kernel
theorem x_190_48 : Tr sc d 190 (48, [l0, l1, l2, l3, l4, l5, l6, l7, l8], [.ref k0], h) Q = Tr sc d 190 (49, [l0, l1, l2, l3, l4, l5, l6, l7, l8], [.int 5, .ref k0], h) Q := t_go k_190_48 rfl
theorem k_190_49 : lk 190 49 = some (.invokevirtual 152, 52, 158, 1, .null) := by decide +kernel
theorem x_190_49 : Tr sc (d + 1) 190 (49, [l0, l1, l2, l3, l4, l5, l6, l7, l8], [.int i1, .ref k0], h) Q = (okp h k0 10 = true ∧ Tr sc d 158 (ent0 158 [.ref k0, .int i1] h) (fun z => Tr sc (d + 1) 190 (52, [l0, l1, l2, l3, l4, l5, l6, l7, l8], z.1.toList ++ [], z.2) Q)) := t_cv (as := [.int i1]) (r := []) k_190_49 rfl rfl (Nat.le_of_ble_eq_true rfl) (Nat.le_of_ble_eq_true rfl) (Nat.le_of_ble_eq_true rfl)
theorem k_190_52 : lk 190 52 = some (.ireturn, 53, 0, 0, .null) := by decide +kernel
theorem x_190_52 : Tr sc d 190 (52, [l0, l1, l2, l3, l4, l5, l6, l7, l8], [.int i0], h) Q = Q (some (.int i0), h) := t_ret k_190_52 (by rw [r_190]; rfl)
theorem k_190_53 : lk 190 53 = some (.iconst 1, 54, 0, 0, .int 1) := by decide +kernel
theorem x_190_53 : Tr sc d 190 (53, [l0, l1, l2, l3, l4, l5, l6, l7, l8], [], h) Q = Tr sc d 190 (54, [l0, l1, l2, l3, l4, l5, l6, l7, l8], [.int 1], h) Q := t_go k_190_53 rfl
theorem k_190_54 : lk 190 54 = some (.istore 4, 56, 4, 0, .null) := by decide +kernel
theorem x_190_54 : Tr sc d 190 (54, [l0, l1, l2, l3, l4, l5, l6, l7, l8], [.int i0], h) Q = Tr sc d 190 (56, [l0, l1, l2, cl2 l3, some (.int i0), l5, l6, l7, l8], [], h) Q := t_istore k_190_54 (Nat.le_of_ble_eq_true rfl)
theorem k_190_56 : lk 190 56 = some (.iconst 0, 57, 0, 0, .int 0) := by decide +kernel
theorem x_190_56 : Tr sc d 190 (56, [l0, l1, l2, l3, l4, l5, l6, l7, l8], [], h) Q = Tr sc d 190 (57, [l0, l1, l2, l3, l4, l5, l6, l7, l8], [.int 0], h) Q := t_go k_190_56 rfl
theorem k_190_57 : lk 190 57 = some (.istore 5, 59, 5, 0, .null) := by decide +kernel
theorem x_190_57 : Tr sc d 190 (57, [l0, l1, l2, l3, l4, l5, l6, l7, l8], [.int i0], h) Q = Tr sc d 190 (59, [l0, l1, l2, l3, cl2 l4, some (.int i0), l6, l7, l8], [], h) Q := t_istore k_190_57 (Nat.le_of_ble_eq_true rfl)
theorem k_190_59 : lk 190 59 = some (.iconst 0, 60, 0, 0, .int 0) := by decide +kernel
theorem x_190_59 : Tr sc d 190 (59, [l0, l1, l2, l3, l4, l5, l6, l7, l8], [], h) Q = Tr sc d 190 (60, [l0, l1, l2, l3, l4, l5, l6, l7, l8], [.int 0], h) Q := t_go k_190_59 rfl
theorem k_190_60 : lk 190 60 = some (.istore 6, 62, 6, 0, .null) := by decide +kernel
theorem x_190_60 : Tr sc d 190 (60, [l0, l1, l2, l3, l4, l5, l6, l7, l8], [.int i0], h) Q = Tr sc d 190 (62, [l0, l1, l2, l3, l4, cl2 l5, some (.int i0), l7, l8], [], h) Q := t_istore k_190_60 (Nat.le_of_ble_eq_true rfl)
theorem k_190_62 : lk 190 62 = some (.iload 6, 64, 6, 0, .null) := by decide +kernel
theorem x_190_62 : Tr sc d 190 (62, [l0, l1, l2, l3, l4, l5, some (.int x), l7, l8], [], h) Q = Tr sc d 190 (64, [l0, l1, l2, l3, l4, l5, some (.int x), l7, l8], [.int x], h) Q := t_iload k_190_62 rfl
theorem k_190_64 : lk 190 64 = some (.iload_n 3, 65, 3, 0, .null) := by decide +kernel
theorem x_190_64 : Tr sc d 190 (64, [l0, l1, l2, some (.int x), l4, l5, l6, l7, l8], [.int i0], h) Q = Tr sc d 190 (65, [l0, l1, l2, some (.int x), l4, l5, l6, l7, l8], [.int x, .int i0], h) Q := t_iload_n k_190_64 rfl
theorem k_190_65 : lk 190 65 = some (.if_icmp .ge 81, 68, 146, 0, .null) := by decide +kernel
theorem x_190_65 : Tr sc d 190 (65, [l0, l1, l2, l3, l4, l5, l6, l7, l8], [.int i1, .int i0], h) Q = if i1 ≤ i0 then Tr sc d 190 (146, [l0, l1, l2, l3, l4, l5, l6, l7, l8], [], h) Q else Tr sc d 190 (68, [l0, l1, l2, l3, l4, l5, l6, l7, l8], [], h) Q := t_if k_190_65 rfl
theorem k_190_68 : lk 190 68 = some (.aload_n 0, 69, 0, 0, .null) := by decide +kernel
theorem x_190_68 : Tr sc d 190 (68, [some (.ref xk), l1, l2, l3, l4, l5, l6, l7, l8], [], h) Q = Tr sc d 190 (69, [some (.ref xk), l1, l2, l3, l4, l5, l6, l7, l8], [.ref xk], h) Q := t_aload_n k_190_68 rfl
theorem k_190_69 : lk 190 69 = some (.getfield 20, 72, 10, 7, .null) := by decide +kernel
theorem x_190_69 : Tr sc d 190 (69, [l0, l1, l2, l3, l4, l5, l6, l7, l8], [.ref k0], h) Q = (okp h k0 10 = true ∧ ∃ q, hR h k0 7 = some q ∧ Tr sc d 190 (72, [l0, l1, l2, l3, l4, l5, l6, l7, l8], [.ref q], h) Q) := t_getr k_190_69
theorem k_190_72 : lk 190 72 = some (.bipush 40, 74, 0, 0, .int 40) := by decide +kernel
theorem x_190_72 : Tr sc d 190 (72, [l0, l1, l2, l3, l4, l5, l6, l7, l8], [.ref k0], h) Q = Tr sc d 190 (74, [l0, l1, l2, l3, l4, l5, l6, l7, l8], [.int 40, .ref k0], h) Q := t_go k_190_72 rfl
theorem k_190_74 : lk 190 74 = some (.iload_n 2, 75, 2, 0, .null) := by decide +kernel
theorem x_190_74 : Tr sc d 190 (74, [l0, l1, some (.int x), l3, l4, l5, l6, l7, l8], [.int i1, .ref k0], h) Q = Tr sc d 190 (75, [l0, l1, some (.int x), l3, l4, l5, l6, l7, l8], [.int x, .int i1, .ref k0], h) Q := t_iload_n k_190_74 rfl
theorem k_190_75 : lk 190 75 = some (.imul, 76, 0, 0, .null) := by decide +kernel
theorem x_190_75 : Tr sc d 190 (75, [l0, l1, l2, l3, l4, l5, l6, l7, l8], [.int i2, .int i1, .ref k0], h) Q = Tr sc d 190 (76, [l0, l1, l2, l3, l4, l5, l6, l7, l8], [.int (i1 * i2), .ref k0], h) Q := t_go k_190_75 rfl
theorem k_190_76 : lk 190 76 = some (.iload 6, 78, 6, 0, .null) := by decide +kernel
theorem x_190_76 : Tr sc d 190 (76, [l0, l1, l2, l3, l4, l5, some (.int x), l7, l8], [.int i1, .ref k0], h) Q = Tr sc d 190 (78, [l0, l1, l2, l3, l4, l5, some (.int x), l7, l8], [.int x, .int i1, .ref k0], h) Q := t_iload k_190_76 rfl
theorem k_190_78 : lk 190 78 = some (.iadd, 79, 0, 0, .null) := by decide +kernel
theorem x_190_78 : Tr sc d 190 (78, [l0, l1, l2, l3, l4, l5, l6, l7, l8], [.int i2, .int i1, .ref k0], h) Q = Tr sc d 190 (79, [l0, l1, l2, l3, l4, l5, l6, l7, l8], [.int (i1 + i2), .ref k0], h) Q := t_go k_190_78 rfl
theorem k_190_79 : lk 190 79 = some (.iaload, 80, 0, 0, .null) := by decide +kernel
theorem x_190_79 : Tr sc d 190 (79, [l0, l1, l2, l3, l4, l5, l6, l7, l8], [.int i1, .ref k0], h) Q = (iOk sc h k0 i1 ∧ Tr sc d 190 (80, [l0, l1, l2, l3, l4, l5, l6, l7, l8], [.int (iRd sc h k0 i1)], h) Q) := t_iald k_190_79
theorem k_190_80 : lk 190 80 = some (.istore 7, 82, 7, 0, .null) := by decide +kernel
theorem x_190_80 : Tr sc d 190 (80, [l0, l1, l2, l3, l4, l5, l6, l7, l8], [.int i0], h) Q = Tr sc d 190 (82, [l0, l1, l2, l3, l4, l5, cl2 l6, some (.int i0), l8], [], h) Q := t_istore k_190_80 (Nat.le_of_ble_eq_true rfl)
theorem k_190_82 : lk 190 82 = some (.iload 4, 84, 4, 0, .null) := by decide +kernel
theorem x_190_82 : Tr sc d 190 (82, [l0, l1, l2, l3, some (.int x), l5, l6, l7, l8], [], h) Q = Tr sc d 190 (84, [l0, l1, l2, l3, some (.int x), l5, l6, l7, l8], [.int x], h) Q := t_iload k_190_82 rfl
theorem k_190_84 : lk 190 84 = some (.ifCond .eq 21, 87, 105, 0, .null) := by decide +kernel
theorem x_190_84 : Tr sc d 190 (84, [l0, l1, l2, l3, l4, l5, l6, l7, l8], [.int i0], h) Q = if i0 = 0 then Tr sc d 190 (105, [l0, l1, l2, l3, l4, l5, l6, l7, l8], [], h) Q else Tr sc d 190 (87, [l0, l1, l2, l3, l4, l5, l6, l7, l8], [], h) Q := t_if k_190_84 rfl
theorem k_190_87 : lk 190 87 = some (.iload 7, 89, 7, 0, .null) := by decide +kernel
theorem x_190_87 : Tr sc d 190 (87, [l0, l1, l2, l3, l4, l5, l6, some (.int x), l8], [], h) Q = Tr sc d 190 (89, [l0, l1, l2, l3, l4, l5, l6, some (.int x), l8], [.int x], h) Q := t_iload k_190_87 rfl
theorem k_190_89 : lk 190 89 = some (.iconst 0, 90, 0, 0, .int 0) := by decide +kernel
theorem x_190_89 : Tr sc d 190 (89, [l0, l1, l2, l3, l4, l5, l6, l7, l8], [.int i0], h) Q = Tr sc d 190 (90, [l0, l1, l2, l3, l4, l5, l6, l7, l8], [.int 0, .int i0], h) Q := t_go k_190_89 rfl
theorem k_190_90 : lk 190 90 = some (.iconst 1, 91, 0, 0, .int 1) := by decide +kernel
theorem x_190_90 : Tr sc d 190 (90, [l0, l1, l2, l3, l4, l5, l6, l7, l8], [.int i1, .int i0], h) Q = Tr sc d 190 (91, [l0, l1, l2, l3, l4, l5, l6, l7, l8], [.int 1, .int i1, .int i0], h) Q := t_go k_190_90 rfl
theorem k_190_91 : lk 190 91 = some (.iload_n 3, 92, 3, 0, .null) := by decide +kernel
theorem x_190_91 : Tr sc d 190 (91, [l0, l1, l2, some (.int x), l4, l5, l6, l7, l8], [.int i2, .int i1, .int i0], h) Q = Tr sc d 190 (92, [l0, l1, l2, some (.int x), l4, l5, l6, l7, l8], [.int x, .int i2, .int i1, .int i0], h) Q := t_iload_n k_190_91 rfl
theorem k_190_92 : lk 190 92 = some (.ishl, 93, 0, 0, .null) := by decide +kernel
theorem x_190_92 : Tr sc d 190 (92, [l0, l1, l2, l3, l4, l5, l6, l7, l8], [.int i3, .int i2, .int i1, .int i0], h) Q = Tr sc d 190 (93, [l0, l1, l2, l3, l4, l5, l6, l7, l8], [.int (i2 <<< (i3 &&& 31)), .int i1, .int i0], h) Q := t_go k_190_92 rfl
theorem k_190_93 : lk 190 93 = some (.iconst 1, 94, 0, 0, .int 1) := by decide +kernel
theorem x_190_93 : Tr sc d 190 (93, [l0, l1, l2, l3, l4, l5, l6, l7, l8], [.int i2, .int i1, .int i0], h) Q = Tr sc d 190 (94, [l0, l1, l2, l3, l4, l5, l6, l7, l8], [.int 1, .int i2, .int i1, .int i0], h) Q := t_go k_190_93 rfl
theorem k_190_94 : lk 190 94 = some (.isub, 95, 0, 0, .null) := by decide +kernel
theorem x_190_94 : Tr sc d 190 (94, [l0, l1, l2, l3, l4, l5, l6, l7, l8], [.int i3, .int i2, .int i1, .int i0], h) Q = Tr sc d 190 (95, [l0, l1, l2, l3, l4, l5, l6, l7, l8], [.int (i2 - i3), .int i1, .int i0], h) Q := t_go k_190_94 rfl
theorem k_190_95 : lk 190 95 = some (.invokestatic 144, 98, 157, 3, .null) := by decide +kernel
theorem x_190_95 : Tr sc (d + 1) 190 (95, [l0, l1, l2, l3, l4, l5, l6, l7, l8], [.int i2, .int i1, .int i0], h) Q = Tr sc d 157 (ent0 157 [.int i0, .int i1, .int i2] h) (fun z => Tr sc (d + 1) 190 (98, [l0, l1, l2, l3, l4, l5, l6, l7, l8], z.1.toList ++ [], z.2) Q) := t_cs (as := [.int i0, .int i1, .int i2]) (r := []) k_190_95 (by decide) rfl rfl (Nat.le_of_ble_eq_true rfl) (Nat.le_of_ble_eq_true rfl)
theorem k_190_98 : lk 190 98 = some (.ifCond .eq 7, 101, 105, 0, .null) := by decide +kernel
theorem x_190_98 : Tr sc d 190 (98, [l0, l1, l2, l3, l4, l5, l6, l7, l8], [.int i0], h) Q = if i0 = 0 then Tr sc d 190 (105, [l0, l1, l2, l3, l4, l5, l6, l7, l8], [], h) Q else Tr sc d 190 (101, [l0, l1, l2, l3, l4, l5, l6, l7, l8], [], h) Q := t_if k_190_98 rfl
theorem k_190_101 : lk 190 101 = some (.iconst 1, 102, 0, 0, .int 1) := by decide +kernel
theorem x_190_101 : Tr sc d 190 (101, [l0, l1, l2, l3, l4, l5, l6, l7, l8], [], h) Q = Tr sc d 190 (102, [l0, l1, l2, l3, l4, l5, l6, l7, l8], [.int 1], h) Q := t_go k_190_101 rfl
theorem k_190_102 : lk 190 102 = some (.goto 4, 105, 106, 0, .null) := by decide +kernel
theorem x_190_102 : Tr sc d 190 (102, [l0, l1, l2, l3, l4, l5, l6, l7, l8], [.int i0], h) Q = Tr sc d 190 (106, [l0, l1, l2, l3, l4, l5, l6, l7, l8], [.int i0], h) Q := t_go k_190_102 rfl
theorem k_190_105 : lk 190 105 = some (.iconst 0, 106, 0, 0, .int 0) := by decide +kernel
theorem x_190_105 : Tr sc d 190 (105, [l0, l1, l2, l3, l4, l5, l6, l7, l8], [], h) Q = Tr sc d 190 (106, [l0, l1, l2, l3, l4, l5, l6, l7, l8], [.int 0], h) Q := t_go k_190_105 rfl
theorem k_190_106 : lk 190 106 = some (.istore 4, 108, 4, 0, .null) := by decide +kernel
theorem x_190_106 : Tr sc d 190 (106, [l0, l1, l2, l3, l4, l5, l6, l7, l8], [.int i0], h) Q = Tr sc d 190 (108, [l0, l1, l2, cl2 l3, some (.int i0), l5, l6, l7, l8], [], h) Q := t_istore k_190_106 (Nat.le_of_ble_eq_true rfl)
theorem k_190_108 : lk 190 108 = some (.iconst 0, 109, 0, 0, .int 0) := by decide +kernel
theorem x_190_108 : Tr sc d 190 (108, [l0, l1, l2, l3, l4, l5, l6, l7, l8], [], h) Q = Tr sc d 190 (109, [l0, l1, l2, l3, l4, l5, l6, l7, l8], [.int 0], h) Q := t_go k_190_108 rfl
theorem k_190_109 : lk 190 109 = some (.istore 8, 111, 8, 0, .null) := by decide +kernel
theorem x_190_109 : Tr sc d 190 (109, [l0, l1, l2, l3, l4, l5, l6, l7, l8], [.int i0], h) Q = Tr sc d 190 (111, [l0, l1, l2, l3, l4, l5, l6, cl2 l7, some (.int i0)], [], h) Q := t_istore k_190_109 (Nat.le_of_ble_eq_true rfl)
theorem k_190_111 : lk 190 111 = some (.iload 8, 113, 8, 0, .null) := by decide +kernel
theorem x_190_111 : Tr sc d 190 (111, [l0, l1, l2, l3, l4, l5, l6, l7, some (.int x)], [], h) Q = Tr sc d 190 (113, [l0, l1, l2, l3, l4, l5, l6, l7, some (.int x)], [.int x], h) Q := t_iload k_190_111 rfl
theorem k_190_113 : lk 190 113 = some (.iload_n 3, 114, 3, 0, .null) := by decide +kernel
theorem x_190_113 : Tr sc d 190 (113, [l0, l1, l2, some (.int x), l4, l5, l6, l7, l8], [.int i0], h) Q = Tr sc d 190 (114, [l0, l1, l2, some (.int x), l4, l5, l6, l7, l8], [.int x, .int i0], h) Q := t_iload_n k_190_113 rfl
theorem k_190_114 : lk 190 114 = some (.if_icmp .ge 26, 117, 140, 0, .null) := by decide +kernel
theorem x_190_114 : Tr sc d 190 (114, [l0, l1, l2, l3, l4, l5, l6, l7, l8], [.int i1, .int i0], h) Q = if i1 ≤ i0 then Tr sc d 190 (140, [l0, l1, l2, l3, l4, l5, l6, l7, l8], [], h) Q else Tr sc d 190 (117, [l0, l1, l2, l3, l4, l5, l6, l7, l8], [], h) Q := t_if k_190_114 rfl
theorem k_190_117 : lk 190 117 = some (.iload 4, 119, 4, 0, .null) := by decide +kernel
theorem x_190_117 : Tr sc d 190 (117, [l0, l1, l2, l3, some (.int x), l5, l6, l7, l8], [], h) Q = Tr sc d 190 (119, [l0, l1, l2, l3, some (.int x), l5, l6, l7, l8], [.int x], h) Q := t_iload k_190_117 rfl
theorem k_190_119 : lk 190 119 = some (.ifCond .eq 21, 122, 140, 0, .null) := by decide +kernel
theorem x_190_119 : Tr sc d 190 (119, [l0, l1, l2, l3, l4, l5, l6, l7, l8], [.int i0], h) Q = if i0 = 0 then Tr sc d 190 (140, [l0, l1, l2, l3, l4, l5, l6, l7, l8], [], h) Q else Tr sc d 190 (122, [l0, l1, l2, l3, l4, l5, l6, l7, l8], [], h) Q := t_if k_190_119 rfl
theorem k_190_122 : lk 190 122 = some (.iload 5, 124, 5, 0, .null) := by decide +kernel
theorem x_190_122 : Tr sc d 190 (122, [l0, l1, l2, l3, l4, some (.int x), l6, l7, l8], [], h) Q = Tr sc d 190 (124, [l0, l1, l2, l3, l4, some (.int x), l6, l7, l8], [.int x], h) Q := t_iload k_190_122 rfl
theorem k_190_124 : lk 190 124 = some (.iload 7, 126, 7, 0, .null) := by decide +kernel
theorem x_190_124 : Tr sc d 190 (124, [l0, l1, l2, l3, l4, l5, l6, some (.int x), l8], [.int i0], h) Q = Tr sc d 190 (126, [l0, l1, l2, l3, l4, l5, l6, some (.int x), l8], [.int x, .int i0], h) Q := t_iload k_190_124 rfl
theorem k_190_126 : lk 190 126 = some (.iload 8, 128, 8, 0, .null) := by decide +kernel
theorem x_190_126 : Tr sc d 190 (126, [l0, l1, l2, l3, l4, l5, l6, l7, some (.int x)], [.int i1, .int i0], h) Q = Tr sc d 190 (128, [l0, l1, l2, l3, l4, l5, l6, l7, some (.int x)], [.int x, .int i1, .int i0], h) Q := t_iload k_190_126 rfl
theorem k_190_128 : lk 190 128 = some (.ishr, 129, 0, 0, .null) := by decide +kernel
theorem x_190_128 : Tr sc d 190 (128, [l0, l1, l2, l3, l4, l5, l6, l7, l8], [.int i2, .int i1, .int i0], h) Q = Tr sc d 190 (129, [l0, l1, l2, l3, l4, l5, l6, l7, l8], [.int (i1 >>> (i2 &&& 31)), .int i0], h) Q := t_go k_190_128 rfl
theorem k_190_129 : lk 190 129 = some (.iconst 1, 130, 0, 0, .int 1) := by decide +kernel
theorem x_190_129 : Tr sc d 190 (129, [l0, l1, l2, l3, l4, l5, l6, l7, l8], [.int i1, .int i0], h) Q = Tr sc d 190 (130, [l0, l1, l2, l3, l4, l5, l6, l7, l8], [.int 1, .int i1, .int i0], h) Q := t_go k_190_129 rfl
theorem k_190_130 : lk 190 130 = some (.iand, 131, 0, 0, .null) := by decide +kernel
theorem x_190_130 : Tr sc d 190 (130, [l0, l1, l2, l3, l4, l5, l6, l7, l8], [.int i2, .int i1, .int i0], h) Q = Tr sc d 190 (131, [l0, l1, l2, l3, l4, l5, l6, l7, l8], [.int (i1 &&& i2), .int i0], h) Q := t_go k_190_130 rfl
theorem k_190_131 : lk 190 131 = some (.iadd, 132, 0, 0, .null) := by decide +kernel
theorem x_190_131 : Tr sc d 190 (131, [l0, l1, l2, l3, l4, l5, l6, l7, l8], [.int i1, .int i0], h) Q = Tr sc d 190 (132, [l0, l1, l2, l3, l4, l5, l6, l7, l8], [.int (i0 + i1)], h) Q := t_go k_190_131 rfl
theorem k_190_132 : lk 190 132 = some (.istore 5, 134, 5, 0, .null) := by decide +kernel
theorem x_190_132 : Tr sc d 190 (132, [l0, l1, l2, l3, l4, l5, l6, l7, l8], [.int i0], h) Q = Tr sc d 190 (134, [l0, l1, l2, l3, cl2 l4, some (.int i0), l6, l7, l8], [], h) Q := t_istore k_190_132 (Nat.le_of_ble_eq_true rfl)
theorem k_190_134 : lk 190 134 = some (.iinc 8 1, 137, 8, 0, .int 1) := by decide +kernel
theorem x_190_134 : Tr sc d 190 (134, [l0, l1, l2, l3, l4, l5, l6, l7, some (.int x)], [], h) Q = Tr sc d 190 (137, [l0, l1, l2, l3, l4, l5, l6, cl2 l7, some (.int (x + 1))], [], h) Q := t_inc k_190_134 rfl (Nat.le_of_ble_eq_true rfl)
theorem k_190_137 : lk 190 137 = some (.goto (-26), 140, 111, 0, .null) := by decide +kernel
theorem x_190_137 : Tr sc d 190 (137, [l0, l1, l2, l3, l4, l5, l6, l7, l8], [], h) Q = Tr sc d 190 (111, [l0, l1, l2, l3, l4, l5, l6, l7, l8], [], h) Q := t_go k_190_137 rfl
theorem k_190_140 : lk 190 140 = some (.iinc 6 1, 143, 6, 0, .int 1) := by decide +kernel
theorem x_190_140 : Tr sc d 190 (140, [l0, l1, l2, l3, l4, l5, some (.int x), l7, l8], [], h) Q = Tr sc d 190 (143, [l0, l1, l2, l3, l4, cl2 l5, some (.int (x + 1)), l7, l8], [], h) Q := t_inc k_190_140 rfl (Nat.le_of_ble_eq_true rfl)
theorem k_190_143 : lk 190 143 = some (.goto (-81), 146, 62, 0, .null) := by decide +kernel
theorem x_190_143 : Tr sc d 190 (143, [l0, l1, l2, l3, l4, l5, l6, l7, l8], [], h) Q = Tr sc d 190 (62, [l0, l1, l2, l3, l4, l5, l6, l7, l8], [], h) Q := t_go k_190_143 rfl
theorem k_190_146 : lk 190 146 = some (.iload 4, 148, 4, 0, .null) := by decide +kernel
theorem x_190_146 : Tr sc d 190 (146, [l0, l1, l2, l3, some (.int x), l5, l6, l7, l8], [], h) Q = Tr sc d 190 (148, [l0, l1, l2, l3, some (.int x), l5, l6, l7, l8], [.int x], h) Q := t_iload k_190_146 rfl
theorem k_190_148 : lk 190 148 = some (.ifCond .eq 14, 151, 162, 0, .null) := by decide +kernel
theorem x_190_148 : Tr sc d 190 (148, [l0, l1, l2, l3, l4, l5, l6, l7, l8], [.int i0], h) Q = if i0 = 0 then Tr sc d 190 (162, [l0, l1, l2, l3, l4, l5, l6, l7, l8], [], h) Q else Tr sc d 190 (151, [l0, l1, l2, l3, l4, l5, l6, l7, l8], [], h) Q := t_if k_190_148 rfl
theorem k_190_151 : lk 190 151 = some (.iload 5, 153, 5, 0, .null) := by decide +kernel
theorem x_190_151 : Tr sc d 190 (151, [l0, l1, l2, l3, l4, some (.int x), l6, l7, l8], [], h) Q = Tr sc d 190 (153, [l0, l1, l2, l3, l4, some (.int x), l6, l7, l8], [.int x], h) Q := t_iload k_190_151 rfl
theorem k_190_153 : lk 190 153 = some (.iconst 1, 154, 0, 0, .int 1) := by decide +kernel
theorem x_190_153 : Tr sc d 190 (153, [l0, l1, l2, l3, l4, l5, l6, l7, l8], [.int i0], h) Q = Tr sc d 190 (154, [l0, l1, l2, l3, l4, l5, l6, l7, l8], [.int 1, .int i0], h) Q := t_go k_190_153 rfl
theorem k_190_154 : lk 190 154 = some (.bipush 6, 156, 0, 0, .int 6) := by decide +kernel
theorem x_190_154 : Tr sc d 190 (154, [l0, l1, l2, l3, l4, l5, l6, l7, l8], [.int i1, .int i0], h) Q = Tr sc d 190 (156, [l0, l1, l2, l3, l4, l5, l6, l7, l8], [.int 6, .int i1, .int i0], h) Q := t_go k_190_154 rfl
theorem k_190_156 : lk 190 156 = some (.invokestatic 144, 159, 157, 3, .null) := by decide +kernel
theorem x_190_156 : Tr sc (d + 1) 190 (156, [l0, l1, l2, l3, l4, l5, l6, l7, l8], [.int i2, .int i1, .int i0], h) Q = Tr sc d 157 (ent0 157 [.int i0, .int i1, .int i2] h) (fun z => Tr sc (d + 1) 190 (159, [l0, l1, l2, l3, l4, l5, l6, l7, l8], z.1.toList ++ [], z.2) Q) := t_cs (as := [.int i0, .int i1, .int i2]) (r := []) k_190_156 (by decide) rfl rfl (Nat.le_of_ble_eq_true rfl) (Nat.le_of_ble_eq_true rfl)
theorem k_190_159 : lk 190 159 = some (.ifCond .ne 9, 162, 168, 0, .null) := by decide +kernel
theorem x_190_159 : Tr sc d 190 (159, [l0, l1, l2, l3, l4, l5, l6, l7, l8], [.int i0], h) Q = if i0 = 0 then Tr sc d 190 (162, [l0, l1, l2, l3, l4, l5, l6, l7, l8], [], h) Q else Tr sc d 190 (168, [l0, l1, l2, l3, l4, l5, l6, l7, l8], [], h) Q := t_if k_190_159 rfl
theorem k_190_162 : lk 190 162 = some (.aload_n 0, 163, 0, 0, .null) := by decide +kernel
theorem x_190_162 : Tr sc d 190 (162, [some (.ref xk), l1, l2, l3, l4, l5, l6, l7, l8], [], h) Q = Tr sc d 190 (163, [some (.ref xk), l1, l2, l3, l4, l5, l6, l7, l8], [.ref xk], h) Q := t_aload_n k_190_162 rfl
theorem k_190_163 : lk 190 163 = some (.iconst 3, 164, 0, 0, .int 3) := by decide +kernel
theorem x_190_163 : Tr sc d 190 (163, [l0, l1, l2, l3, l4, l5, l6, l7, l8], [.ref k0], h) Q = Tr sc d 190 (164, [l0, l1, l2, l3, l4, l5, l6, l7, l8], [.int 3, .ref k0], h) Q := t_go k_190_163 rfl
theorem k_190_164 : lk 190 164 = some (.invokevirtual 152, 167, 158, 1, .null) := by decide +kernel
theorem x_190_164 : Tr sc (d + 1) 190 (164, [l0, l1, l2, l3, l4, l5, l6, l7, l8], [.int i1, .ref k0], h) Q = (okp h k0 10 = true ∧ Tr sc d 158 (ent0 158 [.ref k0, .int i1] h) (fun z => Tr sc (d + 1) 190 (167, [l0, l1, l2, l3, l4, l5, l6, l7, l8], z.1.toList ++ [], z.2) Q)) := t_cv (as := [.int i1]) (r := []) k_190_164 rfl rfl (Nat.le_of_ble_eq_true rfl) (Nat.le_of_ble_eq_true rfl) (Nat.le_of_ble_eq_true rfl)
theorem k_190_167 : lk 190 167 = some (.ireturn, 168, 0, 0, .null) := by decide +kernel
theorem x_190_167 : Tr sc d 190 (167, [l0, l1, l2, l3, l4, l5, l6, l7, l8], [.int i0], h) Q = Q (some (.int i0), h) := t_ret k_190_167 (by rw [r_190]; rfl)
theorem k_190_168 : lk 190 168 = some (.aload_n 0, 169, 0, 0, .null) := by decide +kernel
theorem x_190_168 : Tr sc d 190 (168, [some (.ref xk), l1, l2, l3, l4, l5, l6, l7, l8], [], h) Q = Tr sc d 190 (169, [some (.ref xk), l1, l2, l3, l4, l5, l6, l7, l8], [.ref xk], h) Q := t_aload_n k_190_168 rfl
theorem k_190_169 : lk 190 169 = some (.iload_n 3, 170, 3, 0, .null) := by decide +kernel
theorem x_190_169 : Tr sc d 190 (169, [l0, l1, l2, some (.int x), l4, l5, l6, l7, l8], [.ref k0], h) Q = Tr sc d 190 (170, [l0, l1, l2, some (.int x), l4, l5, l6, l7, l8], [.int x, .ref k0], h) Q := t_iload_n k_190_169 rfl
theorem k_190_170 : lk 190 170 = some (.putfield 181, 173, 10, 11, .int 0) := by decide +kernel
theorem x_190_170 : Tr sc d 190 (170, [l0, l1, l2, l3, l4, l5, l6, l7, l8], [.int i1, .ref k0], h) Q = (okp h k0 10 = true ∧ Tr sc d 190 (173, [l0, l1, l2, l3, l4, l5, l6, l7, l8], [], (sI h k0 11 i1)) Q) := t_gd k_190_170 rfl
theorem k_190_173 : lk 190 173 = some (.aload_n 0, 174, 0, 0, .null) := by decide +kernel
theorem x_190_173 : Tr sc d 190 (173, [some (.ref xk), l1, l2, l3, l4, l5, l6, l7, l8], [], h) Q = Tr sc d 190 (174, [some (.ref xk), l1, l2, l3, l4, l5, l6, l7, l8], [.ref xk], h) Q := t_aload_n k_190_173 rfl
theorem k_190_174 : lk 190 174 = some (.iconst 0, 175, 0, 0, .int 0) := by decide +kernel
theorem x_190_174 : Tr sc d 190 (174, [l0, l1, l2, l3, l4, l5, l6, l7, l8], [.ref k0], h) Q = Tr sc d 190 (175, [l0, l1, l2, l3, l4, l5, l6, l7, l8], [.int 0, .ref k0], h) Q := t_go k_190_174 rfl
theorem k_190_175 : lk 190 175 = some (.putfield 178, 178, 10, 12, .int 0) := by decide +kernel
theorem x_190_175 : Tr sc d 190 (175, [l0, l1, l2, l3, l4, l5, l6, l7, l8], [.int i1, .ref k0], h) Q = (okp h k0 10 = true ∧ Tr sc d 190 (178, [l0, l1, l2, l3, l4, l5, l6, l7, l8], [], (sI h k0 12 i1)) Q) := t_gd k_190_175 rfl
theorem k_190_178 : lk 190 178 = some (.iconst 0, 179, 0, 0, .int 0) := by decide +kernel
theorem x_190_178 : Tr sc d 190 (178, [l0, l1, l2, l3, l4, l5, l6, l7, l8], [], h) Q = Tr sc d 190 (179, [l0, l1, l2, l3, l4, l5, l6, l7, l8], [.int 0], h) Q := t_go k_190_178 rfl
theorem k_190_179 : lk 190 179 = some (.istore 6, 181, 6, 0, .null) := by decide +kernel
theorem x_190_179 : Tr sc d 190 (179, [l0, l1, l2, l3, l4, l5, l6, l7, l8], [.int i0], h) Q = Tr sc d 190 (181, [l0, l1, l2, l3, l4, cl2 l5, some (.int i0), l7, l8], [], h) Q := t_istore k_190_179 (Nat.le_of_ble_eq_true rfl)
theorem k_190_181 : lk 190 181 = some (.iload 6, 183, 6, 0, .null) := by decide +kernel
theorem x_190_181 : Tr sc d 190 (181, [l0, l1, l2, l3, l4, l5, some (.int x), l7, l8], [], h) Q = Tr sc d 190 (183, [l0, l1, l2, l3, l4, l5, some (.int x), l7, l8], [.int x], h) Q := t_iload k_190_181 rfl
theorem k_190_183 : lk 190 183 = some (.iload_n 3, 184, 3, 0, .null) := by decide +kernel
theorem x_190_183 : Tr sc d 190 (183, [l0, l1, l2, some (.int x), l4, l5, l6, l7, l8], [.int i0], h) Q = Tr sc d 190 (184, [l0, l1, l2, some (.int x), l4, l5, l6, l7, l8], [.int x, .int i0], h) Q := t_iload_n k_190_183 rfl
theorem k_190_184 : lk 190 184 = some (.if_icmp .ge 97, 187, 281, 0, .null) := by decide +kernel
theorem x_190_184 : Tr sc d 190 (184, [l0, l1, l2, l3, l4, l5, l6, l7, l8], [.int i1, .int i0], h) Q = if i1 ≤ i0 then Tr sc d 190 (281, [l0, l1, l2, l3, l4, l5, l6, l7, l8], [], h) Q else Tr sc d 190 (187, [l0, l1, l2, l3, l4, l5, l6, l7, l8], [], h) Q := t_if k_190_184 rfl
theorem k_190_187 : lk 190 187 = some (.iconst 0, 188, 0, 0, .int 0) := by decide +kernel
theorem x_190_187 : Tr sc d 190 (187, [l0, l1, l2, l3, l4, l5, l6, l7, l8], [], h) Q = Tr sc d 190 (188, [l0, l1, l2, l3, l4, l5, l6, l7, l8], [.int 0], h) Q := t_go k_190_187 rfl
theorem k_190_188 : lk 190 188 = some (.istore 7, 190, 7, 0, .null) := by decide +kernel
theorem x_190_188 : Tr sc d 190 (188, [l0, l1, l2, l3, l4, l5, l6, l7, l8], [.int i0], h) Q = Tr sc d 190 (190, [l0, l1, l2, l3, l4, l5, cl2 l6, some (.int i0), l8], [], h) Q := t_istore k_190_188 (Nat.le_of_ble_eq_true rfl)
theorem k_190_190 : lk 190 190 = some (.iload 7, 192, 7, 0, .null) := by decide +kernel
theorem x_190_190 : Tr sc d 190 (190, [l0, l1, l2, l3, l4, l5, l6, some (.int x), l8], [], h) Q = Tr sc d 190 (192, [l0, l1, l2, l3, l4, l5, l6, some (.int x), l8], [.int x], h) Q := t_iload k_190_190 rfl
theorem k_190_192 : lk 190 192 = some (.iload_n 3, 193, 3, 0, .null) := by decide +kernel
theorem x_190_192 : Tr sc d 190 (192, [l0, l1, l2, some (.int x), l4, l5, l6, l7, l8], [.int i0], h) Q = Tr sc d 190 (193, [l0, l1, l2, some (.int x), l4, l5, l6, l7, l8], [.int x, .int i0], h) Q := t_iload_n k_190_192 rfl
theorem k_190_193 : lk 190 193 = some (.if_icmp .ge 82, 196, 275, 0, .null) := by decide +kernel
theorem x_190_193 : Tr sc d 190 (193, [l0, l1, l2, l3, l4, l5, l6, l7, l8], [.int i1, .int i0], h) Q = if i1 ≤ i0 then Tr sc d 190 (275, [l0, l1, l2, l3, l4, l5, l6, l7, l8], [], h) Q else Tr sc d 190 (196, [l0, l1, l2, l3, l4, l5, l6, l7, l8], [], h) Q := t_if k_190_193 rfl
theorem k_190_196 : lk 190 196 = some (.aload_n 0, 197, 0, 0, .null) := by decide +kernel
theorem x_190_196 : Tr sc d 190 (196, [some (.ref xk), l1, l2, l3, l4, l5, l6, l7, l8], [], h) Q = Tr sc d 190 (197, [some (.ref xk), l1, l2, l3, l4, l5, l6, l7, l8], [.ref xk], h) Q := t_aload_n k_190_196 rfl
theorem k_190_197 : lk 190 197 = some (.getfield 20, 200, 10, 7, .null) := by decide +kernel
theorem x_190_197 : Tr sc d 190 (197, [l0, l1, l2, l3, l4, l5, l6, l7, l8], [.ref k0], h) Q = (okp h k0 10 = true ∧ ∃ q, hR h k0 7 = some q ∧ Tr sc d 190 (200, [l0, l1, l2, l3, l4, l5, l6, l7, l8], [.ref q], h) Q) := t_getr k_190_197
theorem k_190_200 : lk 190 200 = some (.bipush 40, 202, 0, 0, .int 40) := by decide +kernel
theorem x_190_200 : Tr sc d 190 (200, [l0, l1, l2, l3, l4, l5, l6, l7, l8], [.ref k0], h) Q = Tr sc d 190 (202, [l0, l1, l2, l3, l4, l5, l6, l7, l8], [.int 40, .ref k0], h) Q := t_go k_190_200 rfl
theorem k_190_202 : lk 190 202 = some (.iload_n 2, 203, 2, 0, .null) := by decide +kernel
theorem x_190_202 : Tr sc d 190 (202, [l0, l1, some (.int x), l3, l4, l5, l6, l7, l8], [.int i1, .ref k0], h) Q = Tr sc d 190 (203, [l0, l1, some (.int x), l3, l4, l5, l6, l7, l8], [.int x, .int i1, .ref k0], h) Q := t_iload_n k_190_202 rfl
theorem k_190_203 : lk 190 203 = some (.imul, 204, 0, 0, .null) := by decide +kernel
theorem x_190_203 : Tr sc d 190 (203, [l0, l1, l2, l3, l4, l5, l6, l7, l8], [.int i2, .int i1, .ref k0], h) Q = Tr sc d 190 (204, [l0, l1, l2, l3, l4, l5, l6, l7, l8], [.int (i1 * i2), .ref k0], h) Q := t_go k_190_203 rfl
theorem k_190_204 : lk 190 204 = some (.iload 6, 206, 6, 0, .null) := by decide +kernel
theorem x_190_204 : Tr sc d 190 (204, [l0, l1, l2, l3, l4, l5, some (.int x), l7, l8], [.int i1, .ref k0], h) Q = Tr sc d 190 (206, [l0, l1, l2, l3, l4, l5, some (.int x), l7, l8], [.int x, .int i1, .ref k0], h) Q := t_iload k_190_204 rfl
theorem k_190_206 : lk 190 206 = some (.iadd, 207, 0, 0, .null) := by decide +kernel
theorem x_190_206 : Tr sc d 190 (206, [l0, l1, l2, l3, l4, l5, l6, l7, l8], [.int i2, .int i1, .ref k0], h) Q = Tr sc d 190 (207, [l0, l1, l2, l3, l4, l5, l6, l7, l8], [.int (i1 + i2), .ref k0], h) Q := t_go k_190_206 rfl
theorem k_190_207 : lk 190 207 = some (.iaload, 208, 0, 0, .null) := by decide +kernel
theorem x_190_207 : Tr sc d 190 (207, [l0, l1, l2, l3, l4, l5, l6, l7, l8], [.int i1, .ref k0], h) Q = (iOk sc h k0 i1 ∧ Tr sc d 190 (208, [l0, l1, l2, l3, l4, l5, l6, l7, l8], [.int (iRd sc h k0 i1)], h) Q) := t_iald k_190_207
theorem k_190_208 : lk 190 208 = some (.iload 7, 210, 7, 0, .null) := by decide +kernel
theorem x_190_208 : Tr sc d 190 (208, [l0, l1, l2, l3, l4, l5, l6, some (.int x), l8], [.int i0], h) Q = Tr sc d 190 (210, [l0, l1, l2, l3, l4, l5, l6, some (.int x), l8], [.int x, .int i0], h) Q := t_iload k_190_208 rfl
theorem k_190_210 : lk 190 210 = some (.ishr, 211, 0, 0, .null) := by decide +kernel
theorem x_190_210 : Tr sc d 190 (210, [l0, l1, l2, l3, l4, l5, l6, l7, l8], [.int i1, .int i0], h) Q = Tr sc d 190 (211, [l0, l1, l2, l3, l4, l5, l6, l7, l8], [.int (i0 >>> (i1 &&& 31))], h) Q := t_go k_190_210 rfl
theorem k_190_211 : lk 190 211 = some (.iconst 1, 212, 0, 0, .int 1) := by decide +kernel
theorem x_190_211 : Tr sc d 190 (211, [l0, l1, l2, l3, l4, l5, l6, l7, l8], [.int i0], h) Q = Tr sc d 190 (212, [l0, l1, l2, l3, l4, l5, l6, l7, l8], [.int 1, .int i0], h) Q := t_go k_190_211 rfl
theorem k_190_212 : lk 190 212 = some (.iand, 213, 0, 0, .null) := by decide +kernel
theorem x_190_212 : Tr sc d 190 (212, [l0, l1, l2, l3, l4, l5, l6, l7, l8], [.int i1, .int i0], h) Q = Tr sc d 190 (213, [l0, l1, l2, l3, l4, l5, l6, l7, l8], [.int (i0 &&& i1)], h) Q := t_go k_190_212 rfl
theorem k_190_213 : lk 190 213 = some (.iconst 1, 214, 0, 0, .int 1) := by decide +kernel
theorem x_190_213 : Tr sc d 190 (213, [l0, l1, l2, l3, l4, l5, l6, l7, l8], [.int i0], h) Q = Tr sc d 190 (214, [l0, l1, l2, l3, l4, l5, l6, l7, l8], [.int 1, .int i0], h) Q := t_go k_190_213 rfl
theorem k_190_214 : lk 190 214 = some (.if_icmp .ne 55, 217, 269, 0, .null) := by decide +kernel
theorem x_190_214 : Tr sc d 190 (214, [l0, l1, l2, l3, l4, l5, l6, l7, l8], [.int i1, .int i0], h) Q = if i0 = i1 then Tr sc d 190 (217, [l0, l1, l2, l3, l4, l5, l6, l7, l8], [], h) Q else Tr sc d 190 (269, [l0, l1, l2, l3, l4, l5, l6, l7, l8], [], h) Q := t_if k_190_214 rfl
theorem k_190_217 : lk 190 217 = some (.aload_n 0, 218, 0, 0, .null) := by decide +kernel
theorem x_190_217 : Tr sc d 190 (217, [some (.ref xk), l1, l2, l3, l4, l5, l6, l7, l8], [], h) Q = Tr sc d 190 (218, [some (.ref xk), l1, l2, l3, l4, l5, l6, l7, l8], [.ref xk], h) Q := t_aload_n k_190_217 rfl
theorem k_190_218 : lk 190 218 = some (.getfield 32, 221, 10, 13, .null) := by decide +kernel
theorem x_190_218 : Tr sc d 190 (218, [l0, l1, l2, l3, l4, l5, l6, l7, l8], [.ref k0], h) Q = (okp h k0 10 = true ∧ ∃ q, hR h k0 13 = some q ∧ Tr sc d 190 (221, [l0, l1, l2, l3, l4, l5, l6, l7, l8], [.ref q], h) Q) := t_getr k_190_218
theorem k_190_221 : lk 190 221 = some (.iconst 3, 222, 0, 0, .int 3) := by decide +kernel
theorem x_190_221 : Tr sc d 190 (221, [l0, l1, l2, l3, l4, l5, l6, l7, l8], [.ref k0], h) Q = Tr sc d 190 (222, [l0, l1, l2, l3, l4, l5, l6, l7, l8], [.int 3, .ref k0], h) Q := t_go k_190_221 rfl
theorem k_190_222 : lk 190 222 = some (.aload_n 0, 223, 0, 0, .null) := by decide +kernel
theorem x_190_222 : Tr sc d 190 (222, [some (.ref xk), l1, l2, l3, l4, l5, l6, l7, l8], [.int i1, .ref k0], h) Q = Tr sc d 190 (223, [some (.ref xk), l1, l2, l3, l4, l5, l6, l7, l8], [.ref xk, .int i1, .ref k0], h) Q := t_aload_n k_190_222 rfl
theorem k_190_223 : lk 190 223 = some (.getfield 178, 226, 10, 12, .int 0) := by decide +kernel
theorem x_190_223 : Tr sc d 190 (223, [l0, l1, l2, l3, l4, l5, l6, l7, l8], [.ref k2, .int i1, .ref k0], h) Q = (okp h k2 10 = true ∧ Tr sc d 190 (226, [l0, l1, l2, l3, l4, l5, l6, l7, l8], [.int (hI h k2 12), .int i1, .ref k0], h) Q) := t_gd k_190_223 rfl
theorem k_190_226 : lk 190 226 = some (.imul, 227, 0, 0, .null) := by decide +kernel
theorem x_190_226 : Tr sc d 190 (226, [l0, l1, l2, l3, l4, l5, l6, l7, l8], [.int i2, .int i1, .ref k0], h) Q = Tr sc d 190 (227, [l0, l1, l2, l3, l4, l5, l6, l7, l8], [.int (i1 * i2), .ref k0], h) Q := t_go k_190_226 rfl
theorem k_190_227 : lk 190 227 = some (.iconst 0, 228, 0, 0, .int 0) := by decide +kernel
theorem x_190_227 : Tr sc d 190 (227, [l0, l1, l2, l3, l4, l5, l6, l7, l8], [.int i1, .ref k0], h) Q = Tr sc d 190 (228, [l0, l1, l2, l3, l4, l5, l6, l7, l8], [.int 0, .int i1, .ref k0], h) Q := t_go k_190_227 rfl
theorem k_190_228 : lk 190 228 = some (.iastore, 229, 0, 0, .null) := by decide +kernel
theorem x_190_228 : Tr sc d 190 (228, [l0, l1, l2, l3, l4, l5, l6, l7, l8], [.int i2, .int i1, .ref k0], h) Q = ((okp h k0 11 && inb i1 (LN k0)) = true ∧ Tr sc d 190 (229, [l0, l1, l2, l3, l4, l5, l6, l7, l8], [], (sI h k0 i1.toNatClampNeg i2)) Q) := t_gd k_190_228 rfl
theorem k_190_229 : lk 190 229 = some (.aload_n 0, 230, 0, 0, .null) := by decide +kernel
theorem x_190_229 : Tr sc d 190 (229, [some (.ref xk), l1, l2, l3, l4, l5, l6, l7, l8], [], h) Q = Tr sc d 190 (230, [some (.ref xk), l1, l2, l3, l4, l5, l6, l7, l8], [.ref xk], h) Q := t_aload_n k_190_229 rfl
theorem k_190_230 : lk 190 230 = some (.getfield 32, 233, 10, 13, .null) := by decide +kernel
theorem x_190_230 : Tr sc d 190 (230, [l0, l1, l2, l3, l4, l5, l6, l7, l8], [.ref k0], h) Q = (okp h k0 10 = true ∧ ∃ q, hR h k0 13 = some q ∧ Tr sc d 190 (233, [l0, l1, l2, l3, l4, l5, l6, l7, l8], [.ref q], h) Q) := t_getr k_190_230
theorem k_190_233 : lk 190 233 = some (.iconst 3, 234, 0, 0, .int 3) := by decide +kernel
theorem x_190_233 : Tr sc d 190 (233, [l0, l1, l2, l3, l4, l5, l6, l7, l8], [.ref k0], h) Q = Tr sc d 190 (234, [l0, l1, l2, l3, l4, l5, l6, l7, l8], [.int 3, .ref k0], h) Q := t_go k_190_233 rfl
theorem k_190_234 : lk 190 234 = some (.aload_n 0, 235, 0, 0, .null) := by decide +kernel
theorem x_190_234 : Tr sc d 190 (234, [some (.ref xk), l1, l2, l3, l4, l5, l6, l7, l8], [.int i1, .ref k0], h) Q = Tr sc d 190 (235, [some (.ref xk), l1, l2, l3, l4, l5, l6, l7, l8], [.ref xk, .int i1, .ref k0], h) Q := t_aload_n k_190_234 rfl
theorem k_190_235 : lk 190 235 = some (.getfield 178, 238, 10, 12, .int 0) := by decide +kernel
theorem x_190_235 : Tr sc d 190 (235, [l0, l1, l2, l3, l4, l5, l6, l7, l8], [.ref k2, .int i1, .ref k0], h) Q = (okp h k2 10 = true ∧ Tr sc d 190 (238, [l0, l1, l2, l3, l4, l5, l6, l7, l8], [.int (hI h k2 12), .int i1, .ref k0], h) Q) := t_gd k_190_235 rfl
theorem k_190_238 : lk 190 238 = some (.imul, 239, 0, 0, .null) := by decide +kernel
theorem x_190_238 : Tr sc d 190 (238, [l0, l1, l2, l3, l4, l5, l6, l7, l8], [.int i2, .int i1, .ref k0], h) Q = Tr sc d 190 (239, [l0, l1, l2, l3, l4, l5, l6, l7, l8], [.int (i1 * i2), .ref k0], h) Q := t_go k_190_238 rfl
theorem k_190_239 : lk 190 239 = some (.iconst 1, 240, 0, 0, .int 1) := by decide +kernel
theorem x_190_239 : Tr sc d 190 (239, [l0, l1, l2, l3, l4, l5, l6, l7, l8], [.int i1, .ref k0], h) Q = Tr sc d 190 (240, [l0, l1, l2, l3, l4, l5, l6, l7, l8], [.int 1, .int i1, .ref k0], h) Q := t_go k_190_239 rfl
theorem k_190_240 : lk 190 240 = some (.iadd, 241, 0, 0, .null) := by decide +kernel
theorem x_190_240 : Tr sc d 190 (240, [l0, l1, l2, l3, l4, l5, l6, l7, l8], [.int i2, .int i1, .ref k0], h) Q = Tr sc d 190 (241, [l0, l1, l2, l3, l4, l5, l6, l7, l8], [.int (i1 + i2), .ref k0], h) Q := t_go k_190_240 rfl
theorem k_190_241 : lk 190 241 = some (.iload 7, 243, 7, 0, .null) := by decide +kernel
theorem x_190_241 : Tr sc d 190 (241, [l0, l1, l2, l3, l4, l5, l6, some (.int x), l8], [.int i1, .ref k0], h) Q = Tr sc d 190 (243, [l0, l1, l2, l3, l4, l5, l6, some (.int x), l8], [.int x, .int i1, .ref k0], h) Q := t_iload k_190_241 rfl
theorem k_190_243 : lk 190 243 = some (.iastore, 244, 0, 0, .null) := by decide +kernel
theorem x_190_243 : Tr sc d 190 (243, [l0, l1, l2, l3, l4, l5, l6, l7, l8], [.int i2, .int i1, .ref k0], h) Q = ((okp h k0 11 && inb i1 (LN k0)) = true ∧ Tr sc d 190 (244, [l0, l1, l2, l3, l4, l5, l6, l7, l8], [], (sI h k0 i1.toNatClampNeg i2)) Q) := t_gd k_190_243 rfl
theorem k_190_244 : lk 190 244 = some (.aload_n 0, 245, 0, 0, .null) := by decide +kernel
theorem x_190_244 : Tr sc d 190 (244, [some (.ref xk), l1, l2, l3, l4, l5, l6, l7, l8], [], h) Q = Tr sc d 190 (245, [some (.ref xk), l1, l2, l3, l4, l5, l6, l7, l8], [.ref xk], h) Q := t_aload_n k_190_244 rfl
theorem k_190_245 : lk 190 245 = some (.getfield 32, 248, 10, 13, .null) := by decide +kernel
theorem x_190_245 : Tr sc d 190 (245, [l0, l1, l2, l3, l4, l5, l6, l7, l8], [.ref k0], h) Q = (okp h k0 10 = true ∧ ∃ q, hR h k0 13 = some q ∧ Tr sc d 190 (248, [l0, l1, l2, l3, l4, l5, l6, l7, l8], [.ref q], h) Q) := t_getr k_190_245
theorem k_190_248 : lk 190 248 = some (.iconst 3, 249, 0, 0, .int 3) := by decide +kernel
theorem x_190_248 : Tr sc d 190 (248, [l0, l1, l2, l3, l4, l5, l6, l7, l8], [.ref k0], h) Q = Tr sc d 190 (249, [l0, l1, l2, l3, l4, l5, l6, l7, l8], [.int 3, .ref k0], h) Q := t_go k_190_248 rfl
theorem k_190_249 : lk 190 249 = some (.aload_n 0, 250, 0, 0, .null) := by decide +kernel
theorem x_190_249 : Tr sc d 190 (249, [some (.ref xk), l1, l2, l3, l4, l5, l6, l7, l8], [.int i1, .ref k0], h) Q = Tr sc d 190 (250, [some (.ref xk), l1, l2, l3, l4, l5, l6, l7, l8], [.ref xk, .int i1, .ref k0], h) Q := t_aload_n k_190_249 rfl
theorem k_190_250 : lk 190 250 = some (.getfield 178, 253, 10, 12, .int 0) := by decide +kernel
theorem x_190_250 : Tr sc d 190 (250, [l0, l1, l2, l3, l4, l5, l6, l7, l8], [.ref k2, .int i1, .ref k0], h) Q = (okp h k2 10 = true ∧ Tr sc d 190 (253, [l0, l1, l2, l3, l4, l5, l6, l7, l8], [.int (hI h k2 12), .int i1, .ref k0], h) Q) := t_gd k_190_250 rfl
theorem k_190_253 : lk 190 253 = some (.imul, 254, 0, 0, .null) := by decide +kernel
theorem x_190_253 : Tr sc d 190 (253, [l0, l1, l2, l3, l4, l5, l6, l7, l8], [.int i2, .int i1, .ref k0], h) Q = Tr sc d 190 (254, [l0, l1, l2, l3, l4, l5, l6, l7, l8], [.int (i1 * i2), .ref k0], h) Q := t_go k_190_253 rfl
theorem k_190_254 : lk 190 254 = some (.iconst 2, 255, 0, 0, .int 2) := by decide +kernel
theorem x_190_254 : Tr sc d 190 (254, [l0, l1, l2, l3, l4, l5, l6, l7, l8], [.int i1, .ref k0], h) Q = Tr sc d 190 (255, [l0, l1, l2, l3, l4, l5, l6, l7, l8], [.int 2, .int i1, .ref k0], h) Q := t_go k_190_254 rfl
theorem k_190_255 : lk 190 255 = some (.iadd, 256, 0, 0, .null) := by decide +kernel
theorem x_190_255 : Tr sc d 190 (255, [l0, l1, l2, l3, l4, l5, l6, l7, l8], [.int i2, .int i1, .ref k0], h) Q = Tr sc d 190 (256, [l0, l1, l2, l3, l4, l5, l6, l7, l8], [.int (i1 + i2), .ref k0], h) Q := t_go k_190_255 rfl
theorem k_190_256 : lk 190 256 = some (.iload 6, 258, 6, 0, .null) := by decide +kernel
theorem x_190_256 : Tr sc d 190 (256, [l0, l1, l2, l3, l4, l5, some (.int x), l7, l8], [.int i1, .ref k0], h) Q = Tr sc d 190 (258, [l0, l1, l2, l3, l4, l5, some (.int x), l7, l8], [.int x, .int i1, .ref k0], h) Q := t_iload k_190_256 rfl
theorem k_190_258 : lk 190 258 = some (.iastore, 259, 0, 0, .null) := by decide +kernel
theorem x_190_258 : Tr sc d 190 (258, [l0, l1, l2, l3, l4, l5, l6, l7, l8], [.int i2, .int i1, .ref k0], h) Q = ((okp h k0 11 && inb i1 (LN k0)) = true ∧ Tr sc d 190 (259, [l0, l1, l2, l3, l4, l5, l6, l7, l8], [], (sI h k0 i1.toNatClampNeg i2)) Q) := t_gd k_190_258 rfl
theorem k_190_259 : lk 190 259 = some (.aload_n 0, 260, 0, 0, .null) := by decide +kernel
theorem x_190_259 : Tr sc d 190 (259, [some (.ref xk), l1, l2, l3, l4, l5, l6, l7, l8], [], h) Q = Tr sc d 190 (260, [some (.ref xk), l1, l2, l3, l4, l5, l6, l7, l8], [.ref xk], h) Q := t_aload_n k_190_259 rfl
theorem k_190_260 : lk 190 260 = some (.dup, 261, 0, 0, .null) := by decide +kernel
theorem x_190_260 : Tr sc d 190 (260, [l0, l1, l2, l3, l4, l5, l6, l7, l8], [.ref k0], h) Q = Tr sc d 190 (261, [l0, l1, l2, l3, l4, l5, l6, l7, l8], [.ref k0, .ref k0], h) Q := t_go k_190_260 rfl
theorem k_190_261 : lk 190 261 = some (.getfield 178, 264, 10, 12, .int 0) := by decide +kernel
theorem x_190_261 : Tr sc d 190 (261, [l0, l1, l2, l3, l4, l5, l6, l7, l8], [.ref k1, .ref k0], h) Q = (okp h k1 10 = true ∧ Tr sc d 190 (264, [l0, l1, l2, l3, l4, l5, l6, l7, l8], [.int (hI h k1 12), .ref k0], h) Q) := t_gd k_190_261 rfl
theorem k_190_264 : lk 190 264 = some (.iconst 1, 265, 0, 0, .int 1) := by decide +kernel
theorem x_190_264 : Tr sc d 190 (264, [l0, l1, l2, l3, l4, l5, l6, l7, l8], [.int i1, .ref k0], h) Q = Tr sc d 190 (265, [l0, l1, l2, l3, l4, l5, l6, l7, l8], [.int 1, .int i1, .ref k0], h) Q := t_go k_190_264 rfl
theorem k_190_265 : lk 190 265 = some (.iadd, 266, 0, 0, .null) := by decide +kernel
theorem x_190_265 : Tr sc d 190 (265, [l0, l1, l2, l3, l4, l5, l6, l7, l8], [.int i2, .int i1, .ref k0], h) Q = Tr sc d 190 (266, [l0, l1, l2, l3, l4, l5, l6, l7, l8], [.int (i1 + i2), .ref k0], h) Q := t_go k_190_265 rfl
theorem k_190_266 : lk 190 266 = some (.putfield 178, 269, 10, 12, .int 0) := by decide +kernel
theorem x_190_266 : Tr sc d 190 (266, [l0, l1, l2, l3, l4, l5, l6, l7, l8], [.int i1, .ref k0], h) Q = (okp h k0 10 = true ∧ Tr sc d 190 (269, [l0, l1, l2, l3, l4, l5, l6, l7, l8], [], (sI h k0 12 i1)) Q) := t_gd k_190_266 rfl
theorem k_190_269 : lk 190 269 = some (.iinc 7 1, 272, 7, 0, .int 1) := by decide +kernel
theorem x_190_269 : Tr sc d 190 (269, [l0, l1, l2, l3, l4, l5, l6, some (.int x), l8], [], h) Q = Tr sc d 190 (272, [l0, l1, l2, l3, l4, l5, cl2 l6, some (.int (x + 1)), l8], [], h) Q := t_inc k_190_269 rfl (Nat.le_of_ble_eq_true rfl)
theorem k_190_272 : lk 190 272 = some (.goto (-82), 275, 190, 0, .null) := by decide +kernel
theorem x_190_272 : Tr sc d 190 (272, [l0, l1, l2, l3, l4, l5, l6, l7, l8], [], h) Q = Tr sc d 190 (190, [l0, l1, l2, l3, l4, l5, l6, l7, l8], [], h) Q := t_go k_190_272 rfl
theorem k_190_275 : lk 190 275 = some (.iinc 6 1, 278, 6, 0, .int 1) := by decide +kernel
theorem x_190_275 : Tr sc d 190 (275, [l0, l1, l2, l3, l4, l5, some (.int x), l7, l8], [], h) Q = Tr sc d 190 (278, [l0, l1, l2, l3, l4, cl2 l5, some (.int (x + 1)), l7, l8], [], h) Q := t_inc k_190_275 rfl (Nat.le_of_ble_eq_true rfl)
theorem k_190_278 : lk 190 278 = some (.goto (-97), 281, 181, 0, .null) := by decide +kernel
theorem x_190_278 : Tr sc d 190 (278, [l0, l1, l2, l3, l4, l5, l6, l7, l8], [], h) Q = Tr sc d 190 (181, [l0, l1, l2, l3, l4, l5, l6, l7, l8], [], h) Q := t_go k_190_278 rfl
theorem k_190_281 : lk 190 281 = some (.aload_n 0, 282, 0, 0, .null) := by decide +kernel
theorem x_190_281 : Tr sc d 190 (281, [some (.ref xk), l1, l2, l3, l4, l5, l6, l7, l8], [], h) Q = Tr sc d 190 (282, [some (.ref xk), l1, l2, l3, l4, l5, l6, l7, l8], [.ref xk], h) Q := t_aload_n k_190_281 rfl
theorem k_190_282 : lk 190 282 = some (.iload_n 1, 283, 1, 0, .null) := by decide +kernel
theorem x_190_282 : Tr sc d 190 (282, [l0, some (.int x), l2, l3, l4, l5, l6, l7, l8], [.ref k0], h) Q = Tr sc d 190 (283, [l0, some (.int x), l2, l3, l4, l5, l6, l7, l8], [.int x, .ref k0], h) Q := t_iload_n k_190_282 rfl
theorem k_190_283 : lk 190 283 = some (.invokevirtual 196, 286, 180, 1, .null) := by decide +kernel
theorem x_190_283 : Tr sc (d + 1) 190 (283, [l0, l1, l2, l3, l4, l5, l6, l7, l8], [.int i1, .ref k0], h) Q = (okp h k0 10 = true ∧ Tr sc d 180 (ent0 180 [.ref k0, .int i1] h) (fun z => Tr sc (d + 1) 190 (286, [l0, l1, l2, l3, l4, l5, l6, l7, l8], z.1.toList ++ [], z.2) Q)) := t_cv (as := [.int i1]) (r := []) k_190_283 rfl rfl (Nat.le_of_ble_eq_true rfl) (Nat.le_of_ble_eq_true rfl) (Nat.le_of_ble_eq_true rfl)
theorem k_190_286 : lk 190 286 = some (.ireturn, 287, 0, 0, .null) := by decide +kernel
theorem x_190_286 : Tr sc d 190 (286, [l0, l1, l2, l3, l4, l5, l6, l7, l8], [.int i0], h) Q = Q (some (.int i0), h) := t_ret k_190_286 (by rw [r_190]; rfl)
theorem e_190 : Tr sc d 190 (ent0 190 [.ref k0, .int i1, .int i2] h) Q = Tr sc d 190 (0, [some (.ref k0), some (.int i1), some (.int i2), none, none, none, none, none, none], [], h) Q := by
  have e : mL 190 = 9 := by decide +kernel
  unfold ent0
  rw [e]
  rfl
theorem r_191 : mR 191 = some .int := by decide +kernel
theorem k_191_0 : lk 191 0 = some (.aload_n 0, 1, 0, 0, .null) := by decide +kernel
theorem x_191_0 : Tr sc d 191 (0, [some (.ref xk), l1, l2], [], h) Q = Tr sc d 191 (1, [some (.ref xk), l1, l2], [.ref xk], h) Q := t_aload_n k_191_0 rfl
theorem k_191_1 : lk 191 1 = some (.iload_n 1, 2, 1, 0, .null) := by decide +kernel
theorem x_191_1 : Tr sc d 191 (1, [l0, some (.int x), l2], [.ref k0], h) Q = Tr sc d 191 (2, [l0, some (.int x), l2], [.int x, .ref k0], h) Q := t_iload_n k_191_1 rfl
theorem k_191_2 : lk 191 2 = some (.invokevirtual 220, 5, 177, 1, .null) := by decide +kernel
theorem x_191_2 : Tr sc (d + 1) 191 (2, [l0, l1, l2], [.int i1, .ref k0], h) Q = (okp h k0 10 = true ∧ Tr sc d 177 (ent0 177 [.ref k0, .int i1] h) (fun z => Tr sc (d + 1) 191 (5, [l0, l1, l2], z.1.toList ++ [], z.2) Q)) := t_cv (as := [.int i1]) (r := []) k_191_2 rfl rfl (Nat.le_of_ble_eq_true rfl) (Nat.le_of_ble_eq_true rfl) (Nat.le_of_ble_eq_true rfl)
theorem k_191_5 : lk 191 5 = some (.istore_n 2, 6, 2, 0, .null) := by decide +kernel
theorem x_191_5 : Tr sc d 191 (5, [l0, l1, l2], [.int i0], h) Q = Tr sc d 191 (6, [l0, cl2 l1, some (.int i0)], [], h) Q := t_istore_n k_191_5 (Nat.le_of_ble_eq_true rfl)
theorem k_191_6 : lk 191 6 = some (.iload_n 2, 7, 2, 0, .null) := by decide +kernel
theorem x_191_6 : Tr sc d 191 (6, [l0, l1, some (.int x)], [], h) Q = Tr sc d 191 (7, [l0, l1, some (.int x)], [.int x], h) Q := t_iload_n k_191_6 rfl
theorem k_191_7 : lk 191 7 = some (.ifCond .ge 5, 10, 12, 0, .null) := by decide +kernel
theorem x_191_7 : Tr sc d 191 (7, [l0, l1, l2], [.int i0], h) Q = if 0 ≤ i0 then Tr sc d 191 (12, [l0, l1, l2], [], h) Q else Tr sc d 191 (10, [l0, l1, l2], [], h) Q := t_if k_191_7 rfl
theorem k_191_10 : lk 191 10 = some (.iload_n 2, 11, 2, 0, .null) := by decide +kernel
theorem x_191_10 : Tr sc d 191 (10, [l0, l1, some (.int x)], [], h) Q = Tr sc d 191 (11, [l0, l1, some (.int x)], [.int x], h) Q := t_iload_n k_191_10 rfl
theorem k_191_11 : lk 191 11 = some (.ireturn, 12, 0, 0, .null) := by decide +kernel
theorem x_191_11 : Tr sc d 191 (11, [l0, l1, l2], [.int i0], h) Q = Q (some (.int i0), h) := t_ret k_191_11 (by rw [r_191]; rfl)
theorem k_191_12 : lk 191 12 = some (.aload_n 0, 13, 0, 0, .null) := by decide +kernel
theorem x_191_12 : Tr sc d 191 (12, [some (.ref xk), l1, l2], [], h) Q = Tr sc d 191 (13, [some (.ref xk), l1, l2], [.ref xk], h) Q := t_aload_n k_191_12 rfl
theorem k_191_13 : lk 191 13 = some (.getfield 41, 16, 10, 18, .null) := by decide +kernel
theorem x_191_13 : Tr sc d 191 (13, [l0, l1, l2], [.ref k0], h) Q = (okp h k0 10 = true ∧ ∃ q, hR h k0 18 = some q ∧ Tr sc d 191 (16, [l0, l1, l2], [.ref q], h) Q) := t_getr k_191_13
theorem k_191_16 : lk 191 16 = some (.iload_n 1, 17, 1, 0, .null) := by decide +kernel
theorem x_191_16 : Tr sc d 191 (16, [l0, some (.int x), l2], [.ref k0], h) Q = Tr sc d 191 (17, [l0, some (.int x), l2], [.int x, .ref k0], h) Q := t_iload_n k_191_16 rfl
theorem k_191_17 : lk 191 17 = some (.iconst 0, 18, 0, 0, .int 0) := by decide +kernel
theorem x_191_17 : Tr sc d 191 (17, [l0, l1, l2], [.int i1, .ref k0], h) Q = Tr sc d 191 (18, [l0, l1, l2], [.int 0, .int i1, .ref k0], h) Q := t_go k_191_17 rfl
theorem k_191_18 : lk 191 18 = some (.iastore, 19, 0, 0, .null) := by decide +kernel
theorem x_191_18 : Tr sc d 191 (18, [l0, l1, l2], [.int i2, .int i1, .ref k0], h) Q = ((okp h k0 11 && inb i1 (LN k0)) = true ∧ Tr sc d 191 (19, [l0, l1, l2], [], (sI h k0 i1.toNatClampNeg i2)) Q) := t_gd k_191_18 rfl
theorem k_191_19 : lk 191 19 = some (.iconst 1, 20, 0, 0, .int 1) := by decide +kernel
theorem x_191_19 : Tr sc d 191 (19, [l0, l1, l2], [], h) Q = Tr sc d 191 (20, [l0, l1, l2], [.int 1], h) Q := t_go k_191_19 rfl
theorem k_191_20 : lk 191 20 = some (.ireturn, 21, 0, 0, .null) := by decide +kernel
theorem x_191_20 : Tr sc d 191 (20, [l0, l1, l2], [.int i0], h) Q = Q (some (.int i0), h) := t_ret k_191_20 (by rw [r_191]; rfl)
theorem e_191 : Tr sc d 191 (ent0 191 [.ref k0, .int i1] h) Q = Tr sc d 191 (0, [some (.ref k0), some (.int i1), none], [], h) Q := by
  have e : mL 191 = 3 := by decide +kernel
  unfold ent0
  rw [e]
  rfl
theorem r_192 : mR 192 = some .int := by decide +kernel
theorem k_192_0 : lk 192 0 = some (.iload_n 2, 1, 2, 0, .null) := by decide +kernel
theorem x_192_0 : Tr sc d 192 (0, [l0, l1, some (.int x), l3], [], h) Q = Tr sc d 192 (1, [l0, l1, some (.int x), l3], [.int x], h) Q := t_iload_n k_192_0 rfl
theorem k_192_1 : lk 192 1 = some (.iconst 0, 2, 0, 0, .int 0) := by decide +kernel
theorem x_192_1 : Tr sc d 192 (1, [l0, l1, l2, l3], [.int i0], h) Q = Tr sc d 192 (2, [l0, l1, l2, l3], [.int 0, .int i0], h) Q := t_go k_192_1 rfl
theorem k_192_2 : lk 192 2 = some (.iconst 2, 3, 0, 0, .int 2) := by decide +kernel
theorem x_192_2 : Tr sc d 192 (2, [l0, l1, l2, l3], [.int i1, .int i0], h) Q = Tr sc d 192 (3, [l0, l1, l2, l3], [.int 2, .int i1, .int i0], h) Q := t_go k_192_2 rfl
theorem k_192_3 : lk 192 3 = some (.invokestatic 144, 6, 157, 3, .null) := by decide +kernel
theorem x_192_3 : Tr sc (d + 1) 192 (3, [l0, l1, l2, l3], [.int i2, .int i1, .int i0], h) Q = Tr sc d 157 (ent0 157 [.int i0, .int i1, .int i2] h) (fun z => Tr sc (d + 1) 192 (6, [l0, l1, l2, l3], z.1.toList ++ [], z.2) Q) := t_cs (as := [.int i0, .int i1, .int i2]) (r := []) k_192_3 (by decide) rfl rfl (Nat.le_of_ble_eq_true rfl) (Nat.le_of_ble_eq_true rfl)
theorem k_192_6 : lk 192 6 = some (.ifCond .ne 5, 9, 11, 0, .null) := by decide +kernel
theorem x_192_6 : Tr sc d 192 (6, [l0, l1, l2, l3], [.int i0], h) Q = if i0 = 0 then Tr sc d 192 (9, [l0, l1, l2, l3], [], h) Q else Tr sc d 192 (11, [l0, l1, l2, l3], [], h) Q := t_if k_192_6 rfl
theorem k_192_9 : lk 192 9 = some (.iconst (-1), 10, 0, 0, .int (-1)) := by decide +kernel
theorem x_192_9 : Tr sc d 192 (9, [l0, l1, l2, l3], [], h) Q = Tr sc d 192 (10, [l0, l1, l2, l3], [.int (-1)], h) Q := t_go k_192_9 rfl
theorem k_192_10 : lk 192 10 = some (.ireturn, 11, 0, 0, .null) := by decide +kernel
theorem x_192_10 : Tr sc d 192 (10, [l0, l1, l2, l3], [.int i0], h) Q = Q (some (.int i0), h) := t_ret k_192_10 (by rw [r_192]; rfl)
theorem k_192_11 : lk 192 11 = some (.aload_n 0, 12, 0, 0, .null) := by decide +kernel
theorem x_192_11 : Tr sc d 192 (11, [some (.ref xk), l1, l2, l3], [], h) Q = Tr sc d 192 (12, [some (.ref xk), l1, l2, l3], [.ref xk], h) Q := t_aload_n k_192_11 rfl
theorem k_192_12 : lk 192 12 = some (.iload_n 1, 13, 1, 0, .null) := by decide +kernel
theorem x_192_12 : Tr sc d 192 (12, [l0, some (.int x), l2, l3], [.ref k0], h) Q = Tr sc d 192 (13, [l0, some (.int x), l2, l3], [.int x, .ref k0], h) Q := t_iload_n k_192_12 rfl
theorem k_192_13 : lk 192 13 = some (.invokevirtual 220, 16, 177, 1, .null) := by decide +kernel
theorem x_192_13 : Tr sc (d + 1) 192 (13, [l0, l1, l2, l3], [.int i1, .ref k0], h) Q = (okp h k0 10 = true ∧ Tr sc d 177 (ent0 177 [.ref k0, .int i1] h) (fun z => Tr sc (d + 1) 192 (16, [l0, l1, l2, l3], z.1.toList ++ [], z.2) Q)) := t_cv (as := [.int i1]) (r := []) k_192_13 rfl rfl (Nat.le_of_ble_eq_true rfl) (Nat.le_of_ble_eq_true rfl) (Nat.le_of_ble_eq_true rfl)
theorem k_192_16 : lk 192 16 = some (.istore_n 3, 17, 3, 0, .null) := by decide +kernel
theorem x_192_16 : Tr sc d 192 (16, [l0, l1, l2, l3], [.int i0], h) Q = Tr sc d 192 (17, [l0, l1, cl2 l2, some (.int i0)], [], h) Q := t_istore_n k_192_16 (Nat.le_of_ble_eq_true rfl)
theorem k_192_17 : lk 192 17 = some (.iload_n 3, 18, 3, 0, .null) := by decide +kernel
theorem x_192_17 : Tr sc d 192 (17, [l0, l1, l2, some (.int x)], [], h) Q = Tr sc d 192 (18, [l0, l1, l2, some (.int x)], [.int x], h) Q := t_iload_n k_192_17 rfl
theorem k_192_18 : lk 192 18 = some (.ifCond .ge 7, 21, 25, 0, .null) := by decide +kernel
theorem x_192_18 : Tr sc d 192 (18, [l0, l1, l2, l3], [.int i0], h) Q = if 0 ≤ i0 then Tr sc d 192 (25, [l0, l1, l2, l3], [], h) Q else Tr sc d 192 (21, [l0, l1, l2, l3], [], h) Q := t_if k_192_18 rfl
theorem k_192_21 : lk 192 21 = some (.iload_n 3, 22, 3, 0, .null) := by decide +kernel
theorem x_192_21 : Tr sc d 192 (21, [l0, l1, l2, some (.int x)], [], h) Q = Tr sc d 192 (22, [l0, l1, l2, some (.int x)], [.int x], h) Q := t_iload_n k_192_21 rfl
theorem k_192_22 : lk 192 22 = some (.goto 41, 25, 63, 0, .null) := by decide +kernel
theorem x_192_22 : Tr sc d 192 (22, [l0, l1, l2, l3], [.int i0], h) Q = Tr sc d 192 (63, [l0, l1, l2, l3], [.int i0], h) Q := t_go k_192_22 rfl
theorem k_192_25 : lk 192 25 = some (.aload_n 0, 26, 0, 0, .null) := by decide +kernel
theorem x_192_25 : Tr sc d 192 (25, [some (.ref xk), l1, l2, l3], [], h) Q = Tr sc d 192 (26, [some (.ref xk), l1, l2, l3], [.ref xk], h) Q := t_aload_n k_192_25 rfl
theorem k_192_26 : lk 192 26 = some (.iload_n 2, 27, 2, 0, .null) := by decide +kernel
theorem x_192_26 : Tr sc d 192 (26, [l0, l1, some (.int x), l3], [.ref k0], h) Q = Tr sc d 192 (27, [l0, l1, some (.int x), l3], [.int x, .ref k0], h) Q := t_iload_n k_192_26 rfl
theorem k_192_27 : lk 192 27 = some (.ifCond .ne 12, 30, 39, 0, .null) := by decide +kernel
theorem x_192_27 : Tr sc d 192 (27, [l0, l1, l2, l3], [.int i1, .ref k0], h) Q = if i1 = 0 then Tr sc d 192 (30, [l0, l1, l2, l3], [.ref k0], h) Q else Tr sc d 192 (39, [l0, l1, l2, l3], [.ref k0], h) Q := t_if k_192_27 rfl
theorem k_192_30 : lk 192 30 = some (.aload_n 0, 31, 0, 0, .null) := by decide +kernel
theorem x_192_30 : Tr sc d 192 (30, [some (.ref xk), l1, l2, l3], [.ref k0], h) Q = Tr sc d 192 (31, [some (.ref xk), l1, l2, l3], [.ref xk, .ref k0], h) Q := t_aload_n k_192_30 rfl
theorem k_192_31 : lk 192 31 = some (.getfield 35, 34, 10, 16, .null) := by decide +kernel
theorem x_192_31 : Tr sc d 192 (31, [l0, l1, l2, l3], [.ref k1, .ref k0], h) Q = (okp h k1 10 = true ∧ ∃ q, hR h k1 16 = some q ∧ Tr sc d 192 (34, [l0, l1, l2, l3], [.ref q, .ref k0], h) Q) := t_getr k_192_31
theorem k_192_34 : lk 192 34 = some (.iload_n 1, 35, 1, 0, .null) := by decide +kernel
theorem x_192_34 : Tr sc d 192 (34, [l0, some (.int x), l2, l3], [.ref k1, .ref k0], h) Q = Tr sc d 192 (35, [l0, some (.int x), l2, l3], [.int x, .ref k1, .ref k0], h) Q := t_iload_n k_192_34 rfl
theorem k_192_35 : lk 192 35 = some (.iaload, 36, 0, 0, .null) := by decide +kernel
theorem x_192_35 : Tr sc d 192 (35, [l0, l1, l2, l3], [.int i2, .ref k1, .ref k0], h) Q = (iOk sc h k1 i2 ∧ Tr sc d 192 (36, [l0, l1, l2, l3], [.int (iRd sc h k1 i2), .ref k0], h) Q) := t_iald k_192_35
theorem k_192_36 : lk 192 36 = some (.goto 23, 39, 59, 0, .null) := by decide +kernel
theorem x_192_36 : Tr sc d 192 (36, [l0, l1, l2, l3], [.int i1, .ref k0], h) Q = Tr sc d 192 (59, [l0, l1, l2, l3], [.int i1, .ref k0], h) Q := t_go k_192_36 rfl
theorem k_192_39 : lk 192 39 = some (.iload_n 2, 40, 2, 0, .null) := by decide +kernel
theorem x_192_39 : Tr sc d 192 (39, [l0, l1, some (.int x), l3], [.ref k0], h) Q = Tr sc d 192 (40, [l0, l1, some (.int x), l3], [.int x, .ref k0], h) Q := t_iload_n k_192_39 rfl
theorem k_192_40 : lk 192 40 = some (.iconst 1, 41, 0, 0, .int 1) := by decide +kernel
theorem x_192_40 : Tr sc d 192 (40, [l0, l1, l2, l3], [.int i1, .ref k0], h) Q = Tr sc d 192 (41, [l0, l1, l2, l3], [.int 1, .int i1, .ref k0], h) Q := t_go k_192_40 rfl
theorem k_192_41 : lk 192 41 = some (.if_icmp .ne 12, 44, 53, 0, .null) := by decide +kernel
theorem x_192_41 : Tr sc d 192 (41, [l0, l1, l2, l3], [.int i2, .int i1, .ref k0], h) Q = if i1 = i2 then Tr sc d 192 (44, [l0, l1, l2, l3], [.ref k0], h) Q else Tr sc d 192 (53, [l0, l1, l2, l3], [.ref k0], h) Q := t_if k_192_41 rfl
theorem k_192_44 : lk 192 44 = some (.aload_n 0, 45, 0, 0, .null) := by decide +kernel
theorem x_192_44 : Tr sc d 192 (44, [some (.ref xk), l1, l2, l3], [.ref k0], h) Q = Tr sc d 192 (45, [some (.ref xk), l1, l2, l3], [.ref xk, .ref k0], h) Q := t_aload_n k_192_44 rfl
theorem k_192_45 : lk 192 45 = some (.getfield 38, 48, 10, 17, .null) := by decide +kernel
theorem x_192_45 : Tr sc d 192 (45, [l0, l1, l2, l3], [.ref k1, .ref k0], h) Q = (okp h k1 10 = true ∧ ∃ q, hR h k1 17 = some q ∧ Tr sc d 192 (48, [l0, l1, l2, l3], [.ref q, .ref k0], h) Q) := t_getr k_192_45
theorem k_192_48 : lk 192 48 = some (.iload_n 1, 49, 1, 0, .null) := by decide +kernel
theorem x_192_48 : Tr sc d 192 (48, [l0, some (.int x), l2, l3], [.ref k1, .ref k0], h) Q = Tr sc d 192 (49, [l0, some (.int x), l2, l3], [.int x, .ref k1, .ref k0], h) Q := t_iload_n k_192_48 rfl
theorem k_192_49 : lk 192 49 = some (.iaload, 50, 0, 0, .null) := by decide +kernel
theorem x_192_49 : Tr sc d 192 (49, [l0, l1, l2, l3], [.int i2, .ref k1, .ref k0], h) Q = (iOk sc h k1 i2 ∧ Tr sc d 192 (50, [l0, l1, l2, l3], [.int (iRd sc h k1 i2), .ref k0], h) Q) := t_iald k_192_49
theorem k_192_50 : lk 192 50 = some (.goto 9, 53, 59, 0, .null) := by decide +kernel
theorem x_192_50 : Tr sc d 192 (50, [l0, l1, l2, l3], [.int i1, .ref k0], h) Q = Tr sc d 192 (59, [l0, l1, l2, l3], [.int i1, .ref k0], h) Q := t_go k_192_50 rfl
theorem k_192_53 : lk 192 53 = some (.aload_n 0, 54, 0, 0, .null) := by decide +kernel
theorem x_192_53 : Tr sc d 192 (53, [some (.ref xk), l1, l2, l3], [.ref k0], h) Q = Tr sc d 192 (54, [some (.ref xk), l1, l2, l3], [.ref xk, .ref k0], h) Q := t_aload_n k_192_53 rfl
theorem k_192_54 : lk 192 54 = some (.getfield 41, 57, 10, 18, .null) := by decide +kernel
theorem x_192_54 : Tr sc d 192 (54, [l0, l1, l2, l3], [.ref k1, .ref k0], h) Q = (okp h k1 10 = true ∧ ∃ q, hR h k1 18 = some q ∧ Tr sc d 192 (57, [l0, l1, l2, l3], [.ref q, .ref k0], h) Q) := t_getr k_192_54
theorem k_192_57 : lk 192 57 = some (.iload_n 1, 58, 1, 0, .null) := by decide +kernel
theorem x_192_57 : Tr sc d 192 (57, [l0, some (.int x), l2, l3], [.ref k1, .ref k0], h) Q = Tr sc d 192 (58, [l0, some (.int x), l2, l3], [.int x, .ref k1, .ref k0], h) Q := t_iload_n k_192_57 rfl
theorem k_192_58 : lk 192 58 = some (.iaload, 59, 0, 0, .null) := by decide +kernel
theorem x_192_58 : Tr sc d 192 (58, [l0, l1, l2, l3], [.int i2, .ref k1, .ref k0], h) Q = (iOk sc h k1 i2 ∧ Tr sc d 192 (59, [l0, l1, l2, l3], [.int (iRd sc h k1 i2), .ref k0], h) Q) := t_iald k_192_58
theorem k_192_59 : lk 192 59 = some (.iconst 1, 60, 0, 0, .int 1) := by decide +kernel
theorem x_192_59 : Tr sc d 192 (59, [l0, l1, l2, l3], [.int i1, .ref k0], h) Q = Tr sc d 192 (60, [l0, l1, l2, l3], [.int 1, .int i1, .ref k0], h) Q := t_go k_192_59 rfl
theorem k_192_60 : lk 192 60 = some (.invokevirtual 162, 63, 159, 2, .null) := by decide +kernel
theorem x_192_60 : Tr sc (d + 1) 192 (60, [l0, l1, l2, l3], [.int i2, .int i1, .ref k0], h) Q = (okp h k0 10 = true ∧ Tr sc d 159 (ent0 159 [.ref k0, .int i1, .int i2] h) (fun z => Tr sc (d + 1) 192 (63, [l0, l1, l2, l3], z.1.toList ++ [], z.2) Q)) := t_cv (as := [.int i1, .int i2]) (r := []) k_192_60 rfl rfl (Nat.le_of_ble_eq_true rfl) (Nat.le_of_ble_eq_true rfl) (Nat.le_of_ble_eq_true rfl)
theorem k_192_63 : lk 192 63 = some (.ireturn, 64, 0, 0, .null) := by decide +kernel
theorem x_192_63 : Tr sc d 192 (63, [l0, l1, l2, l3], [.int i0], h) Q = Q (some (.int i0), h) := t_ret k_192_63 (by rw [r_192]; rfl)
theorem e_192 : Tr sc d 192 (ent0 192 [.ref k0, .int i1, .int i2] h) Q = Tr sc d 192 (0, [some (.ref k0), some (.int i1), some (.int i2), none], [], h) Q := by
  have e : mL 192 = 4 := by decide +kernel
  unfold ent0
  rw [e]
  rfl
theorem r_193 : mR 193 = some .int := by decide +kernel
theorem k_193_0 : lk 193 0 = some (.iload_n 3, 1, 3, 0, .null) := by decide +kernel
theorem x_193_0 : Tr sc d 193 (0, [l0, l1, l2, some (.int x), l4, l5], [], h) Q = Tr sc d 193 (1, [l0, l1, l2, some (.int x), l4, l5], [.int x], h) Q := t_iload_n k_193_0 rfl
theorem k_193_1 : lk 193 1 = some (.iconst 0, 2, 0, 0, .int 0) := by decide +kernel
theorem x_193_1 : Tr sc d 193 (1, [l0, l1, l2, l3, l4, l5], [.int i0], h) Q = Tr sc d 193 (2, [l0, l1, l2, l3, l4, l5], [.int 0, .int i0], h) Q := t_go k_193_1 rfl
theorem k_193_2 : lk 193 2 = some (.iconst 2, 3, 0, 0, .int 2) := by decide +kernel
theorem x_193_2 : Tr sc d 193 (2, [l0, l1, l2, l3, l4, l5], [.int i1, .int i0], h) Q = Tr sc d 193 (3, [l0, l1, l2, l3, l4, l5], [.int 2, .int i1, .int i0], h) Q := t_go k_193_2 rfl
theorem k_193_3 : lk 193 3 = some (.invokestatic 144, 6, 157, 3, .null) := by decide +kernel
theorem x_193_3 : Tr sc (d + 1) 193 (3, [l0, l1, l2, l3, l4, l5], [.int i2, .int i1, .int i0], h) Q = Tr sc d 157 (ent0 157 [.int i0, .int i1, .int i2] h) (fun z => Tr sc (d + 1) 193 (6, [l0, l1, l2, l3, l4, l5], z.1.toList ++ [], z.2) Q) := t_cs (as := [.int i0, .int i1, .int i2]) (r := []) k_193_3 (by decide) rfl rfl (Nat.le_of_ble_eq_true rfl) (Nat.le_of_ble_eq_true rfl)
theorem k_193_6 : lk 193 6 = some (.ifCond .ne 5, 9, 11, 0, .null) := by decide +kernel
theorem x_193_6 : Tr sc d 193 (6, [l0, l1, l2, l3, l4, l5], [.int i0], h) Q = if i0 = 0 then Tr sc d 193 (9, [l0, l1, l2, l3, l4, l5], [], h) Q else Tr sc d 193 (11, [l0, l1, l2, l3, l4, l5], [], h) Q := t_if k_193_6 rfl
theorem k_193_9 : lk 193 9 = some (.iconst (-1), 10, 0, 0, .int (-1)) := by decide +kernel
theorem x_193_9 : Tr sc d 193 (9, [l0, l1, l2, l3, l4, l5], [], h) Q = Tr sc d 193 (10, [l0, l1, l2, l3, l4, l5], [.int (-1)], h) Q := t_go k_193_9 rfl
theorem k_193_10 : lk 193 10 = some (.ireturn, 11, 0, 0, .null) := by decide +kernel
theorem x_193_10 : Tr sc d 193 (10, [l0, l1, l2, l3, l4, l5], [.int i0], h) Q = Q (some (.int i0), h) := t_ret k_193_10 (by rw [r_193]; rfl)
theorem k_193_11 : lk 193 11 = some (.aload_n 0, 12, 0, 0, .null) := by decide +kernel
theorem x_193_11 : Tr sc d 193 (11, [some (.ref xk), l1, l2, l3, l4, l5], [], h) Q = Tr sc d 193 (12, [some (.ref xk), l1, l2, l3, l4, l5], [.ref xk], h) Q := t_aload_n k_193_11 rfl
theorem k_193_12 : lk 193 12 = some (.iload_n 1, 13, 1, 0, .null) := by decide +kernel
theorem x_193_12 : Tr sc d 193 (12, [l0, some (.int x), l2, l3, l4, l5], [.ref k0], h) Q = Tr sc d 193 (13, [l0, some (.int x), l2, l3, l4, l5], [.int x, .ref k0], h) Q := t_iload_n k_193_12 rfl
theorem k_193_13 : lk 193 13 = some (.invokevirtual 220, 16, 177, 1, .null) := by decide +kernel
theorem x_193_13 : Tr sc (d + 1) 193 (13, [l0, l1, l2, l3, l4, l5], [.int i1, .ref k0], h) Q = (okp h k0 10 = true ∧ Tr sc d 177 (ent0 177 [.ref k0, .int i1] h) (fun z => Tr sc (d + 1) 193 (16, [l0, l1, l2, l3, l4, l5], z.1.toList ++ [], z.2) Q)) := t_cv (as := [.int i1]) (r := []) k_193_13 rfl rfl (Nat.le_of_ble_eq_true rfl) (Nat.le_of_ble_eq_true rfl) (Nat.le_of_ble_eq_true rfl)
theorem k_193_16 : lk 193 16 = some (.istore 4, 18, 4, 0, .null) := by decide +kernel
theorem x_193_16 : Tr sc d 193 (16, [l0, l1, l2, l3, l4, l5], [.int i0], h) Q = Tr sc d 193 (18, [l0, l1, l2, cl2 l3, some (.int i0), l5], [], h) Q := t_istore k_193_16 (Nat.le_of_ble_eq_true rfl)
theorem k_193_18 : lk 193 18 = some (.iload 4, 20, 4, 0, .null) := by decide +kernel
theorem x_193_18 : Tr sc d 193 (18, [l0, l1, l2, l3, some (.int x), l5], [], h) Q = Tr sc d 193 (20, [l0, l1, l2, l3, some (.int x), l5], [.int x], h) Q := t_iload k_193_18 rfl
theorem k_193_20 : lk 193 20 = some (.ifCond .ge 6, 23, 26, 0, .null) := by decide +kernel
theorem x_193_20 : Tr sc d 193 (20, [l0, l1, l2, l3, l4, l5], [.int i0], h) Q = if 0 ≤ i0 then Tr sc d 193 (26, [l0, l1, l2, l3, l4, l5], [], h) Q else Tr sc d 193 (23, [l0, l1, l2, l3, l4, l5], [], h) Q := t_if k_193_20 rfl
theorem k_193_23 : lk 193 23 = some (.iload 4, 25, 4, 0, .null) := by decide +kernel
theorem x_193_23 : Tr sc d 193 (23, [l0, l1, l2, l3, some (.int x), l5], [], h) Q = Tr sc d 193 (25, [l0, l1, l2, l3, some (.int x), l5], [.int x], h) Q := t_iload k_193_23 rfl
theorem k_193_25 : lk 193 25 = some (.ireturn, 26, 0, 0, .null) := by decide +kernel
theorem x_193_25 : Tr sc d 193 (25, [l0, l1, l2, l3, l4, l5], [.int i0], h) Q = Q (some (.int i0), h) := t_ret k_193_25 (by rw [r_193]; rfl)
theorem k_193_26 : lk 193 26 = some (.iload_n 2, 27, 2, 0, .null) := by decide +kernel
theorem x_193_26 : Tr sc d 193 (26, [l0, l1, some (.int x), l3, l4, l5], [], h) Q = Tr sc d 193 (27, [l0, l1, some (.int x), l3, l4, l5], [.int x], h) Q := t_iload_n k_193_26 rfl
theorem k_193_27 : lk 193 27 = some (.iconst 0, 28, 0, 0, .int 0) := by decide +kernel
theorem x_193_27 : Tr sc d 193 (27, [l0, l1, l2, l3, l4, l5], [.int i0], h) Q = Tr sc d 193 (28, [l0, l1, l2, l3, l4, l5], [.int 0, .int i0], h) Q := t_go k_193_27 rfl
theorem k_193_28 : lk 193 28 = some (.aload_n 0, 29, 0, 0, .null) := by decide +kernel
theorem x_193_28 : Tr sc d 193 (28, [some (.ref xk), l1, l2, l3, l4, l5], [.int i1, .int i0], h) Q = Tr sc d 193 (29, [some (.ref xk), l1, l2, l3, l4, l5], [.ref xk, .int i1, .int i0], h) Q := t_aload_n k_193_28 rfl
theorem k_193_29 : lk 193 29 = some (.getfield 41, 32, 10, 18, .null) := by decide +kernel
theorem x_193_29 : Tr sc d 193 (29, [l0, l1, l2, l3, l4, l5], [.ref k2, .int i1, .int i0], h) Q = (okp h k2 10 = true ∧ ∃ q, hR h k2 18 = some q ∧ Tr sc d 193 (32, [l0, l1, l2, l3, l4, l5], [.ref q, .int i1, .int i0], h) Q) := t_getr k_193_29
theorem k_193_32 : lk 193 32 = some (.iload_n 1, 33, 1, 0, .null) := by decide +kernel
theorem x_193_32 : Tr sc d 193 (32, [l0, some (.int x), l2, l3, l4, l5], [.ref k2, .int i1, .int i0], h) Q = Tr sc d 193 (33, [l0, some (.int x), l2, l3, l4, l5], [.int x, .ref k2, .int i1, .int i0], h) Q := t_iload_n k_193_32 rfl
theorem k_193_33 : lk 193 33 = some (.iaload, 34, 0, 0, .null) := by decide +kernel
theorem x_193_33 : Tr sc d 193 (33, [l0, l1, l2, l3, l4, l5], [.int i3, .ref k2, .int i1, .int i0], h) Q = (iOk sc h k2 i3 ∧ Tr sc d 193 (34, [l0, l1, l2, l3, l4, l5], [.int (iRd sc h k2 i3), .int i1, .int i0], h) Q) := t_iald k_193_33
theorem k_193_34 : lk 193 34 = some (.iconst 1, 35, 0, 0, .int 1) := by decide +kernel
theorem x_193_34 : Tr sc d 193 (34, [l0, l1, l2, l3, l4, l5], [.int i2, .int i1, .int i0], h) Q = Tr sc d 193 (35, [l0, l1, l2, l3, l4, l5], [.int 1, .int i2, .int i1, .int i0], h) Q := t_go k_193_34 rfl
theorem k_193_35 : lk 193 35 = some (.isub, 36, 0, 0, .null) := by decide +kernel
theorem x_193_35 : Tr sc d 193 (35, [l0, l1, l2, l3, l4, l5], [.int i3, .int i2, .int i1, .int i0], h) Q = Tr sc d 193 (36, [l0, l1, l2, l3, l4, l5], [.int (i2 - i3), .int i1, .int i0], h) Q := t_go k_193_35 rfl
theorem k_193_36 : lk 193 36 = some (.invokestatic 144, 39, 157, 3, .null) := by decide +kernel
theorem x_193_36 : Tr sc (d + 1) 193 (36, [l0, l1, l2, l3, l4, l5], [.int i2, .int i1, .int i0], h) Q = Tr sc d 157 (ent0 157 [.int i0, .int i1, .int i2] h) (fun z => Tr sc (d + 1) 193 (39, [l0, l1, l2, l3, l4, l5], z.1.toList ++ [], z.2) Q) := t_cs (as := [.int i0, .int i1, .int i2]) (r := []) k_193_36 (by decide) rfl rfl (Nat.le_of_ble_eq_true rfl) (Nat.le_of_ble_eq_true rfl)
theorem k_193_39 : lk 193 39 = some (.ifCond .ne 9, 42, 48, 0, .null) := by decide +kernel
theorem x_193_39 : Tr sc d 193 (39, [l0, l1, l2, l3, l4, l5], [.int i0], h) Q = if i0 = 0 then Tr sc d 193 (42, [l0, l1, l2, l3, l4, l5], [], h) Q else Tr sc d 193 (48, [l0, l1, l2, l3, l4, l5], [], h) Q := t_if k_193_39 rfl
theorem k_193_42 : lk 193 42 = some (.aload_n 0, 43, 0, 0, .null) := by decide +kernel
theorem x_193_42 : Tr sc d 193 (42, [some (.ref xk), l1, l2, l3, l4, l5], [], h) Q = Tr sc d 193 (43, [some (.ref xk), l1, l2, l3, l4, l5], [.ref xk], h) Q := t_aload_n k_193_42 rfl
theorem k_193_43 : lk 193 43 = some (.iconst 2, 44, 0, 0, .int 2) := by decide +kernel
theorem x_193_43 : Tr sc d 193 (43, [l0, l1, l2, l3, l4, l5], [.ref k0], h) Q = Tr sc d 193 (44, [l0, l1, l2, l3, l4, l5], [.int 2, .ref k0], h) Q := t_go k_193_43 rfl
theorem k_193_44 : lk 193 44 = some (.invokevirtual 152, 47, 158, 1, .null) := by decide +kernel
theorem x_193_44 : Tr sc (d + 1) 193 (44, [l0, l1, l2, l3, l4, l5], [.int i1, .ref k0], h) Q = (okp h k0 10 = true ∧ Tr sc d 158 (ent0 158 [.ref k0, .int i1] h) (fun z => Tr sc (d + 1) 193 (47, [l0, l1, l2, l3, l4, l5], z.1.toList ++ [], z.2) Q)) := t_cv (as := [.int i1]) (r := []) k_193_44 rfl rfl (Nat.le_of_ble_eq_true rfl) (Nat.le_of_ble_eq_true rfl) (Nat.le_of_ble_eq_true rfl)
theorem k_193_47 : lk 193 47 = some (.ireturn, 48, 0, 0, .null) := by decide +kernel
theorem x_193_47 : Tr sc d 193 (47, [l0, l1, l2, l3, l4, l5], [.int i0], h) Q = Q (some (.int i0), h) := t_ret k_193_47 (by rw [r_193]; rfl)
theorem k_193_48 : lk 193 48 = some (.bipush 6, 50, 0, 0, .int 6) := by decide +kernel
theorem x_193_48 : Tr sc d 193 (48, [l0, l1, l2, l3, l4, l5], [], h) Q = Tr sc d 193 (50, [l0, l1, l2, l3, l4, l5], [.int 6], h) Q := t_go k_193_48 rfl
theorem k_193_50 : lk 193 50 = some (.iload_n 1, 51, 1, 0, .null) := by decide +kernel
theorem x_193_50 : Tr sc d 193 (50, [l0, some (.int x), l2, l3, l4, l5], [.int i0], h) Q = Tr sc d 193 (51, [l0, some (.int x), l2, l3, l4, l5], [.int x, .int i0], h) Q := t_iload_n k_193_50 rfl
theorem k_193_51 : lk 193 51 = some (.imul, 52, 0, 0, .null) := by decide +kernel
theorem x_193_51 : Tr sc d 193 (51, [l0, l1, l2, l3, l4, l5], [.int i1, .int i0], h) Q = Tr sc d 193 (52, [l0, l1, l2, l3, l4, l5], [.int (i0 * i1)], h) Q := t_go k_193_51 rfl
theorem k_193_52 : lk 193 52 = some (.iload_n 2, 53, 2, 0, .null) := by decide +kernel
theorem x_193_52 : Tr sc d 193 (52, [l0, l1, some (.int x), l3, l4, l5], [.int i0], h) Q = Tr sc d 193 (53, [l0, l1, some (.int x), l3, l4, l5], [.int x, .int i0], h) Q := t_iload_n k_193_52 rfl
theorem k_193_53 : lk 193 53 = some (.iadd, 54, 0, 0, .null) := by decide +kernel
theorem x_193_53 : Tr sc d 193 (53, [l0, l1, l2, l3, l4, l5], [.int i1, .int i0], h) Q = Tr sc d 193 (54, [l0, l1, l2, l3, l4, l5], [.int (i0 + i1)], h) Q := t_go k_193_53 rfl
theorem k_193_54 : lk 193 54 = some (.istore 5, 56, 5, 0, .null) := by decide +kernel
theorem x_193_54 : Tr sc d 193 (54, [l0, l1, l2, l3, l4, l5], [.int i0], h) Q = Tr sc d 193 (56, [l0, l1, l2, l3, cl2 l4, some (.int i0)], [], h) Q := t_istore k_193_54 (Nat.le_of_ble_eq_true rfl)
theorem k_193_56 : lk 193 56 = some (.aload_n 0, 57, 0, 0, .null) := by decide +kernel
theorem x_193_56 : Tr sc d 193 (56, [some (.ref xk), l1, l2, l3, l4, l5], [], h) Q = Tr sc d 193 (57, [some (.ref xk), l1, l2, l3, l4, l5], [.ref xk], h) Q := t_aload_n k_193_56 rfl
theorem k_193_57 : lk 193 57 = some (.iload_n 3, 58, 3, 0, .null) := by decide +kernel
theorem x_193_57 : Tr sc d 193 (57, [l0, l1, l2, some (.int x), l4, l5], [.ref k0], h) Q = Tr sc d 193 (58, [l0, l1, l2, some (.int x), l4, l5], [.int x, .ref k0], h) Q := t_iload_n k_193_57 rfl
theorem k_193_58 : lk 193 58 = some (.ifCond .ne 13, 61, 71, 0, .null) := by decide +kernel
theorem x_193_58 : Tr sc d 193 (58, [l0, l1, l2, l3, l4, l5], [.int i1, .ref k0], h) Q = if i1 = 0 then Tr sc d 193 (61, [l0, l1, l2, l3, l4, l5], [.ref k0], h) Q else Tr sc d 193 (71, [l0, l1, l2, l3, l4, l5], [.ref k0], h) Q := t_if k_193_58 rfl
theorem k_193_61 : lk 193 61 = some (.aload_n 0, 62, 0, 0, .null) := by decide +kernel
theorem x_193_61 : Tr sc d 193 (61, [some (.ref xk), l1, l2, l3, l4, l5], [.ref k0], h) Q = Tr sc d 193 (62, [some (.ref xk), l1, l2, l3, l4, l5], [.ref xk, .ref k0], h) Q := t_aload_n k_193_61 rfl
theorem k_193_62 : lk 193 62 = some (.getfield 44, 65, 10, 19, .null) := by decide +kernel
theorem x_193_62 : Tr sc d 193 (62, [l0, l1, l2, l3, l4, l5], [.ref k1, .ref k0], h) Q = (okp h k1 10 = true ∧ ∃ q, hR h k1 19 = some q ∧ Tr sc d 193 (65, [l0, l1, l2, l3, l4, l5], [.ref q, .ref k0], h) Q) := t_getr k_193_62
theorem k_193_65 : lk 193 65 = some (.iload 5, 67, 5, 0, .null) := by decide +kernel
theorem x_193_65 : Tr sc d 193 (65, [l0, l1, l2, l3, l4, some (.int x)], [.ref k1, .ref k0], h) Q = Tr sc d 193 (67, [l0, l1, l2, l3, l4, some (.int x)], [.int x, .ref k1, .ref k0], h) Q := t_iload k_193_65 rfl
theorem k_193_67 : lk 193 67 = some (.iaload, 68, 0, 0, .null) := by decide +kernel
theorem x_193_67 : Tr sc d 193 (67, [l0, l1, l2, l3, l4, l5], [.int i2, .ref k1, .ref k0], h) Q = (iOk sc h k1 i2 ∧ Tr sc d 193 (68, [l0, l1, l2, l3, l4, l5], [.int (iRd sc h k1 i2), .ref k0], h) Q) := t_iald k_193_67
theorem k_193_68 : lk 193 68 = some (.goto 25, 71, 93, 0, .null) := by decide +kernel
theorem x_193_68 : Tr sc d 193 (68, [l0, l1, l2, l3, l4, l5], [.int i1, .ref k0], h) Q = Tr sc d 193 (93, [l0, l1, l2, l3, l4, l5], [.int i1, .ref k0], h) Q := t_go k_193_68 rfl
theorem k_193_71 : lk 193 71 = some (.iload_n 3, 72, 3, 0, .null) := by decide +kernel
theorem x_193_71 : Tr sc d 193 (71, [l0, l1, l2, some (.int x), l4, l5], [.ref k0], h) Q = Tr sc d 193 (72, [l0, l1, l2, some (.int x), l4, l5], [.int x, .ref k0], h) Q := t_iload_n k_193_71 rfl
theorem k_193_72 : lk 193 72 = some (.iconst 1, 73, 0, 0, .int 1) := by decide +kernel
theorem x_193_72 : Tr sc d 193 (72, [l0, l1, l2, l3, l4, l5], [.int i1, .ref k0], h) Q = Tr sc d 193 (73, [l0, l1, l2, l3, l4, l5], [.int 1, .int i1, .ref k0], h) Q := t_go k_193_72 rfl
theorem k_193_73 : lk 193 73 = some (.if_icmp .ne 13, 76, 86, 0, .null) := by decide +kernel
theorem x_193_73 : Tr sc d 193 (73, [l0, l1, l2, l3, l4, l5], [.int i2, .int i1, .ref k0], h) Q = if i1 = i2 then Tr sc d 193 (76, [l0, l1, l2, l3, l4, l5], [.ref k0], h) Q else Tr sc d 193 (86, [l0, l1, l2, l3, l4, l5], [.ref k0], h) Q := t_if k_193_73 rfl
theorem k_193_76 : lk 193 76 = some (.aload_n 0, 77, 0, 0, .null) := by decide +kernel
theorem x_193_76 : Tr sc d 193 (76, [some (.ref xk), l1, l2, l3, l4, l5], [.ref k0], h) Q = Tr sc d 193 (77, [some (.ref xk), l1, l2, l3, l4, l5], [.ref xk, .ref k0], h) Q := t_aload_n k_193_76 rfl
theorem k_193_77 : lk 193 77 = some (.getfield 47, 80, 10, 20, .null) := by decide +kernel
theorem x_193_77 : Tr sc d 193 (77, [l0, l1, l2, l3, l4, l5], [.ref k1, .ref k0], h) Q = (okp h k1 10 = true ∧ ∃ q, hR h k1 20 = some q ∧ Tr sc d 193 (80, [l0, l1, l2, l3, l4, l5], [.ref q, .ref k0], h) Q) := t_getr k_193_77
theorem k_193_80 : lk 193 80 = some (.iload 5, 82, 5, 0, .null) := by decide +kernel
theorem x_193_80 : Tr sc d 193 (80, [l0, l1, l2, l3, l4, some (.int x)], [.ref k1, .ref k0], h) Q = Tr sc d 193 (82, [l0, l1, l2, l3, l4, some (.int x)], [.int x, .ref k1, .ref k0], h) Q := t_iload k_193_80 rfl
theorem k_193_82 : lk 193 82 = some (.iaload, 83, 0, 0, .null) := by decide +kernel
theorem x_193_82 : Tr sc d 193 (82, [l0, l1, l2, l3, l4, l5], [.int i2, .ref k1, .ref k0], h) Q = (iOk sc h k1 i2 ∧ Tr sc d 193 (83, [l0, l1, l2, l3, l4, l5], [.int (iRd sc h k1 i2), .ref k0], h) Q) := t_iald k_193_82
theorem k_193_83 : lk 193 83 = some (.goto 10, 86, 93, 0, .null) := by decide +kernel
theorem x_193_83 : Tr sc d 193 (83, [l0, l1, l2, l3, l4, l5], [.int i1, .ref k0], h) Q = Tr sc d 193 (93, [l0, l1, l2, l3, l4, l5], [.int i1, .ref k0], h) Q := t_go k_193_83 rfl
theorem k_193_86 : lk 193 86 = some (.aload_n 0, 87, 0, 0, .null) := by decide +kernel
theorem x_193_86 : Tr sc d 193 (86, [some (.ref xk), l1, l2, l3, l4, l5], [.ref k0], h) Q = Tr sc d 193 (87, [some (.ref xk), l1, l2, l3, l4, l5], [.ref xk, .ref k0], h) Q := t_aload_n k_193_86 rfl
theorem k_193_87 : lk 193 87 = some (.getfield 50, 90, 10, 21, .null) := by decide +kernel
theorem x_193_87 : Tr sc d 193 (87, [l0, l1, l2, l3, l4, l5], [.ref k1, .ref k0], h) Q = (okp h k1 10 = true ∧ ∃ q, hR h k1 21 = some q ∧ Tr sc d 193 (90, [l0, l1, l2, l3, l4, l5], [.ref q, .ref k0], h) Q) := t_getr k_193_87
theorem k_193_90 : lk 193 90 = some (.iload 5, 92, 5, 0, .null) := by decide +kernel
theorem x_193_90 : Tr sc d 193 (90, [l0, l1, l2, l3, l4, some (.int x)], [.ref k1, .ref k0], h) Q = Tr sc d 193 (92, [l0, l1, l2, l3, l4, some (.int x)], [.int x, .ref k1, .ref k0], h) Q := t_iload k_193_90 rfl
theorem k_193_92 : lk 193 92 = some (.iaload, 93, 0, 0, .null) := by decide +kernel
theorem x_193_92 : Tr sc d 193 (92, [l0, l1, l2, l3, l4, l5], [.int i2, .ref k1, .ref k0], h) Q = (iOk sc h k1 i2 ∧ Tr sc d 193 (93, [l0, l1, l2, l3, l4, l5], [.int (iRd sc h k1 i2), .ref k0], h) Q) := t_iald k_193_92
theorem k_193_93 : lk 193 93 = some (.iconst 1, 94, 0, 0, .int 1) := by decide +kernel
theorem x_193_93 : Tr sc d 193 (93, [l0, l1, l2, l3, l4, l5], [.int i1, .ref k0], h) Q = Tr sc d 193 (94, [l0, l1, l2, l3, l4, l5], [.int 1, .int i1, .ref k0], h) Q := t_go k_193_93 rfl
theorem k_193_94 : lk 193 94 = some (.invokevirtual 162, 97, 159, 2, .null) := by decide +kernel
theorem x_193_94 : Tr sc (d + 1) 193 (94, [l0, l1, l2, l3, l4, l5], [.int i2, .int i1, .ref k0], h) Q = (okp h k0 10 = true ∧ Tr sc d 159 (ent0 159 [.ref k0, .int i1, .int i2] h) (fun z => Tr sc (d + 1) 193 (97, [l0, l1, l2, l3, l4, l5], z.1.toList ++ [], z.2) Q)) := t_cv (as := [.int i1, .int i2]) (r := []) k_193_94 rfl rfl (Nat.le_of_ble_eq_true rfl) (Nat.le_of_ble_eq_true rfl) (Nat.le_of_ble_eq_true rfl)
theorem k_193_97 : lk 193 97 = some (.ireturn, 98, 0, 0, .null) := by decide +kernel
theorem x_193_97 : Tr sc d 193 (97, [l0, l1, l2, l3, l4, l5], [.int i0], h) Q = Q (some (.int i0), h) := t_ret k_193_97 (by rw [r_193]; rfl)
theorem e_193 : Tr sc d 193 (ent0 193 [.ref k0, .int i1, .int i2, .int i3] h) Q = Tr sc d 193 (0, [some (.ref k0), some (.int i1), some (.int i2), some (.int i3), none, none], [], h) Q := by
  have e : mL 193 = 6 := by decide +kernel
  unfold ent0
  rw [e]
  rfl
theorem r_194 : mR 194 = some .boolean := by decide +kernel
theorem k_194_0 : lk 194 0 = some (.aload_n 0, 1, 0, 0, .null) := by decide +kernel
theorem x_194_0 : Tr sc d 194 (0, [some (.ref xk), l1], [], h) Q = Tr sc d 194 (1, [some (.ref xk), l1], [.ref xk], h) Q := t_aload_n k_194_0 rfl
theorem k_194_1 : lk 194 1 = some (.getfield 35, 4, 10, 16, .null) := by decide +kernel
theorem x_194_1 : Tr sc d 194 (1, [l0, l1], [.ref k0], h) Q = (okp h k0 10 = true ∧ ∃ q, hR h k0 16 = some q ∧ Tr sc d 194 (4, [l0, l1], [.ref q], h) Q) := t_getr k_194_1
theorem k_194_4 : lk 194 4 = some (.iload_n 1, 5, 1, 0, .null) := by decide +kernel
theorem x_194_4 : Tr sc d 194 (4, [l0, some (.int x)], [.ref k0], h) Q = Tr sc d 194 (5, [l0, some (.int x)], [.int x, .ref k0], h) Q := t_iload_n k_194_4 rfl
theorem k_194_5 : lk 194 5 = some (.iaload, 6, 0, 0, .null) := by decide +kernel
theorem x_194_5 : Tr sc d 194 (5, [l0, l1], [.int i1, .ref k0], h) Q = (iOk sc h k0 i1 ∧ Tr sc d 194 (6, [l0, l1], [.int (iRd sc h k0 i1)], h) Q) := t_iald k_194_5
theorem k_194_6 : lk 194 6 = some (.iconst 1, 7, 0, 0, .int 1) := by decide +kernel
theorem x_194_6 : Tr sc d 194 (6, [l0, l1], [.int i0], h) Q = Tr sc d 194 (7, [l0, l1], [.int 1, .int i0], h) Q := t_go k_194_6 rfl
theorem k_194_7 : lk 194 7 = some (.if_icmp .eq 13, 10, 20, 0, .null) := by decide +kernel
theorem x_194_7 : Tr sc d 194 (7, [l0, l1], [.int i1, .int i0], h) Q = if i0 = i1 then Tr sc d 194 (20, [l0, l1], [], h) Q else Tr sc d 194 (10, [l0, l1], [], h) Q := t_if k_194_7 rfl
theorem k_194_10 : lk 194 10 = some (.aload_n 0, 11, 0, 0, .null) := by decide +kernel
theorem x_194_10 : Tr sc d 194 (10, [some (.ref xk), l1], [], h) Q = Tr sc d 194 (11, [some (.ref xk), l1], [.ref xk], h) Q := t_aload_n k_194_10 rfl
theorem k_194_11 : lk 194 11 = some (.getfield 35, 14, 10, 16, .null) := by decide +kernel
theorem x_194_11 : Tr sc d 194 (11, [l0, l1], [.ref k0], h) Q = (okp h k0 10 = true ∧ ∃ q, hR h k0 16 = some q ∧ Tr sc d 194 (14, [l0, l1], [.ref q], h) Q) := t_getr k_194_11
theorem k_194_14 : lk 194 14 = some (.iload_n 1, 15, 1, 0, .null) := by decide +kernel
theorem x_194_14 : Tr sc d 194 (14, [l0, some (.int x)], [.ref k0], h) Q = Tr sc d 194 (15, [l0, some (.int x)], [.int x, .ref k0], h) Q := t_iload_n k_194_14 rfl
theorem k_194_15 : lk 194 15 = some (.iaload, 16, 0, 0, .null) := by decide +kernel
theorem x_194_15 : Tr sc d 194 (15, [l0, l1], [.int i1, .ref k0], h) Q = (iOk sc h k0 i1 ∧ Tr sc d 194 (16, [l0, l1], [.int (iRd sc h k0 i1)], h) Q) := t_iald k_194_15
theorem k_194_16 : lk 194 16 = some (.iconst 2, 17, 0, 0, .int 2) := by decide +kernel
theorem x_194_16 : Tr sc d 194 (16, [l0, l1], [.int i0], h) Q = Tr sc d 194 (17, [l0, l1], [.int 2, .int i0], h) Q := t_go k_194_16 rfl
theorem k_194_17 : lk 194 17 = some (.if_icmp .ne 7, 20, 24, 0, .null) := by decide +kernel
theorem x_194_17 : Tr sc d 194 (17, [l0, l1], [.int i1, .int i0], h) Q = if i0 = i1 then Tr sc d 194 (20, [l0, l1], [], h) Q else Tr sc d 194 (24, [l0, l1], [], h) Q := t_if k_194_17 rfl
theorem k_194_20 : lk 194 20 = some (.iconst 1, 21, 0, 0, .int 1) := by decide +kernel
theorem x_194_20 : Tr sc d 194 (20, [l0, l1], [], h) Q = Tr sc d 194 (21, [l0, l1], [.int 1], h) Q := t_go k_194_20 rfl
theorem k_194_21 : lk 194 21 = some (.goto 4, 24, 25, 0, .null) := by decide +kernel
theorem x_194_21 : Tr sc d 194 (21, [l0, l1], [.int i0], h) Q = Tr sc d 194 (25, [l0, l1], [.int i0], h) Q := t_go k_194_21 rfl
theorem k_194_24 : lk 194 24 = some (.iconst 0, 25, 0, 0, .int 0) := by decide +kernel
theorem x_194_24 : Tr sc d 194 (24, [l0, l1], [], h) Q = Tr sc d 194 (25, [l0, l1], [.int 0], h) Q := t_go k_194_24 rfl
theorem k_194_25 : lk 194 25 = some (.ireturn, 26, 0, 0, .null) := by decide +kernel
theorem x_194_25 : Tr sc d 194 (25, [l0, l1], [.int i0], h) Q = (vp_nar .boolean i0 = i0 ∧ Q (some (.int i0), h)) := t_zret k_194_25 r_194
theorem e_194 : Tr sc d 194 (ent0 194 [.ref k0, .int i1] h) Q = Tr sc d 194 (0, [some (.ref k0), some (.int i1)], [], h) Q := by
  have e : mL 194 = 2 := by decide +kernel
  unfold ent0
  rw [e]
  rfl
theorem r_195 : mR 195 = some .int := by decide +kernel
theorem k_195_0 : lk 195 0 = some (.iload_n 2, 1, 2, 0, .null) := by decide +kernel
theorem x_195_0 : Tr sc d 195 (0, [l0, l1, some (.int x), l3], [], h) Q = Tr sc d 195 (1, [l0, l1, some (.int x), l3], [.int x], h) Q := t_iload_n k_195_0 rfl
theorem k_195_1 : lk 195 1 = some (.iconst 1, 2, 0, 0, .int 1) := by decide +kernel
theorem x_195_1 : Tr sc d 195 (1, [l0, l1, l2, l3], [.int i0], h) Q = Tr sc d 195 (2, [l0, l1, l2, l3], [.int 1, .int i0], h) Q := t_go k_195_1 rfl
theorem k_195_2 : lk 195 2 = some (.iconst 4, 3, 0, 0, .int 4) := by decide +kernel
theorem x_195_2 : Tr sc d 195 (2, [l0, l1, l2, l3], [.int i1, .int i0], h) Q = Tr sc d 195 (3, [l0, l1, l2, l3], [.int 4, .int i1, .int i0], h) Q := t_go k_195_2 rfl
theorem k_195_3 : lk 195 3 = some (.invokestatic 144, 6, 157, 3, .null) := by decide +kernel
theorem x_195_3 : Tr sc (d + 1) 195 (3, [l0, l1, l2, l3], [.int i2, .int i1, .int i0], h) Q = Tr sc d 157 (ent0 157 [.int i0, .int i1, .int i2] h) (fun z => Tr sc (d + 1) 195 (6, [l0, l1, l2, l3], z.1.toList ++ [], z.2) Q) := t_cs (as := [.int i0, .int i1, .int i2]) (r := []) k_195_3 (by decide) rfl rfl (Nat.le_of_ble_eq_true rfl) (Nat.le_of_ble_eq_true rfl)
theorem k_195_6 : lk 195 6 = some (.ifCond .ne 5, 9, 11, 0, .null) := by decide +kernel
theorem x_195_6 : Tr sc d 195 (6, [l0, l1, l2, l3], [.int i0], h) Q = if i0 = 0 then Tr sc d 195 (9, [l0, l1, l2, l3], [], h) Q else Tr sc d 195 (11, [l0, l1, l2, l3], [], h) Q := t_if k_195_6 rfl
theorem k_195_9 : lk 195 9 = some (.iconst (-1), 10, 0, 0, .int (-1)) := by decide +kernel
theorem x_195_9 : Tr sc d 195 (9, [l0, l1, l2, l3], [], h) Q = Tr sc d 195 (10, [l0, l1, l2, l3], [.int (-1)], h) Q := t_go k_195_9 rfl
theorem k_195_10 : lk 195 10 = some (.ireturn, 11, 0, 0, .null) := by decide +kernel
theorem x_195_10 : Tr sc d 195 (10, [l0, l1, l2, l3], [.int i0], h) Q = Q (some (.int i0), h) := t_ret k_195_10 (by rw [r_195]; rfl)
theorem k_195_11 : lk 195 11 = some (.aload_n 0, 12, 0, 0, .null) := by decide +kernel
theorem x_195_11 : Tr sc d 195 (11, [some (.ref xk), l1, l2, l3], [], h) Q = Tr sc d 195 (12, [some (.ref xk), l1, l2, l3], [.ref xk], h) Q := t_aload_n k_195_11 rfl
theorem k_195_12 : lk 195 12 = some (.iload_n 1, 13, 1, 0, .null) := by decide +kernel
theorem x_195_12 : Tr sc d 195 (12, [l0, some (.int x), l2, l3], [.ref k0], h) Q = Tr sc d 195 (13, [l0, some (.int x), l2, l3], [.int x, .ref k0], h) Q := t_iload_n k_195_12 rfl
theorem k_195_13 : lk 195 13 = some (.invokevirtual 220, 16, 177, 1, .null) := by decide +kernel
theorem x_195_13 : Tr sc (d + 1) 195 (13, [l0, l1, l2, l3], [.int i1, .ref k0], h) Q = (okp h k0 10 = true ∧ Tr sc d 177 (ent0 177 [.ref k0, .int i1] h) (fun z => Tr sc (d + 1) 195 (16, [l0, l1, l2, l3], z.1.toList ++ [], z.2) Q)) := t_cv (as := [.int i1]) (r := []) k_195_13 rfl rfl (Nat.le_of_ble_eq_true rfl) (Nat.le_of_ble_eq_true rfl) (Nat.le_of_ble_eq_true rfl)
theorem k_195_16 : lk 195 16 = some (.istore_n 3, 17, 3, 0, .null) := by decide +kernel
theorem x_195_16 : Tr sc d 195 (16, [l0, l1, l2, l3], [.int i0], h) Q = Tr sc d 195 (17, [l0, l1, cl2 l2, some (.int i0)], [], h) Q := t_istore_n k_195_16 (Nat.le_of_ble_eq_true rfl)
theorem k_195_17 : lk 195 17 = some (.iload_n 3, 18, 3, 0, .null) := by decide +kernel
theorem x_195_17 : Tr sc d 195 (17, [l0, l1, l2, some (.int x)], [], h) Q = Tr sc d 195 (18, [l0, l1, l2, some (.int x)], [.int x], h) Q := t_iload_n k_195_17 rfl
theorem k_195_18 : lk 195 18 = some (.ifCond .ge 5, 21, 23, 0, .null) := by decide +kernel
theorem x_195_18 : Tr sc d 195 (18, [l0, l1, l2, l3], [.int i0], h) Q = if 0 ≤ i0 then Tr sc d 195 (23, [l0, l1, l2, l3], [], h) Q else Tr sc d 195 (21, [l0, l1, l2, l3], [], h) Q := t_if k_195_18 rfl
theorem k_195_21 : lk 195 21 = some (.iload_n 3, 22, 3, 0, .null) := by decide +kernel
theorem x_195_21 : Tr sc d 195 (21, [l0, l1, l2, some (.int x)], [], h) Q = Tr sc d 195 (22, [l0, l1, l2, some (.int x)], [.int x], h) Q := t_iload_n k_195_21 rfl
theorem k_195_22 : lk 195 22 = some (.ireturn, 23, 0, 0, .null) := by decide +kernel
theorem x_195_22 : Tr sc d 195 (22, [l0, l1, l2, l3], [.int i0], h) Q = Q (some (.int i0), h) := t_ret k_195_22 (by rw [r_195]; rfl)
theorem k_195_23 : lk 195 23 = some (.aload_n 0, 24, 0, 0, .null) := by decide +kernel
theorem x_195_23 : Tr sc d 195 (23, [some (.ref xk), l1, l2, l3], [], h) Q = Tr sc d 195 (24, [some (.ref xk), l1, l2, l3], [.ref xk], h) Q := t_aload_n k_195_23 rfl
theorem k_195_24 : lk 195 24 = some (.getfield 35, 27, 10, 16, .null) := by decide +kernel
theorem x_195_24 : Tr sc d 195 (24, [l0, l1, l2, l3], [.ref k0], h) Q = (okp h k0 10 = true ∧ ∃ q, hR h k0 16 = some q ∧ Tr sc d 195 (27, [l0, l1, l2, l3], [.ref q], h) Q) := t_getr k_195_24
theorem k_195_27 : lk 195 27 = some (.iload_n 1, 28, 1, 0, .null) := by decide +kernel
theorem x_195_27 : Tr sc d 195 (27, [l0, some (.int x), l2, l3], [.ref k0], h) Q = Tr sc d 195 (28, [l0, some (.int x), l2, l3], [.int x, .ref k0], h) Q := t_iload_n k_195_27 rfl
theorem k_195_28 : lk 195 28 = some (.iaload, 29, 0, 0, .null) := by decide +kernel
theorem x_195_28 : Tr sc d 195 (28, [l0, l1, l2, l3], [.int i1, .ref k0], h) Q = (iOk sc h k0 i1 ∧ Tr sc d 195 (29, [l0, l1, l2, l3], [.int (iRd sc h k0 i1)], h) Q) := t_iald k_195_28
theorem k_195_29 : lk 195 29 = some (.iload_n 2, 30, 2, 0, .null) := by decide +kernel
theorem x_195_29 : Tr sc d 195 (29, [l0, l1, some (.int x), l3], [.int i0], h) Q = Tr sc d 195 (30, [l0, l1, some (.int x), l3], [.int x, .int i0], h) Q := t_iload_n k_195_29 rfl
theorem k_195_30 : lk 195 30 = some (.if_icmp .eq 22, 33, 52, 0, .null) := by decide +kernel
theorem x_195_30 : Tr sc d 195 (30, [l0, l1, l2, l3], [.int i1, .int i0], h) Q = if i0 = i1 then Tr sc d 195 (52, [l0, l1, l2, l3], [], h) Q else Tr sc d 195 (33, [l0, l1, l2, l3], [], h) Q := t_if k_195_30 rfl
theorem k_195_33 : lk 195 33 = some (.iload_n 2, 34, 2, 0, .null) := by decide +kernel
theorem x_195_33 : Tr sc d 195 (33, [l0, l1, some (.int x), l3], [], h) Q = Tr sc d 195 (34, [l0, l1, some (.int x), l3], [.int x], h) Q := t_iload_n k_195_33 rfl
theorem k_195_34 : lk 195 34 = some (.iconst 1, 35, 0, 0, .int 1) := by decide +kernel
theorem x_195_34 : Tr sc d 195 (34, [l0, l1, l2, l3], [.int i0], h) Q = Tr sc d 195 (35, [l0, l1, l2, l3], [.int 1, .int i0], h) Q := t_go k_195_34 rfl
theorem k_195_35 : lk 195 35 = some (.if_icmp .ne 11, 38, 46, 0, .null) := by decide +kernel
theorem x_195_35 : Tr sc d 195 (35, [l0, l1, l2, l3], [.int i1, .int i0], h) Q = if i0 = i1 then Tr sc d 195 (38, [l0, l1, l2, l3], [], h) Q else Tr sc d 195 (46, [l0, l1, l2, l3], [], h) Q := t_if k_195_35 rfl
theorem k_195_38 : lk 195 38 = some (.aload_n 0, 39, 0, 0, .null) := by decide +kernel
theorem x_195_38 : Tr sc d 195 (38, [some (.ref xk), l1, l2, l3], [], h) Q = Tr sc d 195 (39, [some (.ref xk), l1, l2, l3], [.ref xk], h) Q := t_aload_n k_195_38 rfl
theorem k_195_39 : lk 195 39 = some (.iload_n 1, 40, 1, 0, .null) := by decide +kernel
theorem x_195_39 : Tr sc d 195 (39, [l0, some (.int x), l2, l3], [.ref k0], h) Q = Tr sc d 195 (40, [l0, some (.int x), l2, l3], [.int x, .ref k0], h) Q := t_iload_n k_195_39 rfl
theorem k_195_40 : lk 195 40 = some (.invokevirtual 223, 43, 194, 1, .null) := by decide +kernel
theorem x_195_40 : Tr sc (d + 1) 195 (40, [l0, l1, l2, l3], [.int i1, .ref k0], h) Q = (okp h k0 10 = true ∧ Tr sc d 194 (ent0 194 [.ref k0, .int i1] h) (fun z => Tr sc (d + 1) 195 (43, [l0, l1, l2, l3], z.1.toList ++ [], z.2) Q)) := t_cv (as := [.int i1]) (r := []) k_195_40 rfl rfl (Nat.le_of_ble_eq_true rfl) (Nat.le_of_ble_eq_true rfl) (Nat.le_of_ble_eq_true rfl)
theorem k_195_43 : lk 195 43 = some (.ifCond .ne 9, 46, 52, 0, .null) := by decide +kernel
theorem x_195_43 : Tr sc d 195 (43, [l0, l1, l2, l3], [.int i0], h) Q = if i0 = 0 then Tr sc d 195 (46, [l0, l1, l2, l3], [], h) Q else Tr sc d 195 (52, [l0, l1, l2, l3], [], h) Q := t_if k_195_43 rfl
theorem k_195_46 : lk 195 46 = some (.aload_n 0, 47, 0, 0, .null) := by decide +kernel
theorem x_195_46 : Tr sc d 195 (46, [some (.ref xk), l1, l2, l3], [], h) Q = Tr sc d 195 (47, [some (.ref xk), l1, l2, l3], [.ref xk], h) Q := t_aload_n k_195_46 rfl
theorem k_195_47 : lk 195 47 = some (.iconst 3, 48, 0, 0, .int 3) := by decide +kernel
theorem x_195_47 : Tr sc d 195 (47, [l0, l1, l2, l3], [.ref k0], h) Q = Tr sc d 195 (48, [l0, l1, l2, l3], [.int 3, .ref k0], h) Q := t_go k_195_47 rfl
theorem k_195_48 : lk 195 48 = some (.invokevirtual 152, 51, 158, 1, .null) := by decide +kernel
theorem x_195_48 : Tr sc (d + 1) 195 (48, [l0, l1, l2, l3], [.int i1, .ref k0], h) Q = (okp h k0 10 = true ∧ Tr sc d 158 (ent0 158 [.ref k0, .int i1] h) (fun z => Tr sc (d + 1) 195 (51, [l0, l1, l2, l3], z.1.toList ++ [], z.2) Q)) := t_cv (as := [.int i1]) (r := []) k_195_48 rfl rfl (Nat.le_of_ble_eq_true rfl) (Nat.le_of_ble_eq_true rfl) (Nat.le_of_ble_eq_true rfl)
theorem k_195_51 : lk 195 51 = some (.ireturn, 52, 0, 0, .null) := by decide +kernel
theorem x_195_51 : Tr sc d 195 (51, [l0, l1, l2, l3], [.int i0], h) Q = Q (some (.int i0), h) := t_ret k_195_51 (by rw [r_195]; rfl)
theorem k_195_52 : lk 195 52 = some (.iload_n 2, 53, 2, 0, .null) := by decide +kernel
theorem x_195_52 : Tr sc d 195 (52, [l0, l1, some (.int x), l3], [], h) Q = Tr sc d 195 (53, [l0, l1, some (.int x), l3], [.int x], h) Q := t_iload_n k_195_52 rfl
theorem k_195_53 : lk 195 53 = some (.iconst 1, 54, 0, 0, .int 1) := by decide +kernel
theorem x_195_53 : Tr sc d 195 (53, [l0, l1, l2, l3], [.int i0], h) Q = Tr sc d 195 (54, [l0, l1, l2, l3], [.int 1, .int i0], h) Q := t_go k_195_53 rfl
theorem k_195_54 : lk 195 54 = some (.if_icmp .ne 11, 57, 65, 0, .null) := by decide +kernel
theorem x_195_54 : Tr sc d 195 (54, [l0, l1, l2, l3], [.int i1, .int i0], h) Q = if i0 = i1 then Tr sc d 195 (57, [l0, l1, l2, l3], [], h) Q else Tr sc d 195 (65, [l0, l1, l2, l3], [], h) Q := t_if k_195_54 rfl
theorem k_195_57 : lk 195 57 = some (.aload_n 0, 58, 0, 0, .null) := by decide +kernel
theorem x_195_57 : Tr sc d 195 (57, [some (.ref xk), l1, l2, l3], [], h) Q = Tr sc d 195 (58, [some (.ref xk), l1, l2, l3], [.ref xk], h) Q := t_aload_n k_195_57 rfl
theorem k_195_58 : lk 195 58 = some (.iload_n 1, 59, 1, 0, .null) := by decide +kernel
theorem x_195_58 : Tr sc d 195 (58, [l0, some (.int x), l2, l3], [.ref k0], h) Q = Tr sc d 195 (59, [l0, some (.int x), l2, l3], [.int x, .ref k0], h) Q := t_iload_n k_195_58 rfl
theorem k_195_59 : lk 195 59 = some (.invokevirtual 226, 62, 211, 1, .null) := by decide +kernel
theorem x_195_59 : Tr sc (d + 1) 195 (59, [l0, l1, l2, l3], [.int i1, .ref k0], h) Q = (okp h k0 10 = true ∧ Tr sc d 211 (ent0 211 [.ref k0, .int i1] h) (fun z => Tr sc (d + 1) 195 (62, [l0, l1, l2, l3], z.1.toList ++ [], z.2) Q)) := t_cv (as := [.int i1]) (r := []) k_195_59 rfl rfl (Nat.le_of_ble_eq_true rfl) (Nat.le_of_ble_eq_true rfl) (Nat.le_of_ble_eq_true rfl)
theorem k_195_62 : lk 195 62 = some (.goto 35, 65, 97, 0, .null) := by decide +kernel
theorem x_195_62 : Tr sc d 195 (62, [l0, l1, l2, l3], [.int i0], h) Q = Tr sc d 195 (97, [l0, l1, l2, l3], [.int i0], h) Q := t_go k_195_62 rfl
theorem k_195_65 : lk 195 65 = some (.iload_n 2, 66, 2, 0, .null) := by decide +kernel
theorem x_195_65 : Tr sc d 195 (65, [l0, l1, some (.int x), l3], [], h) Q = Tr sc d 195 (66, [l0, l1, some (.int x), l3], [.int x], h) Q := t_iload_n k_195_65 rfl
theorem k_195_66 : lk 195 66 = some (.iconst 2, 67, 0, 0, .int 2) := by decide +kernel
theorem x_195_66 : Tr sc d 195 (66, [l0, l1, l2, l3], [.int i0], h) Q = Tr sc d 195 (67, [l0, l1, l2, l3], [.int 2, .int i0], h) Q := t_go k_195_66 rfl
theorem k_195_67 : lk 195 67 = some (.if_icmp .ne 12, 70, 79, 0, .null) := by decide +kernel
theorem x_195_67 : Tr sc d 195 (67, [l0, l1, l2, l3], [.int i1, .int i0], h) Q = if i0 = i1 then Tr sc d 195 (70, [l0, l1, l2, l3], [], h) Q else Tr sc d 195 (79, [l0, l1, l2, l3], [], h) Q := t_if k_195_67 rfl
theorem k_195_70 : lk 195 70 = some (.aload_n 0, 71, 0, 0, .null) := by decide +kernel
theorem x_195_70 : Tr sc d 195 (70, [some (.ref xk), l1, l2, l3], [], h) Q = Tr sc d 195 (71, [some (.ref xk), l1, l2, l3], [.ref xk], h) Q := t_aload_n k_195_70 rfl
theorem k_195_71 : lk 195 71 = some (.getfield 41, 74, 10, 18, .null) := by decide +kernel
theorem x_195_71 : Tr sc d 195 (71, [l0, l1, l2, l3], [.ref k0], h) Q = (okp h k0 10 = true ∧ ∃ q, hR h k0 18 = some q ∧ Tr sc d 195 (74, [l0, l1, l2, l3], [.ref q], h) Q) := t_getr k_195_71
theorem k_195_74 : lk 195 74 = some (.iload_n 1, 75, 1, 0, .null) := by decide +kernel
theorem x_195_74 : Tr sc d 195 (74, [l0, some (.int x), l2, l3], [.ref k0], h) Q = Tr sc d 195 (75, [l0, some (.int x), l2, l3], [.int x, .ref k0], h) Q := t_iload_n k_195_74 rfl
theorem k_195_75 : lk 195 75 = some (.iaload, 76, 0, 0, .null) := by decide +kernel
theorem x_195_75 : Tr sc d 195 (75, [l0, l1, l2, l3], [.int i1, .ref k0], h) Q = (iOk sc h k0 i1 ∧ Tr sc d 195 (76, [l0, l1, l2, l3], [.int (iRd sc h k0 i1)], h) Q) := t_iald k_195_75
theorem k_195_76 : lk 195 76 = some (.goto 21, 79, 97, 0, .null) := by decide +kernel
theorem x_195_76 : Tr sc d 195 (76, [l0, l1, l2, l3], [.int i0], h) Q = Tr sc d 195 (97, [l0, l1, l2, l3], [.int i0], h) Q := t_go k_195_76 rfl
theorem k_195_79 : lk 195 79 = some (.iload_n 2, 80, 2, 0, .null) := by decide +kernel
theorem x_195_79 : Tr sc d 195 (79, [l0, l1, some (.int x), l3], [], h) Q = Tr sc d 195 (80, [l0, l1, some (.int x), l3], [.int x], h) Q := t_iload_n k_195_79 rfl
theorem k_195_80 : lk 195 80 = some (.iconst 3, 81, 0, 0, .int 3) := by decide +kernel
theorem x_195_80 : Tr sc d 195 (80, [l0, l1, l2, l3], [.int i0], h) Q = Tr sc d 195 (81, [l0, l1, l2, l3], [.int 3, .int i0], h) Q := t_go k_195_80 rfl
theorem k_195_81 : lk 195 81 = some (.if_icmp .ne 11, 84, 92, 0, .null) := by decide +kernel
theorem x_195_81 : Tr sc d 195 (81, [l0, l1, l2, l3], [.int i1, .int i0], h) Q = if i0 = i1 then Tr sc d 195 (84, [l0, l1, l2, l3], [], h) Q else Tr sc d 195 (92, [l0, l1, l2, l3], [], h) Q := t_if k_195_81 rfl
theorem k_195_84 : lk 195 84 = some (.aload_n 0, 85, 0, 0, .null) := by decide +kernel
theorem x_195_84 : Tr sc d 195 (84, [some (.ref xk), l1, l2, l3], [], h) Q = Tr sc d 195 (85, [some (.ref xk), l1, l2, l3], [.ref xk], h) Q := t_aload_n k_195_84 rfl
theorem k_195_85 : lk 195 85 = some (.iload_n 1, 86, 1, 0, .null) := by decide +kernel
theorem x_195_85 : Tr sc d 195 (85, [l0, some (.int x), l2, l3], [.ref k0], h) Q = Tr sc d 195 (86, [l0, some (.int x), l2, l3], [.int x, .ref k0], h) Q := t_iload_n k_195_85 rfl
theorem k_195_86 : lk 195 86 = some (.invokevirtual 214, 89, 185, 1, .null) := by decide +kernel
theorem x_195_86 : Tr sc (d + 1) 195 (86, [l0, l1, l2, l3], [.int i1, .ref k0], h) Q = (okp h k0 10 = true ∧ Tr sc d 185 (ent0 185 [.ref k0, .int i1] h) (fun z => Tr sc (d + 1) 195 (89, [l0, l1, l2, l3], z.1.toList ++ [], z.2) Q)) := t_cv (as := [.int i1]) (r := []) k_195_86 rfl rfl (Nat.le_of_ble_eq_true rfl) (Nat.le_of_ble_eq_true rfl) (Nat.le_of_ble_eq_true rfl)
theorem k_195_89 : lk 195 89 = some (.goto 8, 92, 97, 0, .null) := by decide +kernel
theorem x_195_89 : Tr sc d 195 (89, [l0, l1, l2, l3], [.int i0], h) Q = Tr sc d 195 (97, [l0, l1, l2, l3], [.int i0], h) Q := t_go k_195_89 rfl
theorem k_195_92 : lk 195 92 = some (.aload_n 0, 93, 0, 0, .null) := by decide +kernel
theorem x_195_92 : Tr sc d 195 (92, [some (.ref xk), l1, l2, l3], [], h) Q = Tr sc d 195 (93, [some (.ref xk), l1, l2, l3], [.ref xk], h) Q := t_aload_n k_195_92 rfl
theorem k_195_93 : lk 195 93 = some (.iload_n 1, 94, 1, 0, .null) := by decide +kernel
theorem x_195_93 : Tr sc d 195 (93, [l0, some (.int x), l2, l3], [.ref k0], h) Q = Tr sc d 195 (94, [l0, some (.int x), l2, l3], [.int x, .ref k0], h) Q := t_iload_n k_195_93 rfl
theorem k_195_94 : lk 195 94 = some (.invokevirtual 217, 97, 186, 1, .null) := by decide +kernel
theorem x_195_94 : Tr sc (d + 1) 195 (94, [l0, l1, l2, l3], [.int i1, .ref k0], h) Q = (okp h k0 10 = true ∧ Tr sc d 186 (ent0 186 [.ref k0, .int i1] h) (fun z => Tr sc (d + 1) 195 (97, [l0, l1, l2, l3], z.1.toList ++ [], z.2) Q)) := t_cv (as := [.int i1]) (r := []) k_195_94 rfl rfl (Nat.le_of_ble_eq_true rfl) (Nat.le_of_ble_eq_true rfl) (Nat.le_of_ble_eq_true rfl)
theorem k_195_97 : lk 195 97 = some (.ireturn, 98, 0, 0, .null) := by decide +kernel
theorem x_195_97 : Tr sc d 195 (97, [l0, l1, l2, l3], [.int i0], h) Q = Q (some (.int i0), h) := t_ret k_195_97 (by rw [r_195]; rfl)
theorem e_195 : Tr sc d 195 (ent0 195 [.ref k0, .int i1, .int i2] h) Q = Tr sc d 195 (0, [some (.ref k0), some (.int i1), some (.int i2), none], [], h) Q := by
  have e : mL 195 = 4 := by decide +kernel
  unfold ent0
  rw [e]
  rfl
theorem r_196 : mR 196 = some .int := by decide +kernel
theorem k_196_0 : lk 196 0 = some (.iconst 1, 1, 0, 0, .int 1) := by decide +kernel
theorem x_196_0 : Tr sc d 196 (0, [l0, l1, l2, l3], [], h) Q = Tr sc d 196 (1, [l0, l1, l2, l3], [.int 1], h) Q := t_go k_196_0 rfl
theorem k_196_1 : lk 196 1 = some (.istore_n 2, 2, 2, 0, .null) := by decide +kernel
theorem x_196_1 : Tr sc d 196 (1, [l0, l1, l2, l3], [.int i0], h) Q = Tr sc d 196 (2, [l0, cl2 l1, some (.int i0), l3], [], h) Q := t_istore_n k_196_1 (Nat.le_of_ble_eq_true rfl)
theorem k_196_2 : lk 196 2 = some (.iconst 0, 3, 0, 0, .int 0) := by decide +kernel
theorem x_196_2 : Tr sc d 196 (2, [l0, l1, l2, l3], [], h) Q = Tr sc d 196 (3, [l0, l1, l2, l3], [.int 0], h) Q := t_go k_196_2 rfl
theorem k_196_3 : lk 196 3 = some (.istore_n 3, 4, 3, 0, .null) := by decide +kernel
theorem x_196_3 : Tr sc d 196 (3, [l0, l1, l2, l3], [.int i0], h) Q = Tr sc d 196 (4, [l0, l1, cl2 l2, some (.int i0)], [], h) Q := t_istore_n k_196_3 (Nat.le_of_ble_eq_true rfl)
theorem k_196_4 : lk 196 4 = some (.iload_n 3, 5, 3, 0, .null) := by decide +kernel
theorem x_196_4 : Tr sc d 196 (4, [l0, l1, l2, some (.int x)], [], h) Q = Tr sc d 196 (5, [l0, l1, l2, some (.int x)], [.int x], h) Q := t_iload_n k_196_4 rfl
theorem k_196_5 : lk 196 5 = some (.iload_n 1, 6, 1, 0, .null) := by decide +kernel
theorem x_196_5 : Tr sc d 196 (5, [l0, some (.int x), l2, l3], [.int i0], h) Q = Tr sc d 196 (6, [l0, some (.int x), l2, l3], [.int x, .int i0], h) Q := t_iload_n k_196_5 rfl
theorem k_196_6 : lk 196 6 = some (.if_icmp .ge 13, 9, 19, 0, .null) := by decide +kernel
theorem x_196_6 : Tr sc d 196 (6, [l0, l1, l2, l3], [.int i1, .int i0], h) Q = if i1 ≤ i0 then Tr sc d 196 (19, [l0, l1, l2, l3], [], h) Q else Tr sc d 196 (9, [l0, l1, l2, l3], [], h) Q := t_if k_196_6 rfl
theorem k_196_9 : lk 196 9 = some (.iload_n 2, 10, 2, 0, .null) := by decide +kernel
theorem x_196_9 : Tr sc d 196 (9, [l0, l1, some (.int x), l3], [], h) Q = Tr sc d 196 (10, [l0, l1, some (.int x), l3], [.int x], h) Q := t_iload_n k_196_9 rfl
theorem k_196_10 : lk 196 10 = some (.iload_n 0, 11, 0, 0, .null) := by decide +kernel
theorem x_196_10 : Tr sc d 196 (10, [some (.int x), l1, l2, l3], [.int i0], h) Q = Tr sc d 196 (11, [some (.int x), l1, l2, l3], [.int x, .int i0], h) Q := t_iload_n k_196_10 rfl
theorem k_196_11 : lk 196 11 = some (.imul, 12, 0, 0, .null) := by decide +kernel
theorem x_196_11 : Tr sc d 196 (11, [l0, l1, l2, l3], [.int i1, .int i0], h) Q = Tr sc d 196 (12, [l0, l1, l2, l3], [.int (i0 * i1)], h) Q := t_go k_196_11 rfl
theorem k_196_12 : lk 196 12 = some (.istore_n 2, 13, 2, 0, .null) := by decide +kernel
theorem x_196_12 : Tr sc d 196 (12, [l0, l1, l2, l3], [.int i0], h) Q = Tr sc d 196 (13, [l0, cl2 l1, some (.int i0), l3], [], h) Q := t_istore_n k_196_12 (Nat.le_of_ble_eq_true rfl)
theorem k_196_13 : lk 196 13 = some (.iinc 3 1, 16, 3, 0, .int 1) := by decide +kernel
theorem x_196_13 : Tr sc d 196 (13, [l0, l1, l2, some (.int x)], [], h) Q = Tr sc d 196 (16, [l0, l1, cl2 l2, some (.int (x + 1))], [], h) Q := t_inc k_196_13 rfl (Nat.le_of_ble_eq_true rfl)
theorem k_196_16 : lk 196 16 = some (.goto (-12), 19, 4, 0, .null) := by decide +kernel
theorem x_196_16 : Tr sc d 196 (16, [l0, l1, l2, l3], [], h) Q = Tr sc d 196 (4, [l0, l1, l2, l3], [], h) Q := t_go k_196_16 rfl
theorem k_196_19 : lk 196 19 = some (.iload_n 2, 20, 2, 0, .null) := by decide +kernel
theorem x_196_19 : Tr sc d 196 (19, [l0, l1, some (.int x), l3], [], h) Q = Tr sc d 196 (20, [l0, l1, some (.int x), l3], [.int x], h) Q := t_iload_n k_196_19 rfl
theorem k_196_20 : lk 196 20 = some (.ireturn, 21, 0, 0, .null) := by decide +kernel
theorem x_196_20 : Tr sc d 196 (20, [l0, l1, l2, l3], [.int i0], h) Q = Q (some (.int i0), h) := t_ret k_196_20 (by rw [r_196]; rfl)
theorem e_196 : Tr sc d 196 (ent0 196 [.int i0, .int i1] h) Q = Tr sc d 196 (0, [some (.int i0), some (.int i1), none, none], [], h) Q := by
  have e : mL 196 = 4 := by decide +kernel
  unfold ent0
  rw [e]
  rfl
theorem r_197 : mR 197 = none := by decide +kernel
theorem k_197_0 : lk 197 0 = some (.aload_n 0, 1, 0, 0, .null) := by decide +kernel
theorem x_197_0 : Tr sc d 197 (0, [some (.ref xk), l1, l2, l3, l4, l5, l6, l7, l8, l9], [], h) Q = Tr sc d 197 (1, [some (.ref xk), l1, l2, l3, l4, l5, l6, l7, l8, l9], [.ref xk], h) Q := t_aload_n k_197_0 rfl
theorem k_197_1 : lk 197 1 = some (.iconst 0, 2, 0, 0, .int 0) := by decide +kernel
theorem x_197_1 : Tr sc d 197 (1, [l0, l1, l2, l3, l4, l5, l6, l7, l8, l9], [.ref k0], h) Q = Tr sc d 197 (2, [l0, l1, l2, l3, l4, l5, l6, l7, l8, l9], [.int 0, .ref k0], h) Q := t_go k_197_1 rfl
theorem k_197_2 : lk 197 2 = some (.putfield 229, 5, 10, 23, .int 0) := by decide +kernel
theorem x_197_2 : Tr sc d 197 (2, [l0, l1, l2, l3, l4, l5, l6, l7, l8, l9], [.int i1, .ref k0], h) Q = (okp h k0 10 = true ∧ Tr sc d 197 (5, [l0, l1, l2, l3, l4, l5, l6, l7, l8, l9], [], (sI h k0 23 i1)) Q) := t_gd k_197_2 rfl
theorem k_197_5 : lk 197 5 = some (.aload_n 0, 6, 0, 0, .null) := by decide +kernel
theorem x_197_5 : Tr sc d 197 (5, [some (.ref xk), l1, l2, l3, l4, l5, l6, l7, l8, l9], [], h) Q = Tr sc d 197 (6, [some (.ref xk), l1, l2, l3, l4, l5, l6, l7, l8, l9], [.ref xk], h) Q := t_aload_n k_197_5 rfl
theorem k_197_6 : lk 197 6 = some (.iconst 0, 7, 0, 0, .int 0) := by decide +kernel
theorem x_197_6 : Tr sc d 197 (6, [l0, l1, l2, l3, l4, l5, l6, l7, l8, l9], [.ref k0], h) Q = Tr sc d 197 (7, [l0, l1, l2, l3, l4, l5, l6, l7, l8, l9], [.int 0, .ref k0], h) Q := t_go k_197_6 rfl
theorem k_197_7 : lk 197 7 = some (.putfield 232, 10, 10, 24, .int 0) := by decide +kernel
theorem x_197_7 : Tr sc d 197 (7, [l0, l1, l2, l3, l4, l5, l6, l7, l8, l9], [.int i1, .ref k0], h) Q = (okp h k0 10 = true ∧ Tr sc d 197 (10, [l0, l1, l2, l3, l4, l5, l6, l7, l8, l9], [], (sI h k0 24 i1)) Q) := t_gd k_197_7 rfl
theorem k_197_10 : lk 197 10 = some (.aload_n 0, 11, 0, 0, .null) := by decide +kernel
theorem x_197_10 : Tr sc d 197 (10, [some (.ref xk), l1, l2, l3, l4, l5, l6, l7, l8, l9], [], h) Q = Tr sc d 197 (11, [some (.ref xk), l1, l2, l3, l4, l5, l6, l7, l8, l9], [.ref xk], h) Q := t_aload_n k_197_10 rfl
theorem k_197_11 : lk 197 11 = some (.iconst 1, 12, 0, 0, .int 1) := by decide +kernel
theorem x_197_11 : Tr sc d 197 (11, [l0, l1, l2, l3, l4, l5, l6, l7, l8, l9], [.ref k0], h) Q = Tr sc d 197 (12, [l0, l1, l2, l3, l4, l5, l6, l7, l8, l9], [.int 1, .ref k0], h) Q := t_go k_197_11 rfl
theorem k_197_12 : lk 197 12 = some (.putfield 235, 15, 10, 25, .int 0) := by decide +kernel
theorem x_197_12 : Tr sc d 197 (12, [l0, l1, l2, l3, l4, l5, l6, l7, l8, l9], [.int i1, .ref k0], h) Q = (okp h k0 10 = true ∧ Tr sc d 197 (15, [l0, l1, l2, l3, l4, l5, l6, l7, l8, l9], [], (sI h k0 25 i1)) Q) := t_gd k_197_12 rfl
theorem k_197_15 : lk 197 15 = some (.aload_n 0, 16, 0, 0, .null) := by decide +kernel
theorem x_197_15 : Tr sc d 197 (15, [some (.ref xk), l1, l2, l3, l4, l5, l6, l7, l8, l9], [], h) Q = Tr sc d 197 (16, [some (.ref xk), l1, l2, l3, l4, l5, l6, l7, l8, l9], [.ref xk], h) Q := t_aload_n k_197_15 rfl
theorem k_197_16 : lk 197 16 = some (.iconst 0, 17, 0, 0, .int 0) := by decide +kernel
theorem x_197_16 : Tr sc d 197 (16, [l0, l1, l2, l3, l4, l5, l6, l7, l8, l9], [.ref k0], h) Q = Tr sc d 197 (17, [l0, l1, l2, l3, l4, l5, l6, l7, l8, l9], [.int 0, .ref k0], h) Q := t_go k_197_16 rfl
theorem k_197_17 : lk 197 17 = some (.putfield 238, 20, 10, 26, .int 0) := by decide +kernel
theorem x_197_17 : Tr sc d 197 (17, [l0, l1, l2, l3, l4, l5, l6, l7, l8, l9], [.int i1, .ref k0], h) Q = (okp h k0 10 = true ∧ Tr sc d 197 (20, [l0, l1, l2, l3, l4, l5, l6, l7, l8, l9], [], (sI h k0 26 i1)) Q) := t_gd k_197_17 rfl
theorem k_197_20 : lk 197 20 = some (.aload_n 0, 21, 0, 0, .null) := by decide +kernel
theorem x_197_20 : Tr sc d 197 (20, [some (.ref xk), l1, l2, l3, l4, l5, l6, l7, l8, l9], [], h) Q = Tr sc d 197 (21, [some (.ref xk), l1, l2, l3, l4, l5, l6, l7, l8, l9], [.ref xk], h) Q := t_aload_n k_197_20 rfl
theorem k_197_21 : lk 197 21 = some (.iconst 0, 22, 0, 0, .int 0) := by decide +kernel
theorem x_197_21 : Tr sc d 197 (21, [l0, l1, l2, l3, l4, l5, l6, l7, l8, l9], [.ref k0], h) Q = Tr sc d 197 (22, [l0, l1, l2, l3, l4, l5, l6, l7, l8, l9], [.int 0, .ref k0], h) Q := t_go k_197_21 rfl
theorem k_197_22 : lk 197 22 = some (.putfield 241, 25, 10, 27, .int 0) := by decide +kernel
theorem x_197_22 : Tr sc d 197 (22, [l0, l1, l2, l3, l4, l5, l6, l7, l8, l9], [.int i1, .ref k0], h) Q = (okp h k0 10 = true ∧ Tr sc d 197 (25, [l0, l1, l2, l3, l4, l5, l6, l7, l8, l9], [], (sI h k0 27 i1)) Q) := t_gd k_197_22 rfl
theorem k_197_25 : lk 197 25 = some (.aload_n 0, 26, 0, 0, .null) := by decide +kernel
theorem x_197_25 : Tr sc d 197 (25, [some (.ref xk), l1, l2, l3, l4, l5, l6, l7, l8, l9], [], h) Q = Tr sc d 197 (26, [some (.ref xk), l1, l2, l3, l4, l5, l6, l7, l8, l9], [.ref xk], h) Q := t_aload_n k_197_25 rfl
theorem k_197_26 : lk 197 26 = some (.iconst 1, 27, 0, 0, .int 1) := by decide +kernel
theorem x_197_26 : Tr sc d 197 (26, [l0, l1, l2, l3, l4, l5, l6, l7, l8, l9], [.ref k0], h) Q = Tr sc d 197 (27, [l0, l1, l2, l3, l4, l5, l6, l7, l8, l9], [.int 1, .ref k0], h) Q := t_go k_197_26 rfl
theorem k_197_27 : lk 197 27 = some (.putfield 244, 30, 10, 28, .int 0) := by decide +kernel
theorem x_197_27 : Tr sc d 197 (27, [l0, l1, l2, l3, l4, l5, l6, l7, l8, l9], [.int i1, .ref k0], h) Q = (okp h k0 10 = true ∧ Tr sc d 197 (30, [l0, l1, l2, l3, l4, l5, l6, l7, l8, l9], [], (sI h k0 28 i1)) Q) := t_gd k_197_27 rfl
theorem k_197_30 : lk 197 30 = some (.iconst 1, 31, 0, 0, .int 1) := by decide +kernel
theorem x_197_30 : Tr sc d 197 (30, [l0, l1, l2, l3, l4, l5, l6, l7, l8, l9], [], h) Q = Tr sc d 197 (31, [l0, l1, l2, l3, l4, l5, l6, l7, l8, l9], [.int 1], h) Q := t_go k_197_30 rfl
theorem k_197_31 : lk 197 31 = some (.istore 5, 33, 5, 0, .null) := by decide +kernel
theorem x_197_31 : Tr sc d 197 (31, [l0, l1, l2, l3, l4, l5, l6, l7, l8, l9], [.int i0], h) Q = Tr sc d 197 (33, [l0, l1, l2, l3, cl2 l4, some (.int i0), l6, l7, l8, l9], [], h) Q := t_istore k_197_31 (Nat.le_of_ble_eq_true rfl)
theorem k_197_33 : lk 197 33 = some (.iload 5, 35, 5, 0, .null) := by decide +kernel
theorem x_197_33 : Tr sc d 197 (33, [l0, l1, l2, l3, l4, some (.int x), l6, l7, l8, l9], [], h) Q = Tr sc d 197 (35, [l0, l1, l2, l3, l4, some (.int x), l6, l7, l8, l9], [.int x], h) Q := t_iload k_197_33 rfl
theorem k_197_35 : lk 197 35 = some (.iload 4, 37, 4, 0, .null) := by decide +kernel
theorem x_197_35 : Tr sc d 197 (35, [l0, l1, l2, l3, some (.int x), l5, l6, l7, l8, l9], [.int i0], h) Q = Tr sc d 197 (37, [l0, l1, l2, l3, some (.int x), l5, l6, l7, l8, l9], [.int x, .int i0], h) Q := t_iload k_197_35 rfl
theorem k_197_37 : lk 197 37 = some (.if_icmp .gt 193, 40, 230, 0, .null) := by decide +kernel
theorem x_197_37 : Tr sc d 197 (37, [l0, l1, l2, l3, l4, l5, l6, l7, l8, l9], [.int i1, .int i0], h) Q = if i1 < i0 then Tr sc d 197 (230, [l0, l1, l2, l3, l4, l5, l6, l7, l8, l9], [], h) Q else Tr sc d 197 (40, [l0, l1, l2, l3, l4, l5, l6, l7, l8, l9], [], h) Q := t_if k_197_37 rfl
theorem k_197_40 : lk 197 40 = some (.bipush 6, 42, 0, 0, .int 6) := by decide +kernel
theorem x_197_40 : Tr sc d 197 (40, [l0, l1, l2, l3, l4, l5, l6, l7, l8, l9], [], h) Q = Tr sc d 197 (42, [l0, l1, l2, l3, l4, l5, l6, l7, l8, l9], [.int 6], h) Q := t_go k_197_40 rfl
theorem k_197_42 : lk 197 42 = some (.iload_n 1, 43, 1, 0, .null) := by decide +kernel
theorem x_197_42 : Tr sc d 197 (42, [l0, some (.int x), l2, l3, l4, l5, l6, l7, l8, l9], [.int i0], h) Q = Tr sc d 197 (43, [l0, some (.int x), l2, l3, l4, l5, l6, l7, l8, l9], [.int x, .int i0], h) Q := t_iload_n k_197_42 rfl
theorem k_197_43 : lk 197 43 = some (.imul, 44, 0, 0, .null) := by decide +kernel
theorem x_197_43 : Tr sc d 197 (43, [l0, l1, l2, l3, l4, l5, l6, l7, l8, l9], [.int i1, .int i0], h) Q = Tr sc d 197 (44, [l0, l1, l2, l3, l4, l5, l6, l7, l8, l9], [.int (i0 * i1)], h) Q := t_go k_197_43 rfl
theorem k_197_44 : lk 197 44 = some (.aload_n 0, 45, 0, 0, .null) := by decide +kernel
theorem x_197_44 : Tr sc d 197 (44, [some (.ref xk), l1, l2, l3, l4, l5, l6, l7, l8, l9], [.int i0], h) Q = Tr sc d 197 (45, [some (.ref xk), l1, l2, l3, l4, l5, l6, l7, l8, l9], [.ref xk, .int i0], h) Q := t_aload_n k_197_44 rfl
theorem k_197_45 : lk 197 45 = some (.getfield 20, 48, 10, 7, .null) := by decide +kernel
theorem x_197_45 : Tr sc d 197 (45, [l0, l1, l2, l3, l4, l5, l6, l7, l8, l9], [.ref k1, .int i0], h) Q = (okp h k1 10 = true ∧ ∃ q, hR h k1 7 = some q ∧ Tr sc d 197 (48, [l0, l1, l2, l3, l4, l5, l6, l7, l8, l9], [.ref q, .int i0], h) Q) := t_getr k_197_45
theorem k_197_48 : lk 197 48 = some (.bipush 40, 50, 0, 0, .int 40) := by decide +kernel
theorem x_197_48 : Tr sc d 197 (48, [l0, l1, l2, l3, l4, l5, l6, l7, l8, l9], [.ref k1, .int i0], h) Q = Tr sc d 197 (50, [l0, l1, l2, l3, l4, l5, l6, l7, l8, l9], [.int 40, .ref k1, .int i0], h) Q := t_go k_197_48 rfl
theorem k_197_50 : lk 197 50 = some (.iload_n 2, 51, 2, 0, .null) := by decide +kernel
theorem x_197_50 : Tr sc d 197 (50, [l0, l1, some (.int x), l3, l4, l5, l6, l7, l8, l9], [.int i2, .ref k1, .int i0], h) Q = Tr sc d 197 (51, [l0, l1, some (.int x), l3, l4, l5, l6, l7, l8, l9], [.int x, .int i2, .ref k1, .int i0], h) Q := t_iload_n k_197_50 rfl
theorem k_197_51 : lk 197 51 = some (.imul, 52, 0, 0, .null) := by decide +kernel
theorem x_197_51 : Tr sc d 197 (51, [l0, l1, l2, l3, l4, l5, l6, l7, l8, l9], [.int i3, .int i2, .ref k1, .int i0], h) Q = Tr sc d 197 (52, [l0, l1, l2, l3, l4, l5, l6, l7, l8, l9], [.int (i2 * i3), .ref k1, .int i0], h) Q := t_go k_197_51 rfl
theorem k_197_52 : lk 197 52 = some (.iload_n 3, 53, 3, 0, .null) := by decide +kernel
theorem x_197_52 : Tr sc d 197 (52, [l0, l1, l2, some (.int x), l4, l5, l6, l7, l8, l9], [.int i2, .ref k1, .int i0], h) Q = Tr sc d 197 (53, [l0, l1, l2, some (.int x), l4, l5, l6, l7, l8, l9], [.int x, .int i2, .ref k1, .int i0], h) Q := t_iload_n k_197_52 rfl
theorem k_197_53 : lk 197 53 = some (.iadd, 54, 0, 0, .null) := by decide +kernel
theorem x_197_53 : Tr sc d 197 (53, [l0, l1, l2, l3, l4, l5, l6, l7, l8, l9], [.int i3, .int i2, .ref k1, .int i0], h) Q = Tr sc d 197 (54, [l0, l1, l2, l3, l4, l5, l6, l7, l8, l9], [.int (i2 + i3), .ref k1, .int i0], h) Q := t_go k_197_53 rfl
theorem k_197_54 : lk 197 54 = some (.iload 4, 56, 4, 0, .null) := by decide +kernel
theorem x_197_54 : Tr sc d 197 (54, [l0, l1, l2, l3, some (.int x), l5, l6, l7, l8, l9], [.int i2, .ref k1, .int i0], h) Q = Tr sc d 197 (56, [l0, l1, l2, l3, some (.int x), l5, l6, l7, l8, l9], [.int x, .int i2, .ref k1, .int i0], h) Q := t_iload k_197_54 rfl
theorem k_197_56 : lk 197 56 = some (.iadd, 57, 0, 0, .null) := by decide +kernel
theorem x_197_56 : Tr sc d 197 (56, [l0, l1, l2, l3, l4, l5, l6, l7, l8, l9], [.int i3, .int i2, .ref k1, .int i0], h) Q = Tr sc d 197 (57, [l0, l1, l2, l3, l4, l5, l6, l7, l8, l9], [.int (i2 + i3), .ref k1, .int i0], h) Q := t_go k_197_56 rfl
theorem k_197_57 : lk 197 57 = some (.iload 5, 59, 5, 0, .null) := by decide +kernel
theorem x_197_57 : Tr sc d 197 (57, [l0, l1, l2, l3, l4, some (.int x), l6, l7, l8, l9], [.int i2, .ref k1, .int i0], h) Q = Tr sc d 197 (59, [l0, l1, l2, l3, l4, some (.int x), l6, l7, l8, l9], [.int x, .int i2, .ref k1, .int i0], h) Q := t_iload k_197_57 rfl
theorem k_197_59 : lk 197 59 = some (.isub, 60, 0, 0, .null) := by decide +kernel
theorem x_197_59 : Tr sc d 197 (59, [l0, l1, l2, l3, l4, l5, l6, l7, l8, l9], [.int i3, .int i2, .ref k1, .int i0], h) Q = Tr sc d 197 (60, [l0, l1, l2, l3, l4, l5, l6, l7, l8, l9], [.int (i2 - i3), .ref k1, .int i0], h) Q := t_go k_197_59 rfl
theorem k_197_60 : lk 197 60 = some (.iaload, 61, 0, 0, .null) := by decide +kernel
theorem x_197_60 : Tr sc d 197 (60, [l0, l1, l2, l3, l4, l5, l6, l7, l8, l9], [.int i2, .ref k1, .int i0], h) Q = (iOk sc h k1 i2 ∧ Tr sc d 197 (61, [l0, l1, l2, l3, l4, l5, l6, l7, l8, l9], [.int (iRd sc h k1 i2), .int i0], h) Q) := t_iald k_197_60
theorem k_197_61 : lk 197 61 = some (.iadd, 62, 0, 0, .null) := by decide +kernel
theorem x_197_61 : Tr sc d 197 (61, [l0, l1, l2, l3, l4, l5, l6, l7, l8, l9], [.int i1, .int i0], h) Q = Tr sc d 197 (62, [l0, l1, l2, l3, l4, l5, l6, l7, l8, l9], [.int (i0 + i1)], h) Q := t_go k_197_61 rfl
theorem k_197_62 : lk 197 62 = some (.istore 6, 64, 6, 0, .null) := by decide +kernel
theorem x_197_62 : Tr sc d 197 (62, [l0, l1, l2, l3, l4, l5, l6, l7, l8, l9], [.int i0], h) Q = Tr sc d 197 (64, [l0, l1, l2, l3, l4, cl2 l5, some (.int i0), l7, l8, l9], [], h) Q := t_istore k_197_62 (Nat.le_of_ble_eq_true rfl)
theorem k_197_64 : lk 197 64 = some (.aload_n 0, 65, 0, 0, .null) := by decide +kernel
theorem x_197_64 : Tr sc d 197 (64, [some (.ref xk), l1, l2, l3, l4, l5, l6, l7, l8, l9], [], h) Q = Tr sc d 197 (65, [some (.ref xk), l1, l2, l3, l4, l5, l6, l7, l8, l9], [.ref xk], h) Q := t_aload_n k_197_64 rfl
theorem k_197_65 : lk 197 65 = some (.getfield 44, 68, 10, 19, .null) := by decide +kernel
theorem x_197_65 : Tr sc d 197 (65, [l0, l1, l2, l3, l4, l5, l6, l7, l8, l9], [.ref k0], h) Q = (okp h k0 10 = true ∧ ∃ q, hR h k0 19 = some q ∧ Tr sc d 197 (68, [l0, l1, l2, l3, l4, l5, l6, l7, l8, l9], [.ref q], h) Q) := t_getr k_197_65
theorem k_197_68 : lk 197 68 = some (.iload 6, 70, 6, 0, .null) := by decide +kernel
theorem x_197_68 : Tr sc d 197 (68, [l0, l1, l2, l3, l4, l5, some (.int x), l7, l8, l9], [.ref k0], h) Q = Tr sc d 197 (70, [l0, l1, l2, l3, l4, l5, some (.int x), l7, l8, l9], [.int x, .ref k0], h) Q := t_iload k_197_68 rfl
theorem k_197_70 : lk 197 70 = some (.iaload, 71, 0, 0, .null) := by decide +kernel
theorem x_197_70 : Tr sc d 197 (70, [l0, l1, l2, l3, l4, l5, l6, l7, l8, l9], [.int i1, .ref k0], h) Q = (iOk sc h k0 i1 ∧ Tr sc d 197 (71, [l0, l1, l2, l3, l4, l5, l6, l7, l8, l9], [.int (iRd sc h k0 i1)], h) Q) := t_iald k_197_70
theorem k_197_71 : lk 197 71 = some (.istore 7, 73, 7, 0, .null) := by decide +kernel
theorem x_197_71 : Tr sc d 197 (71, [l0, l1, l2, l3, l4, l5, l6, l7, l8, l9], [.int i0], h) Q = Tr sc d 197 (73, [l0, l1, l2, l3, l4, l5, cl2 l6, some (.int i0), l8, l9], [], h) Q := t_istore k_197_71 (Nat.le_of_ble_eq_true rfl)
theorem k_197_73 : lk 197 73 = some (.aload_n 0, 74, 0, 0, .null) := by decide +kernel
theorem x_197_73 : Tr sc d 197 (73, [some (.ref xk), l1, l2, l3, l4, l5, l6, l7, l8, l9], [], h) Q = Tr sc d 197 (74, [some (.ref xk), l1, l2, l3, l4, l5, l6, l7, l8, l9], [.ref xk], h) Q := t_aload_n k_197_73 rfl
theorem k_197_74 : lk 197 74 = some (.getfield 38, 77, 10, 17, .null) := by decide +kernel
theorem x_197_74 : Tr sc d 197 (74, [l0, l1, l2, l3, l4, l5, l6, l7, l8, l9], [.ref k0], h) Q = (okp h k0 10 = true ∧ ∃ q, hR h k0 17 = some q ∧ Tr sc d 197 (77, [l0, l1, l2, l3, l4, l5, l6, l7, l8, l9], [.ref q], h) Q) := t_getr k_197_74
theorem k_197_77 : lk 197 77 = some (.iload_n 1, 78, 1, 0, .null) := by decide +kernel
theorem x_197_77 : Tr sc d 197 (77, [l0, some (.int x), l2, l3, l4, l5, l6, l7, l8, l9], [.ref k0], h) Q = Tr sc d 197 (78, [l0, some (.int x), l2, l3, l4, l5, l6, l7, l8, l9], [.int x, .ref k0], h) Q := t_iload_n k_197_77 rfl
theorem k_197_78 : lk 197 78 = some (.iaload, 79, 0, 0, .null) := by decide +kernel
theorem x_197_78 : Tr sc d 197 (78, [l0, l1, l2, l3, l4, l5, l6, l7, l8, l9], [.int i1, .ref k0], h) Q = (iOk sc h k0 i1 ∧ Tr sc d 197 (79, [l0, l1, l2, l3, l4, l5, l6, l7, l8, l9], [.int (iRd sc h k0 i1)], h) Q) := t_iald k_197_78
theorem k_197_79 : lk 197 79 = some (.iload 5, 81, 5, 0, .null) := by decide +kernel
theorem x_197_79 : Tr sc d 197 (79, [l0, l1, l2, l3, l4, some (.int x), l6, l7, l8, l9], [.int i0], h) Q = Tr sc d 197 (81, [l0, l1, l2, l3, l4, some (.int x), l6, l7, l8, l9], [.int x, .int i0], h) Q := t_iload k_197_79 rfl
theorem k_197_81 : lk 197 81 = some (.iconst 1, 82, 0, 0, .int 1) := by decide +kernel
theorem x_197_81 : Tr sc d 197 (81, [l0, l1, l2, l3, l4, l5, l6, l7, l8, l9], [.int i1, .int i0], h) Q = Tr sc d 197 (82, [l0, l1, l2, l3, l4, l5, l6, l7, l8, l9], [.int 1, .int i1, .int i0], h) Q := t_go k_197_81 rfl
theorem k_197_82 : lk 197 82 = some (.isub, 83, 0, 0, .null) := by decide +kernel
theorem x_197_82 : Tr sc d 197 (82, [l0, l1, l2, l3, l4, l5, l6, l7, l8, l9], [.int i2, .int i1, .int i0], h) Q = Tr sc d 197 (83, [l0, l1, l2, l3, l4, l5, l6, l7, l8, l9], [.int (i1 - i2), .int i0], h) Q := t_go k_197_82 rfl
theorem k_197_83 : lk 197 83 = some (.invokestatic 247, 86, 196, 2, .null) := by decide +kernel
theorem x_197_83 : Tr sc (d + 1) 197 (83, [l0, l1, l2, l3, l4, l5, l6, l7, l8, l9], [.int i1, .int i0], h) Q = Tr sc d 196 (ent0 196 [.int i0, .int i1] h) (fun z => Tr sc (d + 1) 197 (86, [l0, l1, l2, l3, l4, l5, l6, l7, l8, l9], z.1.toList ++ [], z.2) Q) := t_cs (as := [.int i0, .int i1]) (r := []) k_197_83 (by decide) rfl rfl (Nat.le_of_ble_eq_true rfl) (Nat.le_of_ble_eq_true rfl)
theorem k_197_86 : lk 197 86 = some (.istore 8, 88, 8, 0, .null) := by decide +kernel
theorem x_197_86 : Tr sc d 197 (86, [l0, l1, l2, l3, l4, l5, l6, l7, l8, l9], [.int i0], h) Q = Tr sc d 197 (88, [l0, l1, l2, l3, l4, l5, l6, cl2 l7, some (.int i0), l9], [], h) Q := t_istore k_197_86 (Nat.le_of_ble_eq_true rfl)
theorem k_197_88 : lk 197 88 = some (.iload 7, 90, 7, 0, .null) := by decide +kernel
theorem x_197_88 : Tr sc d 197 (88, [l0, l1, l2, l3, l4, l5, l6, some (.int x), l8, l9], [], h) Q = Tr sc d 197 (90, [l0, l1, l2, l3, l4, l5, l6, some (.int x), l8, l9], [.int x], h) Q := t_iload k_197_88 rfl
theorem k_197_90 : lk 197 90 = some (.aload_n 0, 91, 0, 0, .null) := by decide +kernel
theorem x_197_90 : Tr sc d 197 (90, [some (.ref xk), l1, l2, l3, l4, l5, l6, l7, l8, l9], [.int i0], h) Q = Tr sc d 197 (91, [some (.ref xk), l1, l2, l3, l4, l5, l6, l7, l8, l9], [.ref xk, .int i0], h) Q := t_aload_n k_197_90 rfl
theorem k_197_91 : lk 197 91 = some (.getfield 229, 94, 10, 23, .int 0) := by decide +kernel
theorem x_197_91 : Tr sc d 197 (91, [l0, l1, l2, l3, l4, l5, l6, l7, l8, l9], [.ref k1, .int i0], h) Q = (okp h k1 10 = true ∧ Tr sc d 197 (94, [l0, l1, l2, l3, l4, l5, l6, l7, l8, l9], [.int (hI h k1 23), .int i0], h) Q) := t_gd k_197_91 rfl
theorem k_197_94 : lk 197 94 = some (.aload_n 0, 95, 0, 0, .null) := by decide +kernel
theorem x_197_94 : Tr sc d 197 (94, [some (.ref xk), l1, l2, l3, l4, l5, l6, l7, l8, l9], [.int i1, .int i0], h) Q = Tr sc d 197 (95, [some (.ref xk), l1, l2, l3, l4, l5, l6, l7, l8, l9], [.ref xk, .int i1, .int i0], h) Q := t_aload_n k_197_94 rfl
theorem k_197_95 : lk 197 95 = some (.getfield 232, 98, 10, 24, .int 0) := by decide +kernel
theorem x_197_95 : Tr sc d 197 (95, [l0, l1, l2, l3, l4, l5, l6, l7, l8, l9], [.ref k2, .int i1, .int i0], h) Q = (okp h k2 10 = true ∧ Tr sc d 197 (98, [l0, l1, l2, l3, l4, l5, l6, l7, l8, l9], [.int (hI h k2 24), .int i1, .int i0], h) Q) := t_gd k_197_95 rfl
theorem k_197_98 : lk 197 98 = some (.invokestatic 250, 101, 178, 3, .null) := by decide +kernel
theorem x_197_98 : Tr sc (d + 1) 197 (98, [l0, l1, l2, l3, l4, l5, l6, l7, l8, l9], [.int i2, .int i1, .int i0], h) Q = Tr sc d 178 (ent0 178 [.int i0, .int i1, .int i2] h) (fun z => Tr sc (d + 1) 197 (101, [l0, l1, l2, l3, l4, l5, l6, l7, l8, l9], z.1.toList ++ [], z.2) Q) := t_cs (as := [.int i0, .int i1, .int i2]) (r := []) k_197_98 (by decide) rfl rfl (Nat.le_of_ble_eq_true rfl) (Nat.le_of_ble_eq_true rfl)
theorem k_197_101 : lk 197 101 = some (.iload 8, 103, 8, 0, .null) := by decide +kernel
theorem x_197_101 : Tr sc d 197 (101, [l0, l1, l2, l3, l4, l5, l6, l7, some (.int x), l9], [.int i0], h) Q = Tr sc d 197 (103, [l0, l1, l2, l3, l4, l5, l6, l7, some (.int x), l9], [.int x, .int i0], h) Q := t_iload k_197_101 rfl
theorem k_197_103 : lk 197 103 = some (.aload_n 0, 104, 0, 0, .null) := by decide +kernel
theorem x_197_103 : Tr sc d 197 (103, [some (.ref xk), l1, l2, l3, l4, l5, l6, l7, l8, l9], [.int i1, .int i0], h) Q = Tr sc d 197 (104, [some (.ref xk), l1, l2, l3, l4, l5, l6, l7, l8, l9], [.ref xk, .int i1, .int i0], h) Q := t_aload_n k_197_103 rfl
theorem k_197_104 : lk 197 104 = some (.getfield 47, 107, 10, 20, .null) := by decide +kernel
theorem x_197_104 : Tr sc d 197 (104, [l0, l1, l2, l3, l4, l5, l6, l7, l8, l9], [.ref k2, .int i1, .int i0], h) Q = (okp h k2 10 = true ∧ ∃ q, hR h k2 20 = some q ∧ Tr sc d 197 (107, [l0, l1, l2, l3, l4, l5, l6, l7, l8, l9], [.ref q, .int i1, .int i0], h) Q) := t_getr k_197_104
theorem k_197_107 : lk 197 107 = some (.iload 6, 109, 6, 0, .null) := by decide +kernel
theorem x_197_107 : Tr sc d 197 (107, [l0, l1, l2, l3, l4, l5, some (.int x), l7, l8, l9], [.ref k2, .int i1, .int i0], h) Q = Tr sc d 197 (109, [l0, l1, l2, l3, l4, l5, some (.int x), l7, l8, l9], [.int x, .ref k2, .int i1, .int i0], h) Q := t_iload k_197_107 rfl
theorem k_197_109 : lk 197 109 = some (.iaload, 110, 0, 0, .null) := by decide +kernel
theorem x_197_109 : Tr sc d 197 (109, [l0, l1, l2, l3, l4, l5, l6, l7, l8, l9], [.int i3, .ref k2, .int i1, .int i0], h) Q = (iOk sc h k2 i3 ∧ Tr sc d 197 (110, [l0, l1, l2, l3, l4, l5, l6, l7, l8, l9], [.int (iRd sc h k2 i3), .int i1, .int i0], h) Q) := t_iald k_197_109
theorem k_197_110 : lk 197 110 = some (.imul, 111, 0, 0, .null) := by decide +kernel
theorem x_197_110 : Tr sc d 197 (110, [l0, l1, l2, l3, l4, l5, l6, l7, l8, l9], [.int i2, .int i1, .int i0], h) Q = Tr sc d 197 (111, [l0, l1, l2, l3, l4, l5, l6, l7, l8, l9], [.int (i1 * i2), .int i0], h) Q := t_go k_197_110 rfl
theorem k_197_111 : lk 197 111 = some (.iadd, 112, 0, 0, .null) := by decide +kernel
theorem x_197_111 : Tr sc d 197 (111, [l0, l1, l2, l3, l4, l5, l6, l7, l8, l9], [.int i1, .int i0], h) Q = Tr sc d 197 (112, [l0, l1, l2, l3, l4, l5, l6, l7, l8, l9], [.int (i0 + i1)], h) Q := t_go k_197_111 rfl
theorem k_197_112 : lk 197 112 = some (.istore 9, 114, 9, 0, .null) := by decide +kernel
theorem x_197_112 : Tr sc d 197 (112, [l0, l1, l2, l3, l4, l5, l6, l7, l8, l9], [.int i0], h) Q = Tr sc d 197 (114, [l0, l1, l2, l3, l4, l5, l6, l7, cl2 l8, some (.int i0)], [], h) Q := t_istore k_197_112 (Nat.le_of_ble_eq_true rfl)
theorem k_197_114 : lk 197 114 = some (.aload_n 0, 115, 0, 0, .null) := by decide +kernel
theorem x_197_114 : Tr sc d 197 (114, [some (.ref xk), l1, l2, l3, l4, l5, l6, l7, l8, l9], [], h) Q = Tr sc d 197 (115, [some (.ref xk), l1, l2, l3, l4, l5, l6, l7, l8, l9], [.ref xk], h) Q := t_aload_n k_197_114 rfl
theorem k_197_115 : lk 197 115 = some (.iload 7, 117, 7, 0, .null) := by decide +kernel
theorem x_197_115 : Tr sc d 197 (115, [l0, l1, l2, l3, l4, l5, l6, some (.int x), l8, l9], [.ref k0], h) Q = Tr sc d 197 (117, [l0, l1, l2, l3, l4, l5, l6, some (.int x), l8, l9], [.int x, .ref k0], h) Q := t_iload k_197_115 rfl
theorem k_197_117 : lk 197 117 = some (.aload_n 0, 118, 0, 0, .null) := by decide +kernel
theorem x_197_117 : Tr sc d 197 (117, [some (.ref xk), l1, l2, l3, l4, l5, l6, l7, l8, l9], [.int i1, .ref k0], h) Q = Tr sc d 197 (118, [some (.ref xk), l1, l2, l3, l4, l5, l6, l7, l8, l9], [.ref xk, .int i1, .ref k0], h) Q := t_aload_n k_197_117 rfl
theorem k_197_118 : lk 197 118 = some (.getfield 229, 121, 10, 23, .int 0) := by decide +kernel
theorem x_197_118 : Tr sc d 197 (118, [l0, l1, l2, l3, l4, l5, l6, l7, l8, l9], [.ref k2, .int i1, .ref k0], h) Q = (okp h k2 10 = true ∧ Tr sc d 197 (121, [l0, l1, l2, l3, l4, l5, l6, l7, l8, l9], [.int (hI h k2 23), .int i1, .ref k0], h) Q) := t_gd k_197_118 rfl
theorem k_197_121 : lk 197 121 = some (.aload_n 0, 122, 0, 0, .null) := by decide +kernel
theorem x_197_121 : Tr sc d 197 (121, [some (.ref xk), l1, l2, l3, l4, l5, l6, l7, l8, l9], [.int i2, .int i1, .ref k0], h) Q = Tr sc d 197 (122, [some (.ref xk), l1, l2, l3, l4, l5, l6, l7, l8, l9], [.ref xk, .int i2, .int i1, .ref k0], h) Q := t_aload_n k_197_121 rfl
theorem k_197_122 : lk 197 122 = some (.getfield 232, 125, 10, 24, .int 0) := by decide +kernel
theorem x_197_122 : Tr sc d 197 (122, [l0, l1, l2, l3, l4, l5, l6, l7, l8, l9], [.ref k3, .int i2, .int i1, .ref k0], h) Q = (okp h k3 10 = true ∧ Tr sc d 197 (125, [l0, l1, l2, l3, l4, l5, l6, l7, l8, l9], [.int (hI h k3 24), .int i2, .int i1, .ref k0], h) Q) := t_gd k_197_122 rfl
theorem k_197_125 : lk 197 125 = some (.invokestatic 254, 128, 179, 3, .null) := by decide +kernel
theorem x_197_125 : Tr sc (d + 1) 197 (125, [l0, l1, l2, l3, l4, l5, l6, l7, l8, l9], [.int i3, .int i2, .int i1, .ref k0], h) Q = Tr sc d 179 (ent0 179 [.int i1, .int i2, .int i3] h) (fun z => Tr sc (d + 1) 197 (128, [l0, l1, l2, l3, l4, l5, l6, l7, l8, l9], z.1.toList ++ [.ref k0], z.2) Q) := t_cs (as := [.int i1, .int i2, .int i3]) (r := [.ref k0]) k_197_125 (by decide) rfl rfl (Nat.le_of_ble_eq_true rfl) (Nat.le_of_ble_eq_true rfl)
theorem k_197_128 : lk 197 128 = some (.iload 8, 130, 8, 0, .null) := by decide +kernel
theorem x_197_128 : Tr sc d 197 (128, [l0, l1, l2, l3, l4, l5, l6, l7, some (.int x), l9], [.int i1, .ref k0], h) Q = Tr sc d 197 (130, [l0, l1, l2, l3, l4, l5, l6, l7, some (.int x), l9], [.int x, .int i1, .ref k0], h) Q := t_iload k_197_128 rfl
theorem k_197_130 : lk 197 130 = some (.aload_n 0, 131, 0, 0, .null) := by decide +kernel
theorem x_197_130 : Tr sc d 197 (130, [some (.ref xk), l1, l2, l3, l4, l5, l6, l7, l8, l9], [.int i2, .int i1, .ref k0], h) Q = Tr sc d 197 (131, [some (.ref xk), l1, l2, l3, l4, l5, l6, l7, l8, l9], [.ref xk, .int i2, .int i1, .ref k0], h) Q := t_aload_n k_197_130 rfl
theorem k_197_131 : lk 197 131 = some (.getfield 50, 134, 10, 21, .null) := by decide +kernel
theorem x_197_131 : Tr sc d 197 (131, [l0, l1, l2, l3, l4, l5, l6, l7, l8, l9], [.ref k3, .int i2, .int i1, .ref k0], h) Q = (okp h k3 10 = true ∧ ∃ q, hR h k3 21 = some q ∧ Tr sc d 197 (134, [l0, l1, l2, l3, l4, l5, l6, l7, l8, l9], [.ref q, .int i2, .int i1, .ref k0], h) Q) := t_getr k_197_131
theorem k_197_134 : lk 197 134 = some (.iload 6, 136, 6, 0, .null) := by decide +kernel
theorem x_197_134 : Tr sc d 197 (134, [l0, l1, l2, l3, l4, l5, some (.int x), l7, l8, l9], [.ref k3, .int i2, .int i1, .ref k0], h) Q = Tr sc d 197 (136, [l0, l1, l2, l3, l4, l5, some (.int x), l7, l8, l9], [.int x, .ref k3, .int i2, .int i1, .ref k0], h) Q := t_iload k_197_134 rfl
theorem k_197_136 : lk 197 136 = some (.iaload, 137, 0, 0, .null) := by decide +kernel
theorem x_197_136 : Tr sc d 197 (136, [l0, l1, l2, l3, l4, l5, l6, l7, l8, l9], [.int i4, .ref k3, .int i2, .int i1, .ref k0], h) Q = (iOk sc h k3 i4 ∧ Tr sc d 197 (137, [l0, l1, l2, l3, l4, l5, l6, l7, l8, l9], [.int (iRd sc h k3 i4), .int i2, .int i1, .ref k0], h) Q) := t_iald k_197_136
theorem k_197_137 : lk 197 137 = some (.imul, 138, 0, 0, .null) := by decide +kernel
theorem x_197_137 : Tr sc d 197 (137, [l0, l1, l2, l3, l4, l5, l6, l7, l8, l9], [.int i3, .int i2, .int i1, .ref k0], h) Q = Tr sc d 197 (138, [l0, l1, l2, l3, l4, l5, l6, l7, l8, l9], [.int (i2 * i3), .int i1, .ref k0], h) Q := t_go k_197_137 rfl
theorem k_197_138 : lk 197 138 = some (.iadd, 139, 0, 0, .null) := by decide +kernel
theorem x_197_138 : Tr sc d 197 (138, [l0, l1, l2, l3, l4, l5, l6, l7, l8, l9], [.int i2, .int i1, .ref k0], h) Q = Tr sc d 197 (139, [l0, l1, l2, l3, l4, l5, l6, l7, l8, l9], [.int (i1 + i2), .ref k0], h) Q := t_go k_197_138 rfl
theorem k_197_139 : lk 197 139 = some (.putfield 232, 142, 10, 24, .int 0) := by decide +kernel
theorem x_197_139 : Tr sc d 197 (139, [l0, l1, l2, l3, l4, l5, l6, l7, l8, l9], [.int i1, .ref k0], h) Q = (okp h k0 10 = true ∧ Tr sc d 197 (142, [l0, l1, l2, l3, l4, l5, l6, l7, l8, l9], [], (sI h k0 24 i1)) Q) := t_gd k_197_139 rfl
theorem k_197_142 : lk 197 142 = some (.aload_n 0, 143, 0, 0, .null) := by decide +kernel
theorem x_197_142 : Tr sc d 197 (142, [some (.ref xk), l1, l2, l3, l4, l5, l6, l7, l8, l9], [], h) Q = Tr sc d 197 (143, [some (.ref xk), l1, l2, l3, l4, l5, l6, l7, l8, l9], [.ref xk], h) Q := t_aload_n k_197_142 rfl
theorem k_197_143 : lk 197 143 = some (.iload 9, 145, 9, 0, .null) := by decide +kernel
theorem x_197_143 : Tr sc d 197 (143, [l0, l1, l2, l3, l4, l5, l6, l7, l8, some (.int x)], [.ref k0], h) Q = Tr sc d 197 (145, [l0, l1, l2, l3, l4, l5, l6, l7, l8, some (.int x)], [.int x, .ref k0], h) Q := t_iload k_197_143 rfl
theorem k_197_145 : lk 197 145 = some (.putfield 229, 148, 10, 23, .int 0) := by decide +kernel
theorem x_197_145 : Tr sc d 197 (145, [l0, l1, l2, l3, l4, l5, l6, l7, l8, l9], [.int i1, .ref k0], h) Q = (okp h k0 10 = true ∧ Tr sc d 197 (148, [l0, l1, l2, l3, l4, l5, l6, l7, l8, l9], [], (sI h k0 23 i1)) Q) := t_gd k_197_145 rfl
theorem k_197_148 : lk 197 148 = some (.iload 7, 150, 7, 0, .null) := by decide +kernel
theorem x_197_148 : Tr sc d 197 (148, [l0, l1, l2, l3, l4, l5, l6, some (.int x), l8, l9], [], h) Q = Tr sc d 197 (150, [l0, l1, l2, l3, l4, l5, l6, some (.int x), l8, l9], [.int x], h) Q := t_iload k_197_148 rfl
theorem k_197_150 : lk 197 150 = some (.aload_n 0, 151, 0, 0, .null) := by decide +kernel
theorem x_197_150 : Tr sc d 197 (150, [some (.ref xk), l1, l2, l3, l4, l5, l6, l7, l8, l9], [.int i0], h) Q = Tr sc d 197 (151, [some (.ref xk), l1, l2, l3, l4, l5, l6, l7, l8, l9], [.ref xk, .int i0], h) Q := t_aload_n k_197_150 rfl
theorem k_197_151 : lk 197 151 = some (.getfield 235, 154, 10, 25, .int 0) := by decide +kernel
theorem x_197_151 : Tr sc d 197 (151, [l0, l1, l2, l3, l4, l5, l6, l7, l8, l9], [.ref k1, .int i0], h) Q = (okp h k1 10 = true ∧ Tr sc d 197 (154, [l0, l1, l2, l3, l4, l5, l6, l7, l8, l9], [.int (hI h k1 25), .int i0], h) Q) := t_gd k_197_151 rfl
theorem k_197_154 : lk 197 154 = some (.aload_n 0, 155, 0, 0, .null) := by decide +kernel
theorem x_197_154 : Tr sc d 197 (154, [some (.ref xk), l1, l2, l3, l4, l5, l6, l7, l8, l9], [.int i1, .int i0], h) Q = Tr sc d 197 (155, [some (.ref xk), l1, l2, l3, l4, l5, l6, l7, l8, l9], [.ref xk, .int i1, .int i0], h) Q := t_aload_n k_197_154 rfl
theorem k_197_155 : lk 197 155 = some (.getfield 238, 158, 10, 26, .int 0) := by decide +kernel
theorem x_197_155 : Tr sc d 197 (155, [l0, l1, l2, l3, l4, l5, l6, l7, l8, l9], [.ref k2, .int i1, .int i0], h) Q = (okp h k2 10 = true ∧ Tr sc d 197 (158, [l0, l1, l2, l3, l4, l5, l6, l7, l8, l9], [.int (hI h k2 26), .int i1, .int i0], h) Q) := t_gd k_197_155 rfl
theorem k_197_158 : lk 197 158 = some (.invokestatic 250, 161, 178, 3, .null) := by decide +kernel
theorem x_197_158 : Tr sc (d + 1) 197 (158, [l0, l1, l2, l3, l4, l5, l6, l7, l8, l9], [.int i2, .int i1, .int i0], h) Q = Tr sc d 178 (ent0 178 [.int i0, .int i1, .int i2] h) (fun z => Tr sc (d + 1) 197 (161, [l0, l1, l2, l3, l4, l5, l6, l7, l8, l9], z.1.toList ++ [], z.2) Q) := t_cs (as := [.int i0, .int i1, .int i2]) (r := []) k_197_158 (by decide) rfl rfl (Nat.le_of_ble_eq_true rfl) (Nat.le_of_ble_eq_true rfl)
theorem k_197_161 : lk 197 161 = some (.istore 9, 163, 9, 0, .null) := by decide +kernel
theorem x_197_161 : Tr sc d 197 (161, [l0, l1, l2, l3, l4, l5, l6, l7, l8, l9], [.int i0], h) Q = Tr sc d 197 (163, [l0, l1, l2, l3, l4, l5, l6, l7, cl2 l8, some (.int i0)], [], h) Q := t_istore k_197_161 (Nat.le_of_ble_eq_true rfl)
theorem k_197_163 : lk 197 163 = some (.aload_n 0, 164, 0, 0, .null) := by decide +kernel
theorem x_197_163 : Tr sc d 197 (163, [some (.ref xk), l1, l2, l3, l4, l5, l6, l7, l8, l9], [], h) Q = Tr sc d 197 (164, [some (.ref xk), l1, l2, l3, l4, l5, l6, l7, l8, l9], [.ref xk], h) Q := t_aload_n k_197_163 rfl
theorem k_197_164 : lk 197 164 = some (.iload 7, 166, 7, 0, .null) := by decide +kernel
theorem x_197_164 : Tr sc d 197 (164, [l0, l1, l2, l3, l4, l5, l6, some (.int x), l8, l9], [.ref k0], h) Q = Tr sc d 197 (166, [l0, l1, l2, l3, l4, l5, l6, some (.int x), l8, l9], [.int x, .ref k0], h) Q := t_iload k_197_164 rfl
theorem k_197_166 : lk 197 166 = some (.aload_n 0, 167, 0, 0, .null) := by decide +kernel
theorem x_197_166 : Tr sc d 197 (166, [some (.ref xk), l1, l2, l3, l4, l5, l6, l7, l8, l9], [.int i1, .ref k0], h) Q = Tr sc d 197 (167, [some (.ref xk), l1, l2, l3, l4, l5, l6, l7, l8, l9], [.ref xk, .int i1, .ref k0], h) Q := t_aload_n k_197_166 rfl
theorem k_197_167 : lk 197 167 = some (.getfield 235, 170, 10, 25, .int 0) := by decide +kernel
theorem x_197_167 : Tr sc d 197 (167, [l0, l1, l2, l3, l4, l5, l6, l7, l8, l9], [.ref k2, .int i1, .ref k0], h) Q = (okp h k2 10 = true ∧ Tr sc d 197 (170, [l0, l1, l2, l3, l4, l5, l6, l7, l8, l9], [.int (hI h k2 25), .int i1, .ref k0], h) Q) := t_gd k_197_167 rfl
theorem k_197_170 : lk 197 170 = some (.aload_n 0, 171, 0, 0, .null) := by decide +kernel
theorem x_197_170 : Tr sc d 197 (170, [some (.ref xk), l1, l2, l3, l4, l5, l6, l7, l8, l9], [.int i2, .int i1, .ref k0], h) Q = Tr sc d 197 (171, [some (.ref xk), l1, l2, l3, l4, l5, l6, l7, l8, l9], [.ref xk, .int i2, .int i1, .ref k0], h) Q := t_aload_n k_197_170 rfl
theorem k_197_171 : lk 197 171 = some (.getfield 238, 174, 10, 26, .int 0) := by decide +kernel
theorem x_197_171 : Tr sc d 197 (171, [l0, l1, l2, l3, l4, l5, l6, l7, l8, l9], [.ref k3, .int i2, .int i1, .ref k0], h) Q = (okp h k3 10 = true ∧ Tr sc d 197 (174, [l0, l1, l2, l3, l4, l5, l6, l7, l8, l9], [.int (hI h k3 26), .int i2, .int i1, .ref k0], h) Q) := t_gd k_197_171 rfl
theorem k_197_174 : lk 197 174 = some (.invokestatic 254, 177, 179, 3, .null) := by decide +kernel
theorem x_197_174 : Tr sc (d + 1) 197 (174, [l0, l1, l2, l3, l4, l5, l6, l7, l8, l9], [.int i3, .int i2, .int i1, .ref k0], h) Q = Tr sc d 179 (ent0 179 [.int i1, .int i2, .int i3] h) (fun z => Tr sc (d + 1) 197 (177, [l0, l1, l2, l3, l4, l5, l6, l7, l8, l9], z.1.toList ++ [.ref k0], z.2) Q) := t_cs (as := [.int i1, .int i2, .int i3]) (r := [.ref k0]) k_197_174 (by decide) rfl rfl (Nat.le_of_ble_eq_true rfl) (Nat.le_of_ble_eq_true rfl)
theorem k_197_177 : lk 197 177 = some (.putfield 238, 180, 10, 26, .int 0) := by decide +kernel
theorem x_197_177 : Tr sc d 197 (177, [l0, l1, l2, l3, l4, l5, l6, l7, l8, l9], [.int i1, .ref k0], h) Q = (okp h k0 10 = true ∧ Tr sc d 197 (180, [l0, l1, l2, l3, l4, l5, l6, l7, l8, l9], [], (sI h k0 26 i1)) Q) := t_gd k_197_177 rfl
theorem k_197_180 : lk 197 180 = some (.aload_n 0, 181, 0, 0, .null) := by decide +kernel
theorem x_197_180 : Tr sc d 197 (180, [some (.ref xk), l1, l2, l3, l4, l5, l6, l7, l8, l9], [], h) Q = Tr sc d 197 (181, [some (.ref xk), l1, l2, l3, l4, l5, l6, l7, l8, l9], [.ref xk], h) Q := t_aload_n k_197_180 rfl
theorem k_197_181 : lk 197 181 = some (.iload 9, 183, 9, 0, .null) := by decide +kernel
theorem x_197_181 : Tr sc d 197 (181, [l0, l1, l2, l3, l4, l5, l6, l7, l8, some (.int x)], [.ref k0], h) Q = Tr sc d 197 (183, [l0, l1, l2, l3, l4, l5, l6, l7, l8, some (.int x)], [.int x, .ref k0], h) Q := t_iload k_197_181 rfl
theorem k_197_183 : lk 197 183 = some (.putfield 235, 186, 10, 25, .int 0) := by decide +kernel
theorem x_197_183 : Tr sc d 197 (183, [l0, l1, l2, l3, l4, l5, l6, l7, l8, l9], [.int i1, .ref k0], h) Q = (okp h k0 10 = true ∧ Tr sc d 197 (186, [l0, l1, l2, l3, l4, l5, l6, l7, l8, l9], [], (sI h k0 25 i1)) Q) := t_gd k_197_183 rfl
theorem k_197_186 : lk 197 186 = some (.iload 7, 188, 7, 0, .null) := by decide +kernel
theorem x_197_186 : Tr sc d 197 (186, [l0, l1, l2, l3, l4, l5, l6, some (.int x), l8, l9], [], h) Q = Tr sc d 197 (188, [l0, l1, l2, l3, l4, l5, l6, some (.int x), l8, l9], [.int x], h) Q := t_iload k_197_186 rfl
theorem k_197_188 : lk 197 188 = some (.aload_n 0, 189, 0, 0, .null) := by decide +kernel
theorem x_197_188 : Tr sc d 197 (188, [some (.ref xk), l1, l2, l3, l4, l5, l6, l7, l8, l9], [.int i0], h) Q = Tr sc d 197 (189, [some (.ref xk), l1, l2, l3, l4, l5, l6, l7, l8, l9], [.ref xk, .int i0], h) Q := t_aload_n k_197_188 rfl
theorem k_197_189 : lk 197 189 = some (.getfield 241, 192, 10, 27, .int 0) := by decide +kernel
theorem x_197_189 : Tr sc d 197 (189, [l0, l1, l2, l3, l4, l5, l6, l7, l8, l9], [.ref k1, .int i0], h) Q = (okp h k1 10 = true ∧ Tr sc d 197 (192, [l0, l1, l2, l3, l4, l5, l6, l7, l8, l9], [.int (hI h k1 27), .int i0], h) Q) := t_gd k_197_189 rfl
theorem k_197_192 : lk 197 192 = some (.aload_n 0, 193, 0, 0, .null) := by decide +kernel
theorem x_197_192 : Tr sc d 197 (192, [some (.ref xk), l1, l2, l3, l4, l5, l6, l7, l8, l9], [.int i1, .int i0], h) Q = Tr sc d 197 (193, [some (.ref xk), l1, l2, l3, l4, l5, l6, l7, l8, l9], [.ref xk, .int i1, .int i0], h) Q := t_aload_n k_197_192 rfl
theorem k_197_193 : lk 197 193 = some (.getfield 244, 196, 10, 28, .int 0) := by decide +kernel
theorem x_197_193 : Tr sc d 197 (193, [l0, l1, l2, l3, l4, l5, l6, l7, l8, l9], [.ref k2, .int i1, .int i0], h) Q = (okp h k2 10 = true ∧ Tr sc d 197 (196, [l0, l1, l2, l3, l4, l5, l6, l7, l8, l9], [.int (hI h k2 28), .int i1, .int i0], h) Q) := t_gd k_197_193 rfl
theorem k_197_196 : lk 197 196 = some (.invokestatic 250, 199, 178, 3, .null) := by decide +kernel
theorem x_197_196 : Tr sc (d + 1) 197 (196, [l0, l1, l2, l3, l4, l5, l6, l7, l8, l9], [.int i2, .int i1, .int i0], h) Q = Tr sc d 178 (ent0 178 [.int i0, .int i1, .int i2] h) (fun z => Tr sc (d + 1) 197 (199, [l0, l1, l2, l3, l4, l5, l6, l7, l8, l9], z.1.toList ++ [], z.2) Q) := t_cs (as := [.int i0, .int i1, .int i2]) (r := []) k_197_196 (by decide) rfl rfl (Nat.le_of_ble_eq_true rfl) (Nat.le_of_ble_eq_true rfl)
theorem k_197_199 : lk 197 199 = some (.istore 9, 201, 9, 0, .null) := by decide +kernel
theorem x_197_199 : Tr sc d 197 (199, [l0, l1, l2, l3, l4, l5, l6, l7, l8, l9], [.int i0], h) Q = Tr sc d 197 (201, [l0, l1, l2, l3, l4, l5, l6, l7, cl2 l8, some (.int i0)], [], h) Q := t_istore k_197_199 (Nat.le_of_ble_eq_true rfl)
theorem k_197_201 : lk 197 201 = some (.aload_n 0, 202, 0, 0, .null) := by decide +kernel
theorem x_197_201 : Tr sc d 197 (201, [some (.ref xk), l1, l2, l3, l4, l5, l6, l7, l8, l9], [], h) Q = Tr sc d 197 (202, [some (.ref xk), l1, l2, l3, l4, l5, l6, l7, l8, l9], [.ref xk], h) Q := t_aload_n k_197_201 rfl
theorem k_197_202 : lk 197 202 = some (.iload 7, 204, 7, 0, .null) := by decide +kernel
theorem x_197_202 : Tr sc d 197 (202, [l0, l1, l2, l3, l4, l5, l6, some (.int x), l8, l9], [.ref k0], h) Q = Tr sc d 197 (204, [l0, l1, l2, l3, l4, l5, l6, some (.int x), l8, l9], [.int x, .ref k0], h) Q := t_iload k_197_202 rfl
theorem k_197_204 : lk 197 204 = some (.aload_n 0, 205, 0, 0, .null) := by decide +kernel
theorem x_197_204 : Tr sc d 197 (204, [some (.ref xk), l1, l2, l3, l4, l5, l6, l7, l8, l9], [.int i1, .ref k0], h) Q = Tr sc d 197 (205, [some (.ref xk), l1, l2, l3, l4, l5, l6, l7, l8, l9], [.ref xk, .int i1, .ref k0], h) Q := t_aload_n k_197_204 rfl
theorem k_197_205 : lk 197 205 = some (.getfield 241, 208, 10, 27, .int 0) := by decide +kernel
theorem x_197_205 : Tr sc d 197 (205, [l0, l1, l2, l3, l4, l5, l6, l7, l8, l9], [.ref k2, .int i1, .ref k0], h) Q = (okp h k2 10 = true ∧ Tr sc d 197 (208, [l0, l1, l2, l3, l4, l5, l6, l7, l8, l9], [.int (hI h k2 27), .int i1, .ref k0], h) Q) := t_gd k_197_205 rfl
theorem k_197_208 : lk 197 208 = some (.aload_n 0, 209, 0, 0, .null) := by decide +kernel
theorem x_197_208 : Tr sc d 197 (208, [some (.ref xk), l1, l2, l3, l4, l5, l6, l7, l8, l9], [.int i2, .int i1, .ref k0], h) Q = Tr sc d 197 (209, [some (.ref xk), l1, l2, l3, l4, l5, l6, l7, l8, l9], [.ref xk, .int i2, .int i1, .ref k0], h) Q := t_aload_n k_197_208 rfl
theorem k_197_209 : lk 197 209 = some (.getfield 244, 212, 10, 28, .int 0) := by decide +kernel
theorem x_197_209 : Tr sc d 197 (209, [l0, l1, l2, l3, l4, l5, l6, l7, l8, l9], [.ref k3, .int i2, .int i1, .ref k0], h) Q = (okp h k3 10 = true ∧ Tr sc d 197 (212, [l0, l1, l2, l3, l4, l5, l6, l7, l8, l9], [.int (hI h k3 28), .int i2, .int i1, .ref k0], h) Q) := t_gd k_197_209 rfl
theorem k_197_212 : lk 197 212 = some (.invokestatic 254, 215, 179, 3, .null) := by decide +kernel
theorem x_197_212 : Tr sc (d + 1) 197 (212, [l0, l1, l2, l3, l4, l5, l6, l7, l8, l9], [.int i3, .int i2, .int i1, .ref k0], h) Q = Tr sc d 179 (ent0 179 [.int i1, .int i2, .int i3] h) (fun z => Tr sc (d + 1) 197 (215, [l0, l1, l2, l3, l4, l5, l6, l7, l8, l9], z.1.toList ++ [.ref k0], z.2) Q) := t_cs (as := [.int i1, .int i2, .int i3]) (r := [.ref k0]) k_197_212 (by decide) rfl rfl (Nat.le_of_ble_eq_true rfl) (Nat.le_of_ble_eq_true rfl)
theorem k_197_215 : lk 197 215 = some (.putfield 244, 218, 10, 28, .int 0) := by decide +kernel
theorem x_197_215 : Tr sc d 197 (215, [l0, l1, l2, l3, l4, l5, l6, l7, l8, l9], [.int i1, .ref k0], h) Q = (okp h k0 10 = true ∧ Tr sc d 197 (218, [l0, l1, l2, l3, l4, l5, l6, l7, l8, l9], [], (sI h k0 28 i1)) Q) := t_gd k_197_215 rfl
theorem k_197_218 : lk 197 218 = some (.aload_n 0, 219, 0, 0, .null) := by decide +kernel
theorem x_197_218 : Tr sc d 197 (218, [some (.ref xk), l1, l2, l3, l4, l5, l6, l7, l8, l9], [], h) Q = Tr sc d 197 (219, [some (.ref xk), l1, l2, l3, l4, l5, l6, l7, l8, l9], [.ref xk], h) Q := t_aload_n k_197_218 rfl
theorem k_197_219 : lk 197 219 = some (.iload 9, 221, 9, 0, .null) := by decide +kernel
theorem x_197_219 : Tr sc d 197 (219, [l0, l1, l2, l3, l4, l5, l6, l7, l8, some (.int x)], [.ref k0], h) Q = Tr sc d 197 (221, [l0, l1, l2, l3, l4, l5, l6, l7, l8, some (.int x)], [.int x, .ref k0], h) Q := t_iload k_197_219 rfl
theorem k_197_221 : lk 197 221 = some (.putfield 241, 224, 10, 27, .int 0) := by decide +kernel
theorem x_197_221 : Tr sc d 197 (221, [l0, l1, l2, l3, l4, l5, l6, l7, l8, l9], [.int i1, .ref k0], h) Q = (okp h k0 10 = true ∧ Tr sc d 197 (224, [l0, l1, l2, l3, l4, l5, l6, l7, l8, l9], [], (sI h k0 27 i1)) Q) := t_gd k_197_221 rfl
theorem k_197_224 : lk 197 224 = some (.iinc 5 1, 227, 5, 0, .int 1) := by decide +kernel
theorem x_197_224 : Tr sc d 197 (224, [l0, l1, l2, l3, l4, some (.int x), l6, l7, l8, l9], [], h) Q = Tr sc d 197 (227, [l0, l1, l2, l3, cl2 l4, some (.int (x + 1)), l6, l7, l8, l9], [], h) Q := t_inc k_197_224 rfl (Nat.le_of_ble_eq_true rfl)
theorem k_197_227 : lk 197 227 = some (.goto (-194), 230, 33, 0, .null) := by decide +kernel
theorem x_197_227 : Tr sc d 197 (227, [l0, l1, l2, l3, l4, l5, l6, l7, l8, l9], [], h) Q = Tr sc d 197 (33, [l0, l1, l2, l3, l4, l5, l6, l7, l8, l9], [], h) Q := t_go k_197_227 rfl
theorem k_197_230 : lk 197 230 = some (.return_, 231, 0, 0, .null) := by decide +kernel
theorem x_197_230 : Tr sc d 197 (230, [l0, l1, l2, l3, l4, l5, l6, l7, l8, l9], [], h) Q = Q (none, h) := t_ret k_197_230 (by rw [r_197]; rfl)
theorem e_197 : Tr sc d 197 (ent0 197 [.ref k0, .int i1, .int i2, .int i3, .int i4] h) Q = Tr sc d 197 (0, [some (.ref k0), some (.int i1), some (.int i2), some (.int i3), some (.int i4), none, none, none, none, none], [], h) Q := by
  have e : mL 197 = 10 := by decide +kernel
  unfold ent0
  rw [e]
  rfl
theorem r_198 : mR 198 = some .int := by decide +kernel
theorem k_198_0 : lk 198 0 = some (.iload_n 1, 1, 1, 0, .null) := by decide +kernel
theorem x_198_0 : Tr sc d 198 (0, [l0, some (.int x), l2, l3, l4, l5], [], h) Q = Tr sc d 198 (1, [l0, some (.int x), l2, l3, l4, l5], [.int x], h) Q := t_iload_n k_198_0 rfl
theorem k_198_1 : lk 198 1 = some (.invokestatic 190, 4, 176, 1, .null) := by decide +kernel
theorem x_198_1 : Tr sc (d + 1) 198 (1, [l0, l1, l2, l3, l4, l5], [.int i0], h) Q = Tr sc d 176 (ent0 176 [.int i0] h) (fun z => Tr sc (d + 1) 198 (4, [l0, l1, l2, l3, l4, l5], z.1.toList ++ [], z.2) Q) := t_cs (as := [.int i0]) (r := []) k_198_1 (by decide) rfl rfl (Nat.le_of_ble_eq_true rfl) (Nat.le_of_ble_eq_true rfl)
theorem k_198_4 : lk 198 4 = some (.ifCond .eq 10, 7, 14, 0, .null) := by decide +kernel
theorem x_198_4 : Tr sc d 198 (4, [l0, l1, l2, l3, l4, l5], [.int i0], h) Q = if i0 = 0 then Tr sc d 198 (14, [l0, l1, l2, l3, l4, l5], [], h) Q else Tr sc d 198 (7, [l0, l1, l2, l3, l4, l5], [], h) Q := t_if k_198_4 rfl
theorem k_198_7 : lk 198 7 = some (.iload_n 2, 8, 2, 0, .null) := by decide +kernel
theorem x_198_7 : Tr sc d 198 (7, [l0, l1, some (.int x), l3, l4, l5], [], h) Q = Tr sc d 198 (8, [l0, l1, some (.int x), l3, l4, l5], [.int x], h) Q := t_iload_n k_198_7 rfl
theorem k_198_8 : lk 198 8 = some (.invokestatic 148, 11, 161, 1, .null) := by decide +kernel
theorem x_198_8 : Tr sc (d + 1) 198 (8, [l0, l1, l2, l3, l4, l5], [.int i0], h) Q = Tr sc d 161 (ent0 161 [.int i0] h) (fun z => Tr sc (d + 1) 198 (11, [l0, l1, l2, l3, l4, l5], z.1.toList ++ [], z.2) Q) := t_cs (as := [.int i0]) (r := []) k_198_8 (by decide) rfl rfl (Nat.le_of_ble_eq_true rfl) (Nat.le_of_ble_eq_true rfl)
theorem k_198_11 : lk 198 11 = some (.ifCond .ne 5, 14, 16, 0, .null) := by decide +kernel
theorem x_198_11 : Tr sc d 198 (11, [l0, l1, l2, l3, l4, l5], [.int i0], h) Q = if i0 = 0 then Tr sc d 198 (14, [l0, l1, l2, l3, l4, l5], [], h) Q else Tr sc d 198 (16, [l0, l1, l2, l3, l4, l5], [], h) Q := t_if k_198_11 rfl
theorem k_198_14 : lk 198 14 = some (.iconst (-1), 15, 0, 0, .int (-1)) := by decide +kernel
theorem x_198_14 : Tr sc d 198 (14, [l0, l1, l2, l3, l4, l5], [], h) Q = Tr sc d 198 (15, [l0, l1, l2, l3, l4, l5], [.int (-1)], h) Q := t_go k_198_14 rfl
theorem k_198_15 : lk 198 15 = some (.ireturn, 16, 0, 0, .null) := by decide +kernel
theorem x_198_15 : Tr sc d 198 (15, [l0, l1, l2, l3, l4, l5], [.int i0], h) Q = Q (some (.int i0), h) := t_ret k_198_15 (by rw [r_198]; rfl)
theorem k_198_16 : lk 198 16 = some (.aload_n 0, 17, 0, 0, .null) := by decide +kernel
theorem x_198_16 : Tr sc d 198 (16, [some (.ref xk), l1, l2, l3, l4, l5], [], h) Q = Tr sc d 198 (17, [some (.ref xk), l1, l2, l3, l4, l5], [.ref xk], h) Q := t_aload_n k_198_16 rfl
theorem k_198_17 : lk 198 17 = some (.getfield 41, 20, 10, 18, .null) := by decide +kernel
theorem x_198_17 : Tr sc d 198 (17, [l0, l1, l2, l3, l4, l5], [.ref k0], h) Q = (okp h k0 10 = true ∧ ∃ q, hR h k0 18 = some q ∧ Tr sc d 198 (20, [l0, l1, l2, l3, l4, l5], [.ref q], h) Q) := t_getr k_198_17
theorem k_198_20 : lk 198 20 = some (.iload_n 1, 21, 1, 0, .null) := by decide +kernel
theorem x_198_20 : Tr sc d 198 (20, [l0, some (.int x), l2, l3, l4, l5], [.ref k0], h) Q = Tr sc d 198 (21, [l0, some (.int x), l2, l3, l4, l5], [.int x, .ref k0], h) Q := t_iload_n k_198_20 rfl
theorem k_198_21 : lk 198 21 = some (.iaload, 22, 0, 0, .null) := by decide +kernel
theorem x_198_21 : Tr sc d 198 (21, [l0, l1, l2, l3, l4, l5], [.int i1, .ref k0], h) Q = (iOk sc h k0 i1 ∧ Tr sc d 198 (22, [l0, l1, l2, l3, l4, l5], [.int (iRd sc h k0 i1)], h) Q) := t_iald k_198_21
theorem k_198_22 : lk 198 22 = some (.ifCond .eq 12, 25, 34, 0, .null) := by decide +kernel
theorem x_198_22 : Tr sc d 198 (22, [l0, l1, l2, l3, l4, l5], [.int i0], h) Q = if i0 = 0 then Tr sc d 198 (34, [l0, l1, l2, l3, l4, l5], [], h) Q else Tr sc d 198 (25, [l0, l1, l2, l3, l4, l5], [], h) Q := t_if k_198_22 rfl
theorem k_198_25 : lk 198 25 = some (.aload_n 0, 26, 0, 0, .null) := by decide +kernel
theorem x_198_25 : Tr sc d 198 (25, [some (.ref xk), l1, l2, l3, l4, l5], [], h) Q = Tr sc d 198 (26, [some (.ref xk), l1, l2, l3, l4, l5], [.ref xk], h) Q := t_aload_n k_198_25 rfl
theorem k_198_26 : lk 198 26 = some (.getfield 17, 29, 10, 6, .null) := by decide +kernel
theorem x_198_26 : Tr sc d 198 (26, [l0, l1, l2, l3, l4, l5], [.ref k0], h) Q = (okp h k0 10 = true ∧ ∃ q, hR h k0 6 = some q ∧ Tr sc d 198 (29, [l0, l1, l2, l3, l4, l5], [.ref q], h) Q) := t_getr k_198_26
theorem k_198_29 : lk 198 29 = some (.iload_n 2, 30, 2, 0, .null) := by decide +kernel
theorem x_198_29 : Tr sc d 198 (29, [l0, l1, some (.int x), l3, l4, l5], [.ref k0], h) Q = Tr sc d 198 (30, [l0, l1, some (.int x), l3, l4, l5], [.int x, .ref k0], h) Q := t_iload_n k_198_29 rfl
theorem k_198_30 : lk 198 30 = some (.iaload, 31, 0, 0, .null) := by decide +kernel
theorem x_198_30 : Tr sc d 198 (30, [l0, l1, l2, l3, l4, l5], [.int i1, .ref k0], h) Q = (iOk sc h k0 i1 ∧ Tr sc d 198 (31, [l0, l1, l2, l3, l4, l5], [.int (iRd sc h k0 i1)], h) Q) := t_iald k_198_30
theorem k_198_31 : lk 198 31 = some (.ifCond .ge 9, 34, 40, 0, .null) := by decide +kernel
theorem x_198_31 : Tr sc d 198 (31, [l0, l1, l2, l3, l4, l5], [.int i0], h) Q = if 0 ≤ i0 then Tr sc d 198 (40, [l0, l1, l2, l3, l4, l5], [], h) Q else Tr sc d 198 (34, [l0, l1, l2, l3, l4, l5], [], h) Q := t_if k_198_31 rfl
theorem k_198_34 : lk 198 34 = some (.aload_n 0, 35, 0, 0, .null) := by decide +kernel
theorem x_198_34 : Tr sc d 198 (34, [some (.ref xk), l1, l2, l3, l4, l5], [], h) Q = Tr sc d 198 (35, [some (.ref xk), l1, l2, l3, l4, l5], [.ref xk], h) Q := t_aload_n k_198_34 rfl
theorem k_198_35 : lk 198 35 = some (.iconst 1, 36, 0, 0, .int 1) := by decide +kernel
theorem x_198_35 : Tr sc d 198 (35, [l0, l1, l2, l3, l4, l5], [.ref k0], h) Q = Tr sc d 198 (36, [l0, l1, l2, l3, l4, l5], [.int 1, .ref k0], h) Q := t_go k_198_35 rfl
theorem k_198_36 : lk 198 36 = some (.invokevirtual 152, 39, 158, 1, .null) := by decide +kernel
theorem x_198_36 : Tr sc (d + 1) 198 (36, [l0, l1, l2, l3, l4, l5], [.int i1, .ref k0], h) Q = (okp h k0 10 = true ∧ Tr sc d 158 (ent0 158 [.ref k0, .int i1] h) (fun z => Tr sc (d + 1) 198 (39, [l0, l1, l2, l3, l4, l5], z.1.toList ++ [], z.2) Q)) := t_cv (as := [.int i1]) (r := []) k_198_36 rfl rfl (Nat.le_of_ble_eq_true rfl) (Nat.le_of_ble_eq_true rfl) (Nat.le_of_ble_eq_true rfl)
theorem k_198_39 : lk 198 39 = some (.ireturn, 40, 0, 0, .null) := by decide +kernel
theorem x_198_39 : Tr sc d 198 (39, [l0, l1, l2, l3, l4, l5], [.int i0], h) Q = Q (some (.int i0), h) := t_ret k_198_39 (by rw [r_198]; rfl)
theorem k_198_40 : lk 198 40 = some (.aload_n 0, 41, 0, 0, .null) := by decide +kernel
theorem x_198_40 : Tr sc d 198 (40, [some (.ref xk), l1, l2, l3, l4, l5], [], h) Q = Tr sc d 198 (41, [some (.ref xk), l1, l2, l3, l4, l5], [.ref xk], h) Q := t_aload_n k_198_40 rfl
theorem k_198_41 : lk 198 41 = some (.getfield 17, 44, 10, 6, .null) := by decide +kernel
theorem x_198_41 : Tr sc d 198 (41, [l0, l1, l2, l3, l4, l5], [.ref k0], h) Q = (okp h k0 10 = true ∧ ∃ q, hR h k0 6 = some q ∧ Tr sc d 198 (44, [l0, l1, l2, l3, l4, l5], [.ref q], h) Q) := t_getr k_198_41
theorem k_198_44 : lk 198 44 = some (.iload_n 2, 45, 2, 0, .null) := by decide +kernel
theorem x_198_44 : Tr sc d 198 (44, [l0, l1, some (.int x), l3, l4, l5], [.ref k0], h) Q = Tr sc d 198 (45, [l0, l1, some (.int x), l3, l4, l5], [.int x, .ref k0], h) Q := t_iload_n k_198_44 rfl
theorem k_198_45 : lk 198 45 = some (.iaload, 46, 0, 0, .null) := by decide +kernel
theorem x_198_45 : Tr sc d 198 (45, [l0, l1, l2, l3, l4, l5], [.int i1, .ref k0], h) Q = (iOk sc h k0 i1 ∧ Tr sc d 198 (46, [l0, l1, l2, l3, l4, l5], [.int (iRd sc h k0 i1)], h) Q) := t_iald k_198_45
theorem k_198_46 : lk 198 46 = some (.iload_n 3, 47, 3, 0, .null) := by decide +kernel
theorem x_198_46 : Tr sc d 198 (46, [l0, l1, l2, some (.int x), l4, l5], [.int i0], h) Q = Tr sc d 198 (47, [l0, l1, l2, some (.int x), l4, l5], [.int x, .int i0], h) Q := t_iload_n k_198_46 rfl
theorem k_198_47 : lk 198 47 = some (.if_icmp .ge 9, 50, 56, 0, .null) := by decide +kernel
theorem x_198_47 : Tr sc d 198 (47, [l0, l1, l2, l3, l4, l5], [.int i1, .int i0], h) Q = if i1 ≤ i0 then Tr sc d 198 (56, [l0, l1, l2, l3, l4, l5], [], h) Q else Tr sc d 198 (50, [l0, l1, l2, l3, l4, l5], [], h) Q := t_if k_198_47 rfl
theorem k_198_50 : lk 198 50 = some (.aload_n 0, 51, 0, 0, .null) := by decide +kernel
theorem x_198_50 : Tr sc d 198 (50, [some (.ref xk), l1, l2, l3, l4, l5], [], h) Q = Tr sc d 198 (51, [some (.ref xk), l1, l2, l3, l4, l5], [.ref xk], h) Q := t_aload_n k_198_50 rfl
theorem k_198_51 : lk 198 51 = some (.iconst 5, 52, 0, 0, .int 5) := by decide +kernel
theorem x_198_51 : Tr sc d 198 (51, [l0, l1, l2, l3, l4, l5], [.ref k0], h) Q = Tr sc d 198 (52, [l0, l1, l2, l3, l4, l5], [.int 5, .ref k0], h) Q := t_go k_198_51 rfl
theorem k_198_52 : lk 198 52 = some (.invokevirtual 152, 55, 158, 1, .null) := by decide +kernel
theorem x_198_52 : Tr sc (d + 1) 198 (52, [l0, l1, l2, l3, l4, l5], [.int i1, .ref k0], h) Q = (okp h k0 10 = true ∧ Tr sc d 158 (ent0 158 [.ref k0, .int i1] h) (fun z => Tr sc (d + 1) 198 (55, [l0, l1, l2, l3, l4, l5], z.1.toList ++ [], z.2) Q)) := t_cv (as := [.int i1]) (r := []) k_198_52 rfl rfl (Nat.le_of_ble_eq_true rfl) (Nat.le_of_ble_eq_true rfl) (Nat.le_of_ble_eq_true rfl)
theorem k_198_55 : lk 198 55 = some (.ireturn, 56, 0, 0, .null) := by decide +kernel
theorem x_198_55 : Tr sc d 198 (55, [l0, l1, l2, l3, l4, l5], [.int i0], h) Q = Q (some (.int i0), h) := t_ret k_198_55 (by rw [r_198]; rfl)
theorem k_198_56 : lk 198 56 = some (.iconst 1, 57, 0, 0, .int 1) := by decide +kernel
theorem x_198_56 : Tr sc d 198 (56, [l0, l1, l2, l3, l4, l5], [], h) Q = Tr sc d 198 (57, [l0, l1, l2, l3, l4, l5], [.int 1], h) Q := t_go k_198_56 rfl
theorem k_198_57 : lk 198 57 = some (.istore 4, 59, 4, 0, .null) := by decide +kernel
theorem x_198_57 : Tr sc d 198 (57, [l0, l1, l2, l3, l4, l5], [.int i0], h) Q = Tr sc d 198 (59, [l0, l1, l2, cl2 l3, some (.int i0), l5], [], h) Q := t_istore k_198_57 (Nat.le_of_ble_eq_true rfl)
theorem k_198_59 : lk 198 59 = some (.iconst 0, 60, 0, 0, .int 0) := by decide +kernel
theorem x_198_59 : Tr sc d 198 (59, [l0, l1, l2, l3, l4, l5], [], h) Q = Tr sc d 198 (60, [l0, l1, l2, l3, l4, l5], [.int 0], h) Q := t_go k_198_59 rfl
theorem k_198_60 : lk 198 60 = some (.istore 5, 62, 5, 0, .null) := by decide +kernel
theorem x_198_60 : Tr sc d 198 (60, [l0, l1, l2, l3, l4, l5], [.int i0], h) Q = Tr sc d 198 (62, [l0, l1, l2, l3, cl2 l4, some (.int i0)], [], h) Q := t_istore k_198_60 (Nat.le_of_ble_eq_true rfl)
theorem k_198_62 : lk 198 62 = some (.iload 5, 64, 5, 0, .null) := by decide +kernel
theorem x_198_62 : Tr sc d 198 (62, [l0, l1, l2, l3, l4, some (.int x)], [], h) Q = Tr sc d 198 (64, [l0, l1, l2, l3, l4, some (.int x)], [.int x], h) Q := t_iload k_198_62 rfl
theorem k_198_64 : lk 198 64 = some (.iload_n 3, 65, 3, 0, .null) := by decide +kernel
theorem x_198_64 : Tr sc d 198 (64, [l0, l1, l2, some (.int x), l4, l5], [.int i0], h) Q = Tr sc d 198 (65, [l0, l1, l2, some (.int x), l4, l5], [.int x, .int i0], h) Q := t_iload_n k_198_64 rfl
theorem k_198_65 : lk 198 65 = some (.if_icmp .ge 48, 68, 113, 0, .null) := by decide +kernel
theorem x_198_65 : Tr sc d 198 (65, [l0, l1, l2, l3, l4, l5], [.int i1, .int i0], h) Q = if i1 ≤ i0 then Tr sc d 198 (113, [l0, l1, l2, l3, l4, l5], [], h) Q else Tr sc d 198 (68, [l0, l1, l2, l3, l4, l5], [], h) Q := t_if k_198_65 rfl
theorem k_198_68 : lk 198 68 = some (.iload 4, 70, 4, 0, .null) := by decide +kernel
theorem x_198_68 : Tr sc d 198 (68, [l0, l1, l2, l3, some (.int x), l5], [], h) Q = Tr sc d 198 (70, [l0, l1, l2, l3, some (.int x), l5], [.int x], h) Q := t_iload k_198_68 rfl
theorem k_198_70 : lk 198 70 = some (.ifCond .eq 34, 73, 104, 0, .null) := by decide +kernel
theorem x_198_70 : Tr sc d 198 (70, [l0, l1, l2, l3, l4, l5], [.int i0], h) Q = if i0 = 0 then Tr sc d 198 (104, [l0, l1, l2, l3, l4, l5], [], h) Q else Tr sc d 198 (73, [l0, l1, l2, l3, l4, l5], [], h) Q := t_if k_198_70 rfl
theorem k_198_73 : lk 198 73 = some (.aload_n 0, 74, 0, 0, .null) := by decide +kernel
theorem x_198_73 : Tr sc d 198 (73, [some (.ref xk), l1, l2, l3, l4, l5], [], h) Q = Tr sc d 198 (74, [some (.ref xk), l1, l2, l3, l4, l5], [.ref xk], h) Q := t_aload_n k_198_73 rfl
theorem k_198_74 : lk 198 74 = some (.getfield 20, 77, 10, 7, .null) := by decide +kernel
theorem x_198_74 : Tr sc d 198 (74, [l0, l1, l2, l3, l4, l5], [.ref k0], h) Q = (okp h k0 10 = true ∧ ∃ q, hR h k0 7 = some q ∧ Tr sc d 198 (77, [l0, l1, l2, l3, l4, l5], [.ref q], h) Q) := t_getr k_198_74
theorem k_198_77 : lk 198 77 = some (.bipush 40, 79, 0, 0, .int 40) := by decide +kernel
theorem x_198_77 : Tr sc d 198 (77, [l0, l1, l2, l3, l4, l5], [.ref k0], h) Q = Tr sc d 198 (79, [l0, l1, l2, l3, l4, l5], [.int 40, .ref k0], h) Q := t_go k_198_77 rfl
theorem k_198_79 : lk 198 79 = some (.iload_n 2, 80, 2, 0, .null) := by decide +kernel
theorem x_198_79 : Tr sc d 198 (79, [l0, l1, some (.int x), l3, l4, l5], [.int i1, .ref k0], h) Q = Tr sc d 198 (80, [l0, l1, some (.int x), l3, l4, l5], [.int x, .int i1, .ref k0], h) Q := t_iload_n k_198_79 rfl
theorem k_198_80 : lk 198 80 = some (.imul, 81, 0, 0, .null) := by decide +kernel
theorem x_198_80 : Tr sc d 198 (80, [l0, l1, l2, l3, l4, l5], [.int i2, .int i1, .ref k0], h) Q = Tr sc d 198 (81, [l0, l1, l2, l3, l4, l5], [.int (i1 * i2), .ref k0], h) Q := t_go k_198_80 rfl
theorem k_198_81 : lk 198 81 = some (.iload 5, 83, 5, 0, .null) := by decide +kernel
theorem x_198_81 : Tr sc d 198 (81, [l0, l1, l2, l3, l4, some (.int x)], [.int i1, .ref k0], h) Q = Tr sc d 198 (83, [l0, l1, l2, l3, l4, some (.int x)], [.int x, .int i1, .ref k0], h) Q := t_iload k_198_81 rfl
theorem k_198_83 : lk 198 83 = some (.iadd, 84, 0, 0, .null) := by decide +kernel
theorem x_198_83 : Tr sc d 198 (83, [l0, l1, l2, l3, l4, l5], [.int i2, .int i1, .ref k0], h) Q = Tr sc d 198 (84, [l0, l1, l2, l3, l4, l5], [.int (i1 + i2), .ref k0], h) Q := t_go k_198_83 rfl
theorem k_198_84 : lk 198 84 = some (.iaload, 85, 0, 0, .null) := by decide +kernel
theorem x_198_84 : Tr sc d 198 (84, [l0, l1, l2, l3, l4, l5], [.int i1, .ref k0], h) Q = (iOk sc h k0 i1 ∧ Tr sc d 198 (85, [l0, l1, l2, l3, l4, l5], [.int (iRd sc h k0 i1)], h) Q) := t_iald k_198_84
theorem k_198_85 : lk 198 85 = some (.iconst 0, 86, 0, 0, .int 0) := by decide +kernel
theorem x_198_85 : Tr sc d 198 (85, [l0, l1, l2, l3, l4, l5], [.int i0], h) Q = Tr sc d 198 (86, [l0, l1, l2, l3, l4, l5], [.int 0, .int i0], h) Q := t_go k_198_85 rfl
theorem k_198_86 : lk 198 86 = some (.aload_n 0, 87, 0, 0, .null) := by decide +kernel
theorem x_198_86 : Tr sc d 198 (86, [some (.ref xk), l1, l2, l3, l4, l5], [.int i1, .int i0], h) Q = Tr sc d 198 (87, [some (.ref xk), l1, l2, l3, l4, l5], [.ref xk, .int i1, .int i0], h) Q := t_aload_n k_198_86 rfl
theorem k_198_87 : lk 198 87 = some (.getfield 41, 90, 10, 18, .null) := by decide +kernel
theorem x_198_87 : Tr sc d 198 (87, [l0, l1, l2, l3, l4, l5], [.ref k2, .int i1, .int i0], h) Q = (okp h k2 10 = true ∧ ∃ q, hR h k2 18 = some q ∧ Tr sc d 198 (90, [l0, l1, l2, l3, l4, l5], [.ref q, .int i1, .int i0], h) Q) := t_getr k_198_87
theorem k_198_90 : lk 198 90 = some (.iload_n 1, 91, 1, 0, .null) := by decide +kernel
theorem x_198_90 : Tr sc d 198 (90, [l0, some (.int x), l2, l3, l4, l5], [.ref k2, .int i1, .int i0], h) Q = Tr sc d 198 (91, [l0, some (.int x), l2, l3, l4, l5], [.int x, .ref k2, .int i1, .int i0], h) Q := t_iload_n k_198_90 rfl
theorem k_198_91 : lk 198 91 = some (.iaload, 92, 0, 0, .null) := by decide +kernel
theorem x_198_91 : Tr sc d 198 (91, [l0, l1, l2, l3, l4, l5], [.int i3, .ref k2, .int i1, .int i0], h) Q = (iOk sc h k2 i3 ∧ Tr sc d 198 (92, [l0, l1, l2, l3, l4, l5], [.int (iRd sc h k2 i3), .int i1, .int i0], h) Q) := t_iald k_198_91
theorem k_198_92 : lk 198 92 = some (.iconst 1, 93, 0, 0, .int 1) := by decide +kernel
theorem x_198_92 : Tr sc d 198 (92, [l0, l1, l2, l3, l4, l5], [.int i2, .int i1, .int i0], h) Q = Tr sc d 198 (93, [l0, l1, l2, l3, l4, l5], [.int 1, .int i2, .int i1, .int i0], h) Q := t_go k_198_92 rfl
theorem k_198_93 : lk 198 93 = some (.isub, 94, 0, 0, .null) := by decide +kernel
theorem x_198_93 : Tr sc d 198 (93, [l0, l1, l2, l3, l4, l5], [.int i3, .int i2, .int i1, .int i0], h) Q = Tr sc d 198 (94, [l0, l1, l2, l3, l4, l5], [.int (i2 - i3), .int i1, .int i0], h) Q := t_go k_198_93 rfl
theorem k_198_94 : lk 198 94 = some (.invokestatic 144, 97, 157, 3, .null) := by decide +kernel
theorem x_198_94 : Tr sc (d + 1) 198 (94, [l0, l1, l2, l3, l4, l5], [.int i2, .int i1, .int i0], h) Q = Tr sc d 157 (ent0 157 [.int i0, .int i1, .int i2] h) (fun z => Tr sc (d + 1) 198 (97, [l0, l1, l2, l3, l4, l5], z.1.toList ++ [], z.2) Q) := t_cs (as := [.int i0, .int i1, .int i2]) (r := []) k_198_94 (by decide) rfl rfl (Nat.le_of_ble_eq_true rfl) (Nat.le_of_ble_eq_true rfl)
theorem k_198_97 : lk 198 97 = some (.ifCond .eq 7, 100, 104, 0, .null) := by decide +kernel
theorem x_198_97 : Tr sc d 198 (97, [l0, l1, l2, l3, l4, l5], [.int i0], h) Q = if i0 = 0 then Tr sc d 198 (104, [l0, l1, l2, l3, l4, l5], [], h) Q else Tr sc d 198 (100, [l0, l1, l2, l3, l4, l5], [], h) Q := t_if k_198_97 rfl
theorem k_198_100 : lk 198 100 = some (.iconst 1, 101, 0, 0, .int 1) := by decide +kernel
theorem x_198_100 : Tr sc d 198 (100, [l0, l1, l2, l3, l4, l5], [], h) Q = Tr sc d 198 (101, [l0, l1, l2, l3, l4, l5], [.int 1], h) Q := t_go k_198_100 rfl
theorem k_198_101 : lk 198 101 = some (.goto 4, 104, 105, 0, .null) := by decide +kernel
theorem x_198_101 : Tr sc d 198 (101, [l0, l1, l2, l3, l4, l5], [.int i0], h) Q = Tr sc d 198 (105, [l0, l1, l2, l3, l4, l5], [.int i0], h) Q := t_go k_198_101 rfl
theorem k_198_104 : lk 198 104 = some (.iconst 0, 105, 0, 0, .int 0) := by decide +kernel
theorem x_198_104 : Tr sc d 198 (104, [l0, l1, l2, l3, l4, l5], [], h) Q = Tr sc d 198 (105, [l0, l1, l2, l3, l4, l5], [.int 0], h) Q := t_go k_198_104 rfl
theorem k_198_105 : lk 198 105 = some (.istore 4, 107, 4, 0, .null) := by decide +kernel
theorem x_198_105 : Tr sc d 198 (105, [l0, l1, l2, l3, l4, l5], [.int i0], h) Q = Tr sc d 198 (107, [l0, l1, l2, cl2 l3, some (.int i0), l5], [], h) Q := t_istore k_198_105 (Nat.le_of_ble_eq_true rfl)
theorem k_198_107 : lk 198 107 = some (.iinc 5 1, 110, 5, 0, .int 1) := by decide +kernel
theorem x_198_107 : Tr sc d 198 (107, [l0, l1, l2, l3, l4, some (.int x)], [], h) Q = Tr sc d 198 (110, [l0, l1, l2, l3, cl2 l4, some (.int (x + 1))], [], h) Q := t_inc k_198_107 rfl (Nat.le_of_ble_eq_true rfl)
theorem k_198_110 : lk 198 110 = some (.goto (-48), 113, 62, 0, .null) := by decide +kernel
theorem x_198_110 : Tr sc d 198 (110, [l0, l1, l2, l3, l4, l5], [], h) Q = Tr sc d 198 (62, [l0, l1, l2, l3, l4, l5], [], h) Q := t_go k_198_110 rfl
theorem k_198_113 : lk 198 113 = some (.iload 4, 115, 4, 0, .null) := by decide +kernel
theorem x_198_113 : Tr sc d 198 (113, [l0, l1, l2, l3, some (.int x), l5], [], h) Q = Tr sc d 198 (115, [l0, l1, l2, l3, some (.int x), l5], [.int x], h) Q := t_iload k_198_113 rfl
theorem k_198_115 : lk 198 115 = some (.ifCond .eq 7, 118, 122, 0, .null) := by decide +kernel
theorem x_198_115 : Tr sc d 198 (115, [l0, l1, l2, l3, l4, l5], [.int i0], h) Q = if i0 = 0 then Tr sc d 198 (122, [l0, l1, l2, l3, l4, l5], [], h) Q else Tr sc d 198 (118, [l0, l1, l2, l3, l4, l5], [], h) Q := t_if k_198_115 rfl
theorem k_198_118 : lk 198 118 = some (.iconst 0, 119, 0, 0, .int 0) := by decide +kernel
theorem x_198_118 : Tr sc d 198 (118, [l0, l1, l2, l3, l4, l5], [], h) Q = Tr sc d 198 (119, [l0, l1, l2, l3, l4, l5], [.int 0], h) Q := t_go k_198_118 rfl
theorem k_198_119 : lk 198 119 = some (.goto 8, 122, 127, 0, .null) := by decide +kernel
theorem x_198_119 : Tr sc d 198 (119, [l0, l1, l2, l3, l4, l5], [.int i0], h) Q = Tr sc d 198 (127, [l0, l1, l2, l3, l4, l5], [.int i0], h) Q := t_go k_198_119 rfl
theorem k_198_122 : lk 198 122 = some (.aload_n 0, 123, 0, 0, .null) := by decide +kernel
theorem x_198_122 : Tr sc d 198 (122, [some (.ref xk), l1, l2, l3, l4, l5], [], h) Q = Tr sc d 198 (123, [some (.ref xk), l1, l2, l3, l4, l5], [.ref xk], h) Q := t_aload_n k_198_122 rfl
theorem k_198_123 : lk 198 123 = some (.iconst 3, 124, 0, 0, .int 3) := by decide +kernel
theorem x_198_123 : Tr sc d 198 (123, [l0, l1, l2, l3, l4, l5], [.ref k0], h) Q = Tr sc d 198 (124, [l0, l1, l2, l3, l4, l5], [.int 3, .ref k0], h) Q := t_go k_198_123 rfl
theorem k_198_124 : lk 198 124 = some (.invokevirtual 152, 127, 158, 1, .null) := by decide +kernel
theorem x_198_124 : Tr sc (d + 1) 198 (124, [l0, l1, l2, l3, l4, l5], [.int i1, .ref k0], h) Q = (okp h k0 10 = true ∧ Tr sc d 158 (ent0 158 [.ref k0, .int i1] h) (fun z => Tr sc (d + 1) 198 (127, [l0, l1, l2, l3, l4, l5], z.1.toList ++ [], z.2) Q)) := t_cv (as := [.int i1]) (r := []) k_198_124 rfl rfl (Nat.le_of_ble_eq_true rfl) (Nat.le_of_ble_eq_true rfl) (Nat.le_of_ble_eq_true rfl)
theorem k_198_127 : lk 198 127 = some (.ireturn, 128, 0, 0, .null) := by decide +kernel
theorem x_198_127 : Tr sc d 198 (127, [l0, l1, l2, l3, l4, l5], [.int i0], h) Q = Q (some (.int i0), h) := t_ret k_198_127 (by rw [r_198]; rfl)
theorem e_198 : Tr sc d 198 (ent0 198 [.ref k0, .int i1, .int i2, .int i3] h) Q = Tr sc d 198 (0, [some (.ref k0), some (.int i1), some (.int i2), some (.int i3), none, none], [], h) Q := by
  have e : mL 198 = 6 := by decide +kernel
  unfold ent0
  rw [e]
  rfl
theorem r_199 : mR 199 = some .int := by decide +kernel
theorem k_199_0 : lk 199 0 = some (.iload_n 3, 1, 3, 0, .null) := by decide +kernel
theorem x_199_0 : Tr sc d 199 (0, [l0, l1, l2, some (.int x), l4, l5], [], h) Q = Tr sc d 199 (1, [l0, l1, l2, some (.int x), l4, l5], [.int x], h) Q := t_iload_n k_199_0 rfl
theorem k_199_1 : lk 199 1 = some (.iconst 0, 2, 0, 0, .int 0) := by decide +kernel
theorem x_199_1 : Tr sc d 199 (1, [l0, l1, l2, l3, l4, l5], [.int i0], h) Q = Tr sc d 199 (2, [l0, l1, l2, l3, l4, l5], [.int 0, .int i0], h) Q := t_go k_199_1 rfl
theorem k_199_2 : lk 199 2 = some (.bipush 8, 4, 0, 0, .int 8) := by decide +kernel
theorem x_199_2 : Tr sc d 199 (2, [l0, l1, l2, l3, l4, l5], [.int i1, .int i0], h) Q = Tr sc d 199 (4, [l0, l1, l2, l3, l4, l5], [.int 8, .int i1, .int i0], h) Q := t_go k_199_2 rfl
theorem k_199_4 : lk 199 4 = some (.invokestatic 144, 7, 157, 3, .null) := by decide +kernel
theorem x_199_4 : Tr sc (d + 1) 199 (4, [l0, l1, l2, l3, l4, l5], [.int i2, .int i1, .int i0], h) Q = Tr sc d 157 (ent0 157 [.int i0, .int i1, .int i2] h) (fun z => Tr sc (d + 1) 199 (7, [l0, l1, l2, l3, l4, l5], z.1.toList ++ [], z.2) Q) := t_cs (as := [.int i0, .int i1, .int i2]) (r := []) k_199_4 (by decide) rfl rfl (Nat.le_of_ble_eq_true rfl) (Nat.le_of_ble_eq_true rfl)
theorem k_199_7 : lk 199 7 = some (.ifCond .ne 5, 10, 12, 0, .null) := by decide +kernel
theorem x_199_7 : Tr sc d 199 (7, [l0, l1, l2, l3, l4, l5], [.int i0], h) Q = if i0 = 0 then Tr sc d 199 (10, [l0, l1, l2, l3, l4, l5], [], h) Q else Tr sc d 199 (12, [l0, l1, l2, l3, l4, l5], [], h) Q := t_if k_199_7 rfl
theorem k_199_10 : lk 199 10 = some (.iconst (-1), 11, 0, 0, .int (-1)) := by decide +kernel
theorem x_199_10 : Tr sc d 199 (10, [l0, l1, l2, l3, l4, l5], [], h) Q = Tr sc d 199 (11, [l0, l1, l2, l3, l4, l5], [.int (-1)], h) Q := t_go k_199_10 rfl
theorem k_199_11 : lk 199 11 = some (.ireturn, 12, 0, 0, .null) := by decide +kernel
theorem x_199_11 : Tr sc d 199 (11, [l0, l1, l2, l3, l4, l5], [.int i0], h) Q = Q (some (.int i0), h) := t_ret k_199_11 (by rw [r_199]; rfl)
theorem k_199_12 : lk 199 12 = some (.aload_n 0, 13, 0, 0, .null) := by decide +kernel
theorem x_199_12 : Tr sc d 199 (12, [some (.ref xk), l1, l2, l3, l4, l5], [], h) Q = Tr sc d 199 (13, [some (.ref xk), l1, l2, l3, l4, l5], [.ref xk], h) Q := t_aload_n k_199_12 rfl
theorem k_199_13 : lk 199 13 = some (.iload_n 1, 14, 1, 0, .null) := by decide +kernel
theorem x_199_13 : Tr sc d 199 (13, [l0, some (.int x), l2, l3, l4, l5], [.ref k0], h) Q = Tr sc d 199 (14, [l0, some (.int x), l2, l3, l4, l5], [.int x, .ref k0], h) Q := t_iload_n k_199_13 rfl
theorem k_199_14 : lk 199 14 = some (.iload_n 2, 15, 2, 0, .null) := by decide +kernel
theorem x_199_14 : Tr sc d 199 (14, [l0, l1, some (.int x), l3, l4, l5], [.int i1, .ref k0], h) Q = Tr sc d 199 (15, [l0, l1, some (.int x), l3, l4, l5], [.int x, .int i1, .ref k0], h) Q := t_iload_n k_199_14 rfl
theorem k_199_15 : lk 199 15 = some (.iload_n 3, 16, 3, 0, .null) := by decide +kernel
theorem x_199_15 : Tr sc d 199 (15, [l0, l1, l2, some (.int x), l4, l5], [.int i2, .int i1, .ref k0], h) Q = Tr sc d 199 (16, [l0, l1, l2, some (.int x), l4, l5], [.int x, .int i2, .int i1, .ref k0], h) Q := t_iload_n k_199_15 rfl
theorem k_199_16 : lk 199 16 = some (.invokevirtual 257, 19, 198, 3, .null) := by decide +kernel
theorem x_199_16 : Tr sc (d + 1) 199 (16, [l0, l1, l2, l3, l4, l5], [.int i3, .int i2, .int i1, .ref k0], h) Q = (okp h k0 10 = true ∧ Tr sc d 198 (ent0 198 [.ref k0, .int i1, .int i2, .int i3] h) (fun z => Tr sc (d + 1) 199 (19, [l0, l1, l2, l3, l4, l5], z.1.toList ++ [], z.2) Q)) := t_cv (as := [.int i1, .int i2, .int i3]) (r := []) k_199_16 rfl rfl (Nat.le_of_ble_eq_true rfl) (Nat.le_of_ble_eq_true rfl) (Nat.le_of_ble_eq_true rfl)
theorem k_199_19 : lk 199 19 = some (.istore 5, 21, 5, 0, .null) := by decide +kernel
theorem x_199_19 : Tr sc d 199 (19, [l0, l1, l2, l3, l4, l5], [.int i0], h) Q = Tr sc d 199 (21, [l0, l1, l2, l3, cl2 l4, some (.int i0)], [], h) Q := t_istore k_199_19 (Nat.le_of_ble_eq_true rfl)
theorem k_199_21 : lk 199 21 = some (.iload 5, 23, 5, 0, .null) := by decide +kernel
theorem x_199_21 : Tr sc d 199 (21, [l0, l1, l2, l3, l4, some (.int x)], [], h) Q = Tr sc d 199 (23, [l0, l1, l2, l3, l4, some (.int x)], [.int x], h) Q := t_iload k_199_21 rfl
theorem k_199_23 : lk 199 23 = some (.ifCond .ge 6, 26, 29, 0, .null) := by decide +kernel
theorem x_199_23 : Tr sc d 199 (23, [l0, l1, l2, l3, l4, l5], [.int i0], h) Q = if 0 ≤ i0 then Tr sc d 199 (29, [l0, l1, l2, l3, l4, l5], [], h) Q else Tr sc d 199 (26, [l0, l1, l2, l3, l4, l5], [], h) Q := t_if k_199_23 rfl
theorem k_199_26 : lk 199 26 = some (.iload 5, 28, 5, 0, .null) := by decide +kernel
theorem x_199_26 : Tr sc d 199 (26, [l0, l1, l2, l3, l4, some (.int x)], [], h) Q = Tr sc d 199 (28, [l0, l1, l2, l3, l4, some (.int x)], [.int x], h) Q := t_iload k_199_26 rfl
theorem k_199_28 : lk 199 28 = some (.ireturn, 29, 0, 0, .null) := by decide +kernel
theorem x_199_28 : Tr sc d 199 (28, [l0, l1, l2, l3, l4, l5], [.int i0], h) Q = Q (some (.int i0), h) := t_ret k_199_28 (by rw [r_199]; rfl)
theorem k_199_29 : lk 199 29 = some (.aload_n 0, 30, 0, 0, .null) := by decide +kernel
theorem x_199_29 : Tr sc d 199 (29, [some (.ref xk), l1, l2, l3, l4, l5], [], h) Q = Tr sc d 199 (30, [some (.ref xk), l1, l2, l3, l4, l5], [.ref xk], h) Q := t_aload_n k_199_29 rfl
theorem k_199_30 : lk 199 30 = some (.iload_n 1, 31, 1, 0, .null) := by decide +kernel
theorem x_199_30 : Tr sc d 199 (30, [l0, some (.int x), l2, l3, l4, l5], [.ref k0], h) Q = Tr sc d 199 (31, [l0, some (.int x), l2, l3, l4, l5], [.int x, .ref k0], h) Q := t_iload_n k_199_30 rfl
theorem k_199_31 : lk 199 31 = some (.iload_n 2, 32, 2, 0, .null) := by decide +kernel
theorem x_199_31 : Tr sc d 199 (31, [l0, l1, some (.int x), l3, l4, l5], [.int i1, .ref k0], h) Q = Tr sc d 199 (32, [l0, l1, some (.int x), l3, l4, l5], [.int x, .int i1, .ref k0], h) Q := t_iload_n k_199_31 rfl
theorem k_199_32 : lk 199 32 = some (.iconst 0, 33, 0, 0, .int 0) := by decide +kernel
theorem x_199_32 : Tr sc d 199 (32, [l0, l1, l2, l3, l4, l5], [.int i2, .int i1, .ref k0], h) Q = Tr sc d 199 (33, [l0, l1, l2, l3, l4, l5], [.int 0, .int i2, .int i1, .ref k0], h) Q := t_go k_199_32 rfl
theorem k_199_33 : lk 199 33 = some (.iload_n 3, 34, 3, 0, .null) := by decide +kernel
theorem x_199_33 : Tr sc d 199 (33, [l0, l1, l2, some (.int x), l4, l5], [.int i3, .int i2, .int i1, .ref k0], h) Q = Tr sc d 199 (34, [l0, l1, l2, some (.int x), l4, l5], [.int x, .int i3, .int i2, .int i1, .ref k0], h) Q := t_iload_n k_199_33 rfl
theorem k_199_34 : lk 199 34 = some (.invokevirtual 260, 37, 197, 4, .null) := by decide +kernel
theorem x_199_34 : Tr sc (d + 1) 199 (34, [l0, l1, l2, l3, l4, l5], [.int i4, .int i3, .int i2, .int i1, .ref k0], h) Q = (okp h k0 10 = true ∧ Tr sc d 197 (ent0 197 [.ref k0, .int i1, .int i2, .int i3, .int i4] h) (fun z => Tr sc (d + 1) 199 (37, [l0, l1, l2, l3, l4, l5], z.1.toList ++ [], z.2) Q)) := t_cv (as := [.int i1, .int i2, .int i3, .int i4]) (r := []) k_199_34 rfl rfl (Nat.le_of_ble_eq_true rfl) (Nat.le_of_ble_eq_true rfl) (Nat.le_of_ble_eq_true rfl)
theorem k_199_37 : lk 199 37 = some (.aload_n 0, 38, 0, 0, .null) := by decide +kernel
theorem x_199_37 : Tr sc d 199 (37, [some (.ref xk), l1, l2, l3, l4, l5], [], h) Q = Tr sc d 199 (38, [some (.ref xk), l1, l2, l3, l4, l5], [.ref xk], h) Q := t_aload_n k_199_37 rfl
theorem k_199_38 : lk 199 38 = some (.iload 4, 40, 4, 0, .null) := by decide +kernel
theorem x_199_38 : Tr sc d 199 (38, [l0, l1, l2, l3, some (.int x), l5], [.ref k0], h) Q = Tr sc d 199 (40, [l0, l1, l2, l3, some (.int x), l5], [.int x, .ref k0], h) Q := t_iload k_199_38 rfl
theorem k_199_40 : lk 199 40 = some (.ifCond .eq 10, 43, 50, 0, .null) := by decide +kernel
theorem x_199_40 : Tr sc d 199 (40, [l0, l1, l2, l3, l4, l5], [.int i1, .ref k0], h) Q = if i1 = 0 then Tr sc d 199 (50, [l0, l1, l2, l3, l4, l5], [.ref k0], h) Q else Tr sc d 199 (43, [l0, l1, l2, l3, l4, l5], [.ref k0], h) Q := t_if k_199_40 rfl
theorem k_199_43 : lk 199 43 = some (.aload_n 0, 44, 0, 0, .null) := by decide +kernel
theorem x_199_43 : Tr sc d 199 (43, [some (.ref xk), l1, l2, l3, l4, l5], [.ref k0], h) Q = Tr sc d 199 (44, [some (.ref xk), l1, l2, l3, l4, l5], [.ref xk, .ref k0], h) Q := t_aload_n k_199_43 rfl
theorem k_199_44 : lk 199 44 = some (.getfield 232, 47, 10, 24, .int 0) := by decide +kernel
theorem x_199_44 : Tr sc d 199 (44, [l0, l1, l2, l3, l4, l5], [.ref k1, .ref k0], h) Q = (okp h k1 10 = true ∧ Tr sc d 199 (47, [l0, l1, l2, l3, l4, l5], [.int (hI h k1 24), .ref k0], h) Q) := t_gd k_199_44 rfl
theorem k_199_47 : lk 199 47 = some (.goto 7, 50, 54, 0, .null) := by decide +kernel
theorem x_199_47 : Tr sc d 199 (47, [l0, l1, l2, l3, l4, l5], [.int i1, .ref k0], h) Q = Tr sc d 199 (54, [l0, l1, l2, l3, l4, l5], [.int i1, .ref k0], h) Q := t_go k_199_47 rfl
theorem k_199_50 : lk 199 50 = some (.aload_n 0, 51, 0, 0, .null) := by decide +kernel
theorem x_199_50 : Tr sc d 199 (50, [some (.ref xk), l1, l2, l3, l4, l5], [.ref k0], h) Q = Tr sc d 199 (51, [some (.ref xk), l1, l2, l3, l4, l5], [.ref xk, .ref k0], h) Q := t_aload_n k_199_50 rfl
theorem k_199_51 : lk 199 51 = some (.getfield 229, 54, 10, 23, .int 0) := by decide +kernel
theorem x_199_51 : Tr sc d 199 (51, [l0, l1, l2, l3, l4, l5], [.ref k1, .ref k0], h) Q = (okp h k1 10 = true ∧ Tr sc d 199 (54, [l0, l1, l2, l3, l4, l5], [.int (hI h k1 23), .ref k0], h) Q) := t_gd k_199_51 rfl
theorem k_199_54 : lk 199 54 = some (.iconst 1, 55, 0, 0, .int 1) := by decide +kernel
theorem x_199_54 : Tr sc d 199 (54, [l0, l1, l2, l3, l4, l5], [.int i1, .ref k0], h) Q = Tr sc d 199 (55, [l0, l1, l2, l3, l4, l5], [.int 1, .int i1, .ref k0], h) Q := t_go k_199_54 rfl
theorem k_199_55 : lk 199 55 = some (.invokevirtual 162, 58, 159, 2, .null) := by decide +kernel
theorem x_199_55 : Tr sc (d + 1) 199 (55, [l0, l1, l2, l3, l4, l5], [.int i2, .int i1, .ref k0], h) Q = (okp h k0 10 = true ∧ Tr sc d 159 (ent0 159 [.ref k0, .int i1, .int i2] h) (fun z => Tr sc (d + 1) 199 (58, [l0, l1, l2, l3, l4, l5], z.1.toList ++ [], z.2) Q)) := t_cv (as := [.int i1, .int i2]) (r := []) k_199_55 rfl rfl (Nat.le_of_ble_eq_true rfl) (Nat.le_of_ble_eq_true rfl) (Nat.le_of_ble_eq_true rfl)
theorem k_199_58 : lk 199 58 = some (.ireturn, 59, 0, 0, .null) := by decide +kernel
theorem x_199_58 : Tr sc d 199 (58, [l0, l1, l2, l3, l4, l5], [.int i0], h) Q = Q (some (.int i0), h) := t_ret k_199_58 (by rw [r_199]; rfl)
theorem e_199 : Tr sc d 199 (ent0 199 [.ref k0, .int i1, .int i2, .int i3, .int i4] h) Q = Tr sc d 199 (0, [some (.ref k0), some (.int i1), some (.int i2), some (.int i3), some (.int i4), none], [], h) Q := by
  have e : mL 199 = 6 := by decide +kernel
  unfold ent0
  rw [e]
  rfl
theorem r_200 : mR 200 = some .int := by decide +kernel
theorem k_200_0 : lk 200 0 = some (.iload_n 3, 1, 3, 0, .null) := by decide +kernel
theorem x_200_0 : Tr sc d 200 (0, [l0, l1, l2, some (.int x), l4, l5, l6, l7, l8, l9, l10, l11, l12, l13, l14, l15, l16, l17, l18, l19, l20, l21, l22, l23, l24, l25, l26], [], h) Q = Tr sc d 200 (1, [l0, l1, l2, some (.int x), l4, l5, l6, l7, l8, l9, l10, l11, l12, l13, l14, l15, l16, l17, l18, l19, l20, l21, l22, l23, l24, l25, l26], [.int x], h) Q := t_iload_n k_200_0 rfl
theorem k_200_1 : lk 200 1 = some (.iconst 0, 2, 0, 0, .int 0) := by decide +kernel
theorem x_200_1 : Tr sc d 200 (1, [l0, l1, l2, l3, l4, l5, l6, l7, l8, l9, l10, l11, l12, l13, l14, l15, l16, l17, l18, l19, l20, l21, l22, l23, l24, l25, l26], [.int i0], h) Q = Tr sc d 200 (2, [l0, l1, l2, l3, l4, l5, l6, l7, l8, l9, l10, l11, l12, l13, l14, l15, l16, l17, l18, l19, l20, l21, l22, l23, l24, l25, l26], [.int 0, .int i0], h) Q := t_go k_200_1 rfl
theorem k_200_2 : lk 200 2 = some (.bipush 6, 4, 0, 0, .int 6) := by decide +kernel
theorem x_200_2 : Tr sc d 200 (2, [l0, l1, l2, l3, l4, l5, l6, l7, l8, l9, l10, l11, l12, l13, l14, l15, l16, l17, l18, l19, l20, l21, l22, l23, l24, l25, l26], [.int i1, .int i0], h) Q = Tr sc d 200 (4, [l0, l1, l2, l3, l4, l5, l6, l7, l8, l9, l10, l11, l12, l13, l14, l15, l16, l17, l18, l19, l20, l21, l22, l23, l24, l25, l26], [.int 6, .int i1, .int i0], h) Q := t_go k_200_2 rfl
theorem k_200_4 : lk 200 4 = some (.invokestatic 144, 7, 157, 3, .null) := by decide +kernel
theorem x_200_4 : Tr sc (d + 1) 200 (4, [l0, l1, l2, l3, l4, l5, l6, l7, l8, l9, l10, l11, l12, l13, l14, l15, l16, l17, l18, l19, l20, l21, l22, l23, l24, l25, l26], [.int i2, .int i1, .int i0], h) Q = Tr sc d 157 (ent0 157 [.int i0, .int i1, .int i2] h) (fun z => Tr sc (d + 1) 200 (7, [l0, l1, l2, l3, l4, l5, l6, l7, l8, l9, l10, l11, l12, l13, l14, l15, l16, l17, l18, l19, l20, l21, l22, l23, l24, l25, l26], z.1.toList ++ [], z.2) Q) := t_cs (as := [.int i0, .int i1, .int i2]) (r := []) k_200_4 (by decide) rfl rfl (Nat.le_of_ble_eq_true rfl) (Nat.le_of_ble_eq_true rfl)
theorem k_200_7 : lk 200 7 = some (.ifCond .eq 14, 10, 21, 0, .null) := by decide +kernel
theorem x_200_7 : Tr sc d 200 (7, [l0, l1, l2, l3, l4, l5, l6, l7, l8, l9, l10, l11, l12, l13, l14, l15, l16, l17, l18, l19, l20, l21, l22, l23, l24, l25, l26], [.int i0], h) Q = if i0 = 0 then Tr sc d 200 (21, [l0, l1, l2, l3, l4, l5, l6, l7, l8, l9, l10, l11, l12, l13, l14, l15, l16, l17, l18, l19, l20, l21, l22, l23, l24, l25, l26], [], h) Q else Tr sc d 200 (10, [l0, l1, l2, l3, l4, l5, l6, l7, l8, l9, l10, l11, l12, l13, l14, l15, l16, l17, l18, l19, l20, l21, l22, l23, l24, l25, l26], [], h) Q := t_if k_200_7 rfl
theorem k_200_10 : lk 200 10 = some (.iload 4, 12, 4, 0, .null) := by decide +kernel
theorem x_200_10 : Tr sc d 200 (10, [l0, l1, l2, l3, some (.int x), l5, l6, l7, l8, l9, l10, l11, l12, l13, l14, l15, l16, l17, l18, l19, l20, l21, l22, l23, l24, l25, l26], [], h) Q = Tr sc d 200 (12, [l0, l1, l2, l3, some (.int x), l5, l6, l7, l8, l9, l10, l11, l12, l13, l14, l15, l16, l17, l18, l19, l20, l21, l22, l23, l24, l25, l26], [.int x], h) Q := t_iload k_200_10 rfl
theorem k_200_12 : lk 200 12 = some (.iconst 1, 13, 0, 0, .int 1) := by decide +kernel
theorem x_200_12 : Tr sc d 200 (12, [l0, l1, l2, l3, l4, l5, l6, l7, l8, l9, l10, l11, l12, l13, l14, l15, l16, l17, l18, l19, l20, l21, l22, l23, l24, l25, l26], [.int i0], h) Q = Tr sc d 200 (13, [l0, l1, l2, l3, l4, l5, l6, l7, l8, l9, l10, l11, l12, l13, l14, l15, l16, l17, l18, l19, l20, l21, l22, l23, l24, l25, l26], [.int 1, .int i0], h) Q := t_go k_200_12 rfl
theorem k_200_13 : lk 200 13 = some (.bipush 6, 15, 0, 0, .int 6) := by decide +kernel
theorem x_200_13 : Tr sc d 200 (13, [l0, l1, l2, l3, l4, l5, l6, l7, l8, l9, l10, l11, l12, l13, l14, l15, l16, l17, l18, l19, l20, l21, l22, l23, l24, l25, l26], [.int i1, .int i0], h) Q = Tr sc d 200 (15, [l0, l1, l2, l3, l4, l5, l6, l7, l8, l9, l10, l11, l12, l13, l14, l15, l16, l17, l18, l19, l20, l21, l22, l23, l24, l25, l26], [.int 6, .int i1, .int i0], h) Q := t_go k_200_13 rfl
theorem k_200_15 : lk 200 15 = some (.invokestatic 144, 18, 157, 3, .null) := by decide +kernel
theorem x_200_15 : Tr sc (d + 1) 200 (15, [l0, l1, l2, l3, l4, l5, l6, l7, l8, l9, l10, l11, l12, l13, l14, l15, l16, l17, l18, l19, l20, l21, l22, l23, l24, l25, l26], [.int i2, .int i1, .int i0], h) Q = Tr sc d 157 (ent0 157 [.int i0, .int i1, .int i2] h) (fun z => Tr sc (d + 1) 200 (18, [l0, l1, l2, l3, l4, l5, l6, l7, l8, l9, l10, l11, l12, l13, l14, l15, l16, l17, l18, l19, l20, l21, l22, l23, l24, l25, l26], z.1.toList ++ [], z.2) Q) := t_cs (as := [.int i0, .int i1, .int i2]) (r := []) k_200_15 (by decide) rfl rfl (Nat.le_of_ble_eq_true rfl) (Nat.le_of_ble_eq_true rfl)
theorem k_200_18 : lk 200 18 = some (.ifCond .ne 5, 21, 23, 0, .null) := by decide +kernel
theorem x_200_18 : Tr sc d 200 (18, [l0, l1, l2, l3, l4, l5, l6, l7, l8, l9, l10, l11, l12, l13, l14, l15, l16, l17, l18, l19, l20, l21, l22, l23, l24, l25, l26], [.int i0], h) Q = if i0 = 0 then Tr sc d 200 (21, [l0, l1, l2, l3, l4, l5, l6, l7, l8, l9, l10, l11, l12, l13, l14, l15, l16, l17, l18, l19, l20, l21, l22, l23, l24, l25, l26], [], h) Q else Tr sc d 200 (23, [l0, l1, l2, l3, l4, l5, l6, l7, l8, l9, l10, l11, l12, l13, l14, l15, l16, l17, l18, l19, l20, l21, l22, l23, l24, l25, l26], [], h) Q := t_if k_200_18 rfl
theorem k_200_21 : lk 200 21 = some (.iconst (-1), 22, 0, 0, .int (-1)) := by decide +kernel
theorem x_200_21 : Tr sc d 200 (21, [l0, l1, l2, l3, l4, l5, l6, l7, l8, l9, l10, l11, l12, l13, l14, l15, l16, l17, l18, l19, l20, l21, l22, l23, l24, l25, l26], [], h) Q = Tr sc d 200 (22, [l0, l1, l2, l3, l4, l5, l6, l7, l8, l9, l10, l11, l12, l13, l14, l15, l16, l17, l18, l19, l20, l21, l22, l23, l24, l25, l26], [.int (-1)], h) Q := t_go k_200_21 rfl
theorem k_200_22 : lk 200 22 = some (.ireturn, 23, 0, 0, .null) := by decide +kernel
theorem x_200_22 : Tr sc d 200 (22, [l0, l1, l2, l3, l4, l5, l6, l7, l8, l9, l10, l11, l12, l13, l14, l15, l16, l17, l18, l19, l20, l21, l22, l23, l24, l25, l26], [.int i0], h) Q = Q (some (.int i0), h) := t_ret k_200_22 (by rw [r_200]; rfl)
theorem k_200_23 : lk 200 23 = some (.aload_n 0, 24, 0, 0, .null) := by decide +kernel
theorem x_200_23 : Tr sc d 200 (23, [some (.ref xk), l1, l2, l3, l4, l5, l6, l7, l8, l9, l10, l11, l12, l13, l14, l15, l16, l17, l18, l19, l20, l21, l22, l23, l24, l25, l26], [], h) Q = Tr sc d 200 (24, [some (.ref xk), l1, l2, l3, l4, l5, l6, l7, l8, l9, l10, l11, l12, l13, l14, l15, l16, l17, l18, l19, l20, l21, l22, l23, l24, l25, l26], [.ref xk], h) Q := t_aload_n k_200_23 rfl
theorem k_200_24 : lk 200 24 = some (.iload_n 1, 25, 1, 0, .null) := by decide +kernel
theorem x_200_24 : Tr sc d 200 (24, [l0, some (.int x), l2, l3, l4, l5, l6, l7, l8, l9, l10, l11, l12, l13, l14, l15, l16, l17, l18, l19, l20, l21, l22, l23, l24, l25, l26], [.ref k0], h) Q = Tr sc d 200 (25, [l0, some (.int x), l2, l3, l4, l5, l6, l7, l8, l9, l10, l11, l12, l13, l14, l15, l16, l17, l18, l19, l20, l21, l22, l23, l24, l25, l26], [.int x, .ref k0], h) Q := t_iload_n k_200_24 rfl
theorem k_200_25 : lk 200 25 = some (.iload_n 2, 26, 2, 0, .null) := by decide +kernel
theorem x_200_25 : Tr sc d 200 (25, [l0, l1, some (.int x), l3, l4, l5, l6, l7, l8, l9, l10, l11, l12, l13, l14, l15, l16, l17, l18, l19, l20, l21, l22, l23, l24, l25, l26], [.int i1, .ref k0], h) Q = Tr sc d 200 (26, [l0, l1, some (.int x), l3, l4, l5, l6, l7, l8, l9, l10, l11, l12, l13, l14, l15, l16, l17, l18, l19, l20, l21, l22, l23, l24, l25, l26], [.int x, .int i1, .ref k0], h) Q := t_iload_n k_200_25 rfl
theorem k_200_26 : lk 200 26 = some (.iload_n 3, 27, 3, 0, .null) := by decide +kernel
theorem x_200_26 : Tr sc d 200 (26, [l0, l1, l2, some (.int x), l4, l5, l6, l7, l8, l9, l10, l11, l12, l13, l14, l15, l16, l17, l18, l19, l20, l21, l22, l23, l24, l25, l26], [.int i2, .int i1, .ref k0], h) Q = Tr sc d 200 (27, [l0, l1, l2, some (.int x), l4, l5, l6, l7, l8, l9, l10, l11, l12, l13, l14, l15, l16, l17, l18, l19, l20, l21, l22, l23, l24, l25, l26], [.int x, .int i2, .int i1, .ref k0], h) Q := t_iload_n k_200_26 rfl
theorem k_200_27 : lk 200 27 = some (.iload 4, 29, 4, 0, .null) := by decide +kernel
theorem x_200_27 : Tr sc d 200 (27, [l0, l1, l2, l3, some (.int x), l5, l6, l7, l8, l9, l10, l11, l12, l13, l14, l15, l16, l17, l18, l19, l20, l21, l22, l23, l24, l25, l26], [.int i3, .int i2, .int i1, .ref k0], h) Q = Tr sc d 200 (29, [l0, l1, l2, l3, some (.int x), l5, l6, l7, l8, l9, l10, l11, l12, l13, l14, l15, l16, l17, l18, l19, l20, l21, l22, l23, l24, l25, l26], [.int x, .int i3, .int i2, .int i1, .ref k0], h) Q := t_iload k_200_27 rfl
theorem k_200_29 : lk 200 29 = some (.iadd, 30, 0, 0, .null) := by decide +kernel
theorem x_200_29 : Tr sc d 200 (29, [l0, l1, l2, l3, l4, l5, l6, l7, l8, l9, l10, l11, l12, l13, l14, l15, l16, l17, l18, l19, l20, l21, l22, l23, l24, l25, l26], [.int i4, .int i3, .int i2, .int i1, .ref k0], h) Q = Tr sc d 200 (30, [l0, l1, l2, l3, l4, l5, l6, l7, l8, l9, l10, l11, l12, l13, l14, l15, l16, l17, l18, l19, l20, l21, l22, l23, l24, l25, l26], [.int (i3 + i4), .int i2, .int i1, .ref k0], h) Q := t_go k_200_29 rfl
theorem k_200_30 : lk 200 30 = some (.invokevirtual 257, 33, 198, 3, .null) := by decide +kernel
theorem x_200_30 : Tr sc (d + 1) 200 (30, [l0, l1, l2, l3, l4, l5, l6, l7, l8, l9, l10, l11, l12, l13, l14, l15, l16, l17, l18, l19, l20, l21, l22, l23, l24, l25, l26], [.int i3, .int i2, .int i1, .ref k0], h) Q = (okp h k0 10 = true ∧ Tr sc d 198 (ent0 198 [.ref k0, .int i1, .int i2, .int i3] h) (fun z => Tr sc (d + 1) 200 (33, [l0, l1, l2, l3, l4, l5, l6, l7, l8, l9, l10, l11, l12, l13, l14, l15, l16, l17, l18, l19, l20, l21, l22, l23, l24, l25, l26], z.1.toList ++ [], z.2) Q)) := t_cv (as := [.int i1, .int i2, .int i3]) (r := []) k_200_30 rfl rfl (Nat.le_of_ble_eq_true rfl) (Nat.le_of_ble_eq_true rfl) (Nat.le_of_ble_eq_true rfl)
theorem k_200_33 : lk 200 33 = some (.istore 6, 35, 6, 0, .null) := by decide +kernel
theorem x_200_33 : Tr sc d 200 (33, [l0, l1, l2, l3, l4, l5, l6, l7, l8, l9, l10, l11, l12, l13, l14, l15, l16, l17, l18, l19, l20, l21, l22, l23, l24, l25, l26], [.int i0], h) Q = Tr sc d 200 (35, [l0, l1, l2, l3, l4, cl2 l5, some (.int i0), l7, l8, l9, l10, l11, l12, l13, l14, l15, l16, l17, l18, l19, l20, l21, l22, l23, l24, l25, l26], [], h) Q := t_istore k_200_33 (Nat.le_of_ble_eq_true rfl)
theorem k_200_35 : lk 200 35 = some (.iload 6, 37, 6, 0, .null) := by decide +kernel
theorem x_200_35 : Tr sc d 200 (35, [l0, l1, l2, l3, l4, l5, some (.int x), l7, l8, l9, l10, l11, l12, l13, l14, l15, l16, l17, l18, l19, l20, l21, l22, l23, l24, l25, l26], [], h) Q = Tr sc d 200 (37, [l0, l1, l2, l3, l4, l5, some (.int x), l7, l8, l9, l10, l11, l12, l13, l14, l15, l16, l17, l18, l19, l20, l21, l22, l23, l24, l25, l26], [.int x], h) Q := t_iload k_200_35 rfl
theorem k_200_37 : lk 200 37 = some (.ifCond .ge 6, 40, 43, 0, .null) := by decide +kernel
theorem x_200_37 : Tr sc d 200 (37, [l0, l1, l2, l3, l4, l5, l6, l7, l8, l9, l10, l11, l12, l13, l14, l15, l16, l17, l18, l19, l20, l21, l22, l23, l24, l25, l26], [.int i0], h) Q = if 0 ≤ i0 then Tr sc d 200 (43, [l0, l1, l2, l3, l4, l5, l6, l7, l8, l9, l10, l11, l12, l13, l14, l15, l16, l17, l18, l19, l20, l21, l22, l23, l24, l25, l26], [], h) Q else Tr sc d 200 (40, [l0, l1, l2, l3, l4, l5, l6, l7, l8, l9, l10, l11, l12, l13, l14, l15, l16, l17, l18, l19, l20, l21, l22, l23, l24, l25, l26], [], h) Q := t_if k_200_37 rfl
theorem k_200_40 : lk 200 40 = some (.iload 6, 42, 6, 0, .null) := by decide +kernel
theorem x_200_40 : Tr sc d 200 (40, [l0, l1, l2, l3, l4, l5, some (.int x), l7, l8, l9, l10, l11, l12, l13, l14, l15, l16, l17, l18, l19, l20, l21, l22, l23, l24, l25, l26], [], h) Q = Tr sc d 200 (42, [l0, l1, l2, l3, l4, l5, some (.int x), l7, l8, l9, l10, l11, l12, l13, l14, l15, l16, l17, l18, l19, l20, l21, l22, l23, l24, l25, l26], [.int x], h) Q := t_iload k_200_40 rfl
theorem k_200_42 : lk 200 42 = some (.ireturn, 43, 0, 0, .null) := by decide +kernel
theorem x_200_42 : Tr sc d 200 (42, [l0, l1, l2, l3, l4, l5, l6, l7, l8, l9, l10, l11, l12, l13, l14, l15, l16, l17, l18, l19, l20, l21, l22, l23, l24, l25, l26], [.int i0], h) Q = Q (some (.int i0), h) := t_ret k_200_42 (by rw [r_200]; rfl)
theorem k_200_43 : lk 200 43 = some (.aload_n 0, 44, 0, 0, .null) := by decide +kernel
theorem x_200_43 : Tr sc d 200 (43, [some (.ref xk), l1, l2, l3, l4, l5, l6, l7, l8, l9, l10, l11, l12, l13, l14, l15, l16, l17, l18, l19, l20, l21, l22, l23, l24, l25, l26], [], h) Q = Tr sc d 200 (44, [some (.ref xk), l1, l2, l3, l4, l5, l6, l7, l8, l9, l10, l11, l12, l13, l14, l15, l16, l17, l18, l19, l20, l21, l22, l23, l24, l25, l26], [.ref xk], h) Q := t_aload_n k_200_43 rfl
theorem k_200_44 : lk 200 44 = some (.iload_n 1, 45, 1, 0, .null) := by decide +kernel
theorem x_200_44 : Tr sc d 200 (44, [l0, some (.int x), l2, l3, l4, l5, l6, l7, l8, l9, l10, l11, l12, l13, l14, l15, l16, l17, l18, l19, l20, l21, l22, l23, l24, l25, l26], [.ref k0], h) Q = Tr sc d 200 (45, [l0, some (.int x), l2, l3, l4, l5, l6, l7, l8, l9, l10, l11, l12, l13, l14, l15, l16, l17, l18, l19, l20, l21, l22, l23, l24, l25, l26], [.int x, .ref k0], h) Q := t_iload_n k_200_44 rfl
theorem k_200_45 : lk 200 45 = some (.iload_n 2, 46, 2, 0, .null) := by decide +kernel
theorem x_200_45 : Tr sc d 200 (45, [l0, l1, some (.int x), l3, l4, l5, l6, l7, l8, l9, l10, l11, l12, l13, l14, l15, l16, l17, l18, l19, l20, l21, l22, l23, l24, l25, l26], [.int i1, .ref k0], h) Q = Tr sc d 200 (46, [l0, l1, some (.int x), l3, l4, l5, l6, l7, l8, l9, l10, l11, l12, l13, l14, l15, l16, l17, l18, l19, l20, l21, l22, l23, l24, l25, l26], [.int x, .int i1, .ref k0], h) Q := t_iload_n k_200_45 rfl
theorem k_200_46 : lk 200 46 = some (.iload_n 3, 47, 3, 0, .null) := by decide +kernel
theorem x_200_46 : Tr sc d 200 (46, [l0, l1, l2, some (.int x), l4, l5, l6, l7, l8, l9, l10, l11, l12, l13, l14, l15, l16, l17, l18, l19, l20, l21, l22, l23, l24, l25, l26], [.int i2, .int i1, .ref k0], h) Q = Tr sc d 200 (47, [l0, l1, l2, some (.int x), l4, l5, l6, l7, l8, l9, l10, l11, l12, l13, l14, l15, l16, l17, l18, l19, l20, l21, l22, l23, l24, l25, l26], [.int x, .int i2, .int i1, .ref k0], h) Q := t_iload_n k_200_46 rfl
theorem k_200_47 : lk 200 47 = some (.iload 4, 49, 4, 0, .null) := by decide +kernel
theorem x_200_47 : Tr sc d 200 (47, [l0, l1, l2, l3, some (.int x), l5, l6, l7, l8, l9, l10, l11, l12, l13, l14, l15, l16, l17, l18, l19, l20, l21, l22, l23, l24, l25, l26], [.int i3, .int i2, .int i1, .ref k0], h) Q = Tr sc d 200 (49, [l0, l1, l2, l3, some (.int x), l5, l6, l7, l8, l9, l10, l11, l12, l13, l14, l15, l16, l17, l18, l19, l20, l21, l22, l23, l24, l25, l26], [.int x, .int i3, .int i2, .int i1, .ref k0], h) Q := t_iload k_200_47 rfl
theorem k_200_49 : lk 200 49 = some (.invokevirtual 260, 52, 197, 4, .null) := by decide +kernel
theorem x_200_49 : Tr sc (d + 1) 200 (49, [l0, l1, l2, l3, l4, l5, l6, l7, l8, l9, l10, l11, l12, l13, l14, l15, l16, l17, l18, l19, l20, l21, l22, l23, l24, l25, l26], [.int i4, .int i3, .int i2, .int i1, .ref k0], h) Q = (okp h k0 10 = true ∧ Tr sc d 197 (ent0 197 [.ref k0, .int i1, .int i2, .int i3, .int i4] h) (fun z => Tr sc (d + 1) 200 (52, [l0, l1, l2, l3, l4, l5, l6, l7, l8, l9, l10, l11, l12, l13, l14, l15, l16, l17, l18, l19, l20, l21, l22, l23, l24, l25, l26], z.1.toList ++ [], z.2) Q)) := t_cv (as := [.int i1, .int i2, .int i3, .int i4]) (r := []) k_200_49 rfl rfl (Nat.le_of_ble_eq_true rfl) (Nat.le_of_ble_eq_true rfl) (Nat.le_of_ble_eq_true rfl)
theorem k_200_52 : lk 200 52 = some (.aload_n 0, 53, 0, 0, .null) := by decide +kernel
theorem x_200_52 : Tr sc d 200 (52, [some (.ref xk), l1, l2, l3, l4, l5, l6, l7, l8, l9, l10, l11, l12, l13, l14, l15, l16, l17, l18, l19, l20, l21, l22, l23, l24, l25, l26], [], h) Q = Tr sc d 200 (53, [some (.ref xk), l1, l2, l3, l4, l5, l6, l7, l8, l9, l10, l11, l12, l13, l14, l15, l16, l17, l18, l19, l20, l21, l22, l23, l24, l25, l26], [.ref xk], h) Q := t_aload_n k_200_52 rfl
theorem k_200_53 : lk 200 53 = some (.getfield 38, 56, 10, 17, .null) := by decide +kernel
theorem x_200_53 : Tr sc d 200 (53, [l0, l1, l2, l3, l4, l5, l6, l7, l8, l9, l10, l11, l12, l13, l14, l15, l16, l17, l18, l19, l20, l21, l22, l23, l24, l25, l26], [.ref k0], h) Q = (okp h k0 10 = true ∧ ∃ q, hR h k0 17 = some q ∧ Tr sc d 200 (56, [l0, l1, l2, l3, l4, l5, l6, l7, l8, l9, l10, l11, l12, l13, l14, l15, l16, l17, l18, l19, l20, l21, l22, l23, l24, l25, l26], [.ref q], h) Q) := t_getr k_200_53
theorem k_200_56 : lk 200 56 = some (.iload_n 1, 57, 1, 0, .null) := by decide +kernel
theorem x_200_56 : Tr sc d 200 (56, [l0, some (.int x), l2, l3, l4, l5, l6, l7, l8, l9, l10, l11, l12, l13, l14, l15, l16, l17, l18, l19, l20, l21, l22, l23, l24, l25, l26], [.ref k0], h) Q = Tr sc d 200 (57, [l0, some (.int x), l2, l3, l4, l5, l6, l7, l8, l9, l10, l11, l12, l13, l14, l15, l16, l17, l18, l19, l20, l21, l22, l23, l24, l25, l26], [.int x, .ref k0], h) Q := t_iload_n k_200_56 rfl
theorem k_200_57 : lk 200 57 = some (.iaload, 58, 0, 0, .null) := by decide +kernel
theorem x_200_57 : Tr sc d 200 (57, [l0, l1, l2, l3, l4, l5, l6, l7, l8, l9, l10, l11, l12, l13, l14, l15, l16, l17, l18, l19, l20, l21, l22, l23, l24, l25, l26], [.int i1, .ref k0], h) Q = (iOk sc h k0 i1 ∧ Tr sc d 200 (58, [l0, l1, l2, l3, l4, l5, l6, l7, l8, l9, l10, l11, l12, l13, l14, l15, l16, l17, l18, l19, l20, l21, l22, l23, l24, l25, l26], [.int (iRd sc h k0 i1)], h) Q) := t_iald k_200_57
theorem k_200_58 : lk 200 58 = some (.iload 4, 60, 4, 0, .null) := by decide +kernel
theorem x_200_58 : Tr sc d 200 (58, [l0, l1, l2, l3, some (.int x), l5, l6, l7, l8, l9, l10, l11, l12, l13, l14, l15, l16, l17, l18, l19, l20, l21, l22, l23, l24, l25, l26], [.int i0], h) Q = Tr sc d 200 (60, [l0, l1, l2, l3, some (.int x), l5, l6, l7, l8, l9, l10, l11, l12, l13, l14, l15, l16, l17, l18, l19, l20, l21, l22, l23, l24, l25, l26], [.int x, .int i0], h) Q := t_iload k_200_58 rfl
theorem k_200_60 : lk 200 60 = some (.invokestatic 247, 63, 196, 2, .null) := by decide +kernel
theorem x_200_60 : Tr sc (d + 1) 200 (60, [l0, l1, l2, l3, l4, l5, l6, l7, l8, l9, l10, l11, l12, l13, l14, l15, l16, l17, l18, l19, l20, l21, l22, l23, l24, l25, l26], [.int i1, .int i0], h) Q = Tr sc d 196 (ent0 196 [.int i0, .int i1] h) (fun z => Tr sc (d + 1) 200 (63, [l0, l1, l2, l3, l4, l5, l6, l7, l8, l9, l10, l11, l12, l13, l14, l15, l16, l17, l18, l19, l20, l21, l22, l23, l24, l25, l26], z.1.toList ++ [], z.2) Q) := t_cs (as := [.int i0, .int i1]) (r := []) k_200_60 (by decide) rfl rfl (Nat.le_of_ble_eq_true rfl) (Nat.le_of_ble_eq_true rfl)
theorem k_200_63 : lk 200 63 = some (.i2l, 64, 0, 0, .null) := by decide +kernel
theorem x_200_63 : Tr sc d 200 (63, [l0, l1, l2, l3, l4, l5, l6, l7, l8, l9, l10, l11, l12, l13, l14, l15, l16, l17, l18, l19, l20, l21, l22, l23, l24, l25, l26], [.int i0], h) Q = Tr sc d 200 (64, [l0, l1, l2, l3, l4, l5, l6, l7, l8, l9, l10, l11, l12, l13, l14, l15, l16, l17, l18, l19, l20, l21, l22, l23, l24, l25, l26], [.long i0.toInt64], h) Q := t_go k_200_63 rfl
theorem k_200_64 : lk 200 64 = some (.lstore 7, 66, 7, 0, .null) := by decide +kernel
theorem x_200_64 : Tr sc d 200 (64, [l0, l1, l2, l3, l4, l5, l6, l7, l8, l9, l10, l11, l12, l13, l14, l15, l16, l17, l18, l19, l20, l21, l22, l23, l24, l25, l26], [.long j0], h) Q = Tr sc d 200 (66, [l0, l1, l2, l3, l4, l5, cl2 l6, some (.long j0), none, l9, l10, l11, l12, l13, l14, l15, l16, l17, l18, l19, l20, l21, l22, l23, l24, l25, l26], [], h) Q := t_lstore k_200_64 (Nat.le_of_ble_eq_true rfl)
theorem k_200_66 : lk 200 66 = some (.lload 7, 68, 7, 0, .null) := by decide +kernel
theorem x_200_66 : Tr sc d 200 (66, [l0, l1, l2, l3, l4, l5, l6, some (.long xl), l8, l9, l10, l11, l12, l13, l14, l15, l16, l17, l18, l19, l20, l21, l22, l23, l24, l25, l26], [], h) Q = Tr sc d 200 (68, [l0, l1, l2, l3, l4, l5, l6, some (.long xl), l8, l9, l10, l11, l12, l13, l14, l15, l16, l17, l18, l19, l20, l21, l22, l23, l24, l25, l26], [.long xl], h) Q := t_lload k_200_66 rfl
theorem k_200_68 : lk 200 68 = some (.aload_n 0, 69, 0, 0, .null) := by decide +kernel
theorem x_200_68 : Tr sc d 200 (68, [some (.ref xk), l1, l2, l3, l4, l5, l6, l7, l8, l9, l10, l11, l12, l13, l14, l15, l16, l17, l18, l19, l20, l21, l22, l23, l24, l25, l26], [.long j0], h) Q = Tr sc d 200 (69, [some (.ref xk), l1, l2, l3, l4, l5, l6, l7, l8, l9, l10, l11, l12, l13, l14, l15, l16, l17, l18, l19, l20, l21, l22, l23, l24, l25, l26], [.ref xk, .long j0], h) Q := t_aload_n k_200_68 rfl
theorem k_200_69 : lk 200 69 = some (.getfield 235, 72, 10, 25, .int 0) := by decide +kernel
theorem x_200_69 : Tr sc d 200 (69, [l0, l1, l2, l3, l4, l5, l6, l7, l8, l9, l10, l11, l12, l13, l14, l15, l16, l17, l18, l19, l20, l21, l22, l23, l24, l25, l26], [.ref k1, .long j0], h) Q = (okp h k1 10 = true ∧ Tr sc d 200 (72, [l0, l1, l2, l3, l4, l5, l6, l7, l8, l9, l10, l11, l12, l13, l14, l15, l16, l17, l18, l19, l20, l21, l22, l23, l24, l25, l26], [.int (hI h k1 25), .long j0], h) Q) := t_gd k_200_69 rfl
theorem k_200_72 : lk 200 72 = some (.i2l, 73, 0, 0, .null) := by decide +kernel
theorem x_200_72 : Tr sc d 200 (72, [l0, l1, l2, l3, l4, l5, l6, l7, l8, l9, l10, l11, l12, l13, l14, l15, l16, l17, l18, l19, l20, l21, l22, l23, l24, l25, l26], [.int i1, .long j0], h) Q = Tr sc d 200 (73, [l0, l1, l2, l3, l4, l5, l6, l7, l8, l9, l10, l11, l12, l13, l14, l15, l16, l17, l18, l19, l20, l21, l22, l23, l24, l25, l26], [.long i1.toInt64, .long j0], h) Q := t_go k_200_72 rfl
theorem k_200_73 : lk 200 73 = some (.lsub, 74, 0, 0, .null) := by decide +kernel
theorem x_200_73 : Tr sc d 200 (73, [l0, l1, l2, l3, l4, l5, l6, l7, l8, l9, l10, l11, l12, l13, l14, l15, l16, l17, l18, l19, l20, l21, l22, l23, l24, l25, l26], [.long j1, .long j0], h) Q = Tr sc d 200 (74, [l0, l1, l2, l3, l4, l5, l6, l7, l8, l9, l10, l11, l12, l13, l14, l15, l16, l17, l18, l19, l20, l21, l22, l23, l24, l25, l26], [.long (j0 - j1)], h) Q := t_go k_200_73 rfl
theorem k_200_74 : lk 200 74 = some (.lstore 9, 76, 9, 0, .null) := by decide +kernel
theorem x_200_74 : Tr sc d 200 (74, [l0, l1, l2, l3, l4, l5, l6, l7, l8, l9, l10, l11, l12, l13, l14, l15, l16, l17, l18, l19, l20, l21, l22, l23, l24, l25, l26], [.long j0], h) Q = Tr sc d 200 (76, [l0, l1, l2, l3, l4, l5, l6, l7, cl2 l8, some (.long j0), none, l11, l12, l13, l14, l15, l16, l17, l18, l19, l20, l21, l22, l23, l24, l25, l26], [], h) Q := t_lstore k_200_74 (Nat.le_of_ble_eq_true rfl)
theorem k_200_76 : lk 200 76 = some (.aload_n 0, 77, 0, 0, .null) := by decide +kernel
theorem x_200_76 : Tr sc d 200 (76, [some (.ref xk), l1, l2, l3, l4, l5, l6, l7, l8, l9, l10, l11, l12, l13, l14, l15, l16, l17, l18, l19, l20, l21, l22, l23, l24, l25, l26], [], h) Q = Tr sc d 200 (77, [some (.ref xk), l1, l2, l3, l4, l5, l6, l7, l8, l9, l10, l11, l12, l13, l14, l15, l16, l17, l18, l19, l20, l21, l22, l23, l24, l25, l26], [.ref xk], h) Q := t_aload_n k_200_76 rfl
theorem k_200_77 : lk 200 77 = some (.getfield 241, 80, 10, 27, .int 0) := by decide +kernel
theorem x_200_77 : Tr sc d 200 (77, [l0, l1, l2, l3, l4, l5, l6, l7, l8, l9, l10, l11, l12, l13, l14, l15, l16, l17, l18, l19, l20, l21, l22, l23, l24, l25, l26], [.ref k0], h) Q = (okp h k0 10 = true ∧ Tr sc d 200 (80, [l0, l1, l2, l3, l4, l5, l6, l7, l8, l9, l10, l11, l12, l13, l14, l15, l16, l17, l18, l19, l20, l21, l22, l23, l24, l25, l26], [.int (hI h k0 27)], h) Q) := t_gd k_200_77 rfl
theorem k_200_80 : lk 200 80 = some (.ineg, 81, 0, 0, .null) := by decide +kernel
theorem x_200_80 : Tr sc d 200 (80, [l0, l1, l2, l3, l4, l5, l6, l7, l8, l9, l10, l11, l12, l13, l14, l15, l16, l17, l18, l19, l20, l21, l22, l23, l24, l25, l26], [.int i0], h) Q = Tr sc d 200 (81, [l0, l1, l2, l3, l4, l5, l6, l7, l8, l9, l10, l11, l12, l13, l14, l15, l16, l17, l18, l19, l20, l21, l22, l23, l24, l25, l26], [.int (-i0)], h) Q := t_go k_200_80 rfl
theorem k_200_81 : lk 200 81 = some (.i2l, 82, 0, 0, .null) := by decide +kernel
theorem x_200_81 : Tr sc d 200 (81, [l0, l1, l2, l3, l4, l5, l6, l7, l8, l9, l10, l11, l12, l13, l14, l15, l16, l17, l18, l19, l20, l21, l22, l23, l24, l25, l26], [.int i0], h) Q = Tr sc d 200 (82, [l0, l1, l2, l3, l4, l5, l6, l7, l8, l9, l10, l11, l12, l13, l14, l15, l16, l17, l18, l19, l20, l21, l22, l23, l24, l25, l26], [.long i0.toInt64], h) Q := t_go k_200_81 rfl
theorem k_200_82 : lk 200 82 = some (.lstore 11, 84, 11, 0, .null) := by decide +kernel
theorem x_200_82 : Tr sc d 200 (82, [l0, l1, l2, l3, l4, l5, l6, l7, l8, l9, l10, l11, l12, l13, l14, l15, l16, l17, l18, l19, l20, l21, l22, l23, l24, l25, l26], [.long j0], h) Q = Tr sc d 200 (84, [l0, l1, l2, l3, l4, l5, l6, l7, l8, l9, cl2 l10, some (.long j0), none, l13, l14, l15, l16, l17, l18, l19, l20, l21, l22, l23, l24, l25, l26], [], h) Q := t_lstore k_200_82 (Nat.le_of_ble_eq_true rfl)
theorem k_200_84 : lk 200 84 = some (.aload_n 0, 85, 0, 0, .null) := by decide +kernel
theorem x_200_84 : Tr sc d 200 (84, [some (.ref xk), l1, l2, l3, l4, l5, l6, l7, l8, l9, l10, l11, l12, l13, l14, l15, l16, l17, l18, l19, l20, l21, l22, l23, l24, l25, l26], [], h) Q = Tr sc d 200 (85, [some (.ref xk), l1, l2, l3, l4, l5, l6, l7, l8, l9, l10, l11, l12, l13, l14, l15, l16, l17, l18, l19, l20, l21, l22, l23, l24, l25, l26], [.ref xk], h) Q := t_aload_n k_200_84 rfl
theorem k_200_85 : lk 200 85 = some (.getfield 238, 88, 10, 26, .int 0) := by decide +kernel
theorem x_200_85 : Tr sc d 200 (85, [l0, l1, l2, l3, l4, l5, l6, l7, l8, l9, l10, l11, l12, l13, l14, l15, l16, l17, l18, l19, l20, l21, l22, l23, l24, l25, l26], [.ref k0], h) Q = (okp h k0 10 = true ∧ Tr sc d 200 (88, [l0, l1, l2, l3, l4, l5, l6, l7, l8, l9, l10, l11, l12, l13, l14, l15, l16, l17, l18, l19, l20, l21, l22, l23, l24, l25, l26], [.int (hI h k0 26)], h) Q) := t_gd k_200_85 rfl
theorem k_200_88 : lk 200 88 = some (.ineg, 89, 0, 0, .null) := by decide +kernel
theorem x_200_88 : Tr sc d 200 (88, [l0, l1, l2, l3, l4, l5, l6, l7, l8, l9, l10, l11, l12, l13, l14, l15, l16, l17, l18, l19, l20, l21, l22, l23, l24, l25, l26], [.int i0], h) Q = Tr sc d 200 (89, [l0, l1, l2, l3, l4, l5, l6, l7, l8, l9, l10, l11, l12, l13, l14, l15, l16, l17, l18, l19, l20, l21, l22, l23, l24, l25, l26], [.int (-i0)], h) Q := t_go k_200_88 rfl
theorem k_200_89 : lk 200 89 = some (.i2l, 90, 0, 0, .null) := by decide +kernel
theorem x_200_89 : Tr sc d 200 (89, [l0, l1, l2, l3, l4, l5, l6, l7, l8, l9, l10, l11, l12, l13, l14, l15, l16, l17, l18, l19, l20, l21, l22, l23, l24, l25, l26], [.int i0], h) Q = Tr sc d 200 (90, [l0, l1, l2, l3, l4, l5, l6, l7, l8, l9, l10, l11, l12, l13, l14, l15, l16, l17, l18, l19, l20, l21, l22, l23, l24, l25, l26], [.long i0.toInt64], h) Q := t_go k_200_89 rfl
theorem k_200_90 : lk 200 90 = some (.lstore 13, 92, 13, 0, .null) := by decide +kernel
theorem x_200_90 : Tr sc d 200 (90, [l0, l1, l2, l3, l4, l5, l6, l7, l8, l9, l10, l11, l12, l13, l14, l15, l16, l17, l18, l19, l20, l21, l22, l23, l24, l25, l26], [.long j0], h) Q = Tr sc d 200 (92, [l0, l1, l2, l3, l4, l5, l6, l7, l8, l9, l10, l11, cl2 l12, some (.long j0), none, l15, l16, l17, l18, l19, l20, l21, l22, l23, l24, l25, l26], [], h) Q := t_lstore k_200_90 (Nat.le_of_ble_eq_true rfl)
theorem k_200_92 : lk 200 92 = some (.lload 7, 94, 7, 0, .null) := by decide +kernel
theorem x_200_92 : Tr sc d 200 (92, [l0, l1, l2, l3, l4, l5, l6, some (.long xl), l8, l9, l10, l11, l12, l13, l14, l15, l16, l17, l18, l19, l20, l21, l22, l23, l24, l25, l26], [], h) Q = Tr sc d 200 (94, [l0, l1, l2, l3, l4, l5, l6, some (.long xl), l8, l9, l10, l11, l12, l13, l14, l15, l16, l17, l18, l19, l20, l21, l22, l23, l24, l25, l26], [.long xl], h) Q := t_lload k_200_92 rfl
theorem k_200_94 : lk 200 94 = some (.aload_n 0, 95, 0, 0, .null) := by decide +kernel
theorem x_200_94 : Tr sc d 200 (94, [some (.ref xk), l1, l2, l3, l4, l5, l6, l7, l8, l9, l10, l11, l12, l13, l14, l15, l16, l17, l18, l19, l20, l21, l22, l23, l24, l25, l26], [.long j0], h) Q = Tr sc d 200 (95, [some (.ref xk), l1, l2, l3, l4, l5, l6, l7, l8, l9, l10, l11, l12, l13, l14, l15, l16, l17, l18, l19, l20, l21, l22, l23, l24, l25, l26], [.ref xk, .long j0], h) Q := t_aload_n k_200_94 rfl
theorem k_200_95 : lk 200 95 = some (.getfield 244, 98, 10, 28, .int 0) := by decide +kernel
theorem x_200_95 : Tr sc d 200 (95, [l0, l1, l2, l3, l4, l5, l6, l7, l8, l9, l10, l11, l12, l13, l14, l15, l16, l17, l18, l19, l20, l21, l22, l23, l24, l25, l26], [.ref k1, .long j0], h) Q = (okp h k1 10 = true ∧ Tr sc d 200 (98, [l0, l1, l2, l3, l4, l5, l6, l7, l8, l9, l10, l11, l12, l13, l14, l15, l16, l17, l18, l19, l20, l21, l22, l23, l24, l25, l26], [.int (hI h k1 28), .long j0], h) Q) := t_gd k_200_95 rfl
theorem k_200_98 : lk 200 98 = some (.i2l, 99, 0, 0, .null) := by decide +kernel
theorem x_200_98 : Tr sc d 200 (98, [l0, l1, l2, l3, l4, l5, l6, l7, l8, l9, l10, l11, l12, l13, l14, l15, l16, l17, l18, l19, l20, l21, l22, l23, l24, l25, l26], [.int i1, .long j0], h) Q = Tr sc d 200 (99, [l0, l1, l2, l3, l4, l5, l6, l7, l8, l9, l10, l11, l12, l13, l14, l15, l16, l17, l18, l19, l20, l21, l22, l23, l24, l25, l26], [.long i1.toInt64, .long j0], h) Q := t_go k_200_98 rfl
theorem k_200_99 : lk 200 99 = some (.lsub, 100, 0, 0, .null) := by decide +kernel
theorem x_200_99 : Tr sc d 200 (99, [l0, l1, l2, l3, l4, l5, l6, l7, l8, l9, l10, l11, l12, l13, l14, l15, l16, l17, l18, l19, l20, l21, l22, l23, l24, l25, l26], [.long j1, .long j0], h) Q = Tr sc d 200 (100, [l0, l1, l2, l3, l4, l5, l6, l7, l8, l9, l10, l11, l12, l13, l14, l15, l16, l17, l18, l19, l20, l21, l22, l23, l24, l25, l26], [.long (j0 - j1)], h) Q := t_go k_200_99 rfl
theorem k_200_100 : lk 200 100 = some (.lstore 15, 102, 15, 0, .null) := by decide +kernel
theorem x_200_100 : Tr sc d 200 (100, [l0, l1, l2, l3, l4, l5, l6, l7, l8, l9, l10, l11, l12, l13, l14, l15, l16, l17, l18, l19, l20, l21, l22, l23, l24, l25, l26], [.long j0], h) Q = Tr sc d 200 (102, [l0, l1, l2, l3, l4, l5, l6, l7, l8, l9, l10, l11, l12, l13, cl2 l14, some (.long j0), none, l17, l18, l19, l20, l21, l22, l23, l24, l25, l26], [], h) Q := t_lstore k_200_100 (Nat.le_of_ble_eq_true rfl)
theorem k_200_102 : lk 200 102 = some (.lload 9, 104, 9, 0, .null) := by decide +kernel
theorem x_200_102 : Tr sc d 200 (102, [l0, l1, l2, l3, l4, l5, l6, l7, l8, some (.long xl), l10, l11, l12, l13, l14, l15, l16, l17, l18, l19, l20, l21, l22, l23, l24, l25, l26], [], h) Q = Tr sc d 200 (104, [l0, l1, l2, l3, l4, l5, l6, l7, l8, some (.long xl), l10, l11, l12, l13, l14, l15, l16, l17, l18, l19, l20, l21, l22, l23, l24, l25, l26], [.long xl], h) Q := t_lload k_200_102 rfl
theorem k_200_104 : lk 200 104 = some (.lload 15, 106, 15, 0, .null) := by decide +kernel
theorem x_200_104 : Tr sc d 200 (104, [l0, l1, l2, l3, l4, l5, l6, l7, l8, l9, l10, l11, l12, l13, l14, some (.long xl), l16, l17, l18, l19, l20, l21, l22, l23, l24, l25, l26], [.long j0], h) Q = Tr sc d 200 (106, [l0, l1, l2, l3, l4, l5, l6, l7, l8, l9, l10, l11, l12, l13, l14, some (.long xl), l16, l17, l18, l19, l20, l21, l22, l23, l24, l25, l26], [.long xl, .long j0], h) Q := t_lload k_200_104 rfl
theorem k_200_106 : lk 200 106 = some (.lmul, 107, 0, 0, .null) := by decide +kernel
theorem x_200_106 : Tr sc d 200 (106, [l0, l1, l2, l3, l4, l5, l6, l7, l8, l9, l10, l11, l12, l13, l14, l15, l16, l17, l18, l19, l20, l21, l22, l23, l24, l25, l26], [.long j1, .long j0], h) Q = Tr sc d 200 (107, [l0, l1, l2, l3, l4, l5, l6, l7, l8, l9, l10, l11, l12, l13, l14, l15, l16, l17, l18, l19, l20, l21, l22, l23, l24, l25, l26], [.long (j0 * j1)], h) Q := t_go k_200_106 rfl
theorem k_200_107 : lk 200 107 = some (.lload 11, 109, 11, 0, .null) := by decide +kernel
theorem x_200_107 : Tr sc d 200 (107, [l0, l1, l2, l3, l4, l5, l6, l7, l8, l9, l10, some (.long xl), l12, l13, l14, l15, l16, l17, l18, l19, l20, l21, l22, l23, l24, l25, l26], [.long j0], h) Q = Tr sc d 200 (109, [l0, l1, l2, l3, l4, l5, l6, l7, l8, l9, l10, some (.long xl), l12, l13, l14, l15, l16, l17, l18, l19, l20, l21, l22, l23, l24, l25, l26], [.long xl, .long j0], h) Q := t_lload k_200_107 rfl
theorem k_200_109 : lk 200 109 = some (.lload 13, 111, 13, 0, .null) := by decide +kernel
theorem x_200_109 : Tr sc d 200 (109, [l0, l1, l2, l3, l4, l5, l6, l7, l8, l9, l10, l11, l12, some (.long xl), l14, l15, l16, l17, l18, l19, l20, l21, l22, l23, l24, l25, l26], [.long j1, .long j0], h) Q = Tr sc d 200 (111, [l0, l1, l2, l3, l4, l5, l6, l7, l8, l9, l10, l11, l12, some (.long xl), l14, l15, l16, l17, l18, l19, l20, l21, l22, l23, l24, l25, l26], [.long xl, .long j1, .long j0], h) Q := t_lload k_200_109 rfl
theorem k_200_111 : lk 200 111 = some (.lmul, 112, 0, 0, .null) := by decide +kernel
theorem x_200_111 : Tr sc d 200 (111, [l0, l1, l2, l3, l4, l5, l6, l7, l8, l9, l10, l11, l12, l13, l14, l15, l16, l17, l18, l19, l20, l21, l22, l23, l24, l25, l26], [.long j2, .long j1, .long j0], h) Q = Tr sc d 200 (112, [l0, l1, l2, l3, l4, l5, l6, l7, l8, l9, l10, l11, l12, l13, l14, l15, l16, l17, l18, l19, l20, l21, l22, l23, l24, l25, l26], [.long (j1 * j2), .long j0], h) Q := t_go k_200_111 rfl
theorem k_200_112 : lk 200 112 = some (.lsub, 113, 0, 0, .null) := by decide +kernel
theorem x_200_112 : Tr sc d 200 (112, [l0, l1, l2, l3, l4, l5, l6, l7, l8, l9, l10, l11, l12, l13, l14, l15, l16, l17, l18, l19, l20, l21, l22, l23, l24, l25, l26], [.long j1, .long j0], h) Q = Tr sc d 200 (113, [l0, l1, l2, l3, l4, l5, l6, l7, l8, l9, l10, l11, l12, l13, l14, l15, l16, l17, l18, l19, l20, l21, l22, l23, l24, l25, l26], [.long (j0 - j1)], h) Q := t_go k_200_112 rfl
theorem k_200_113 : lk 200 113 = some (.lstore 17, 115, 17, 0, .null) := by decide +kernel
theorem x_200_113 : Tr sc d 200 (113, [l0, l1, l2, l3, l4, l5, l6, l7, l8, l9, l10, l11, l12, l13, l14, l15, l16, l17, l18, l19, l20, l21, l22, l23, l24, l25, l26], [.long j0], h) Q = Tr sc d 200 (115, [l0, l1, l2, l3, l4, l5, l6, l7, l8, l9, l10, l11, l12, l13, l14, l15, cl2 l16, some (.long j0), none, l19, l20, l21, l22, l23, l24, l25, l26], [], h) Q := t_lstore k_200_113 (Nat.le_of_ble_eq_true rfl)
theorem k_200_115 : lk 200 115 = some (.lload 15, 117, 15, 0, .null) := by decide +kernel
theorem x_200_115 : Tr sc d 200 (115, [l0, l1, l2, l3, l4, l5, l6, l7, l8, l9, l10, l11, l12, l13, l14, some (.long xl), l16, l17, l18, l19, l20, l21, l22, l23, l24, l25, l26], [], h) Q = Tr sc d 200 (117, [l0, l1, l2, l3, l4, l5, l6, l7, l8, l9, l10, l11, l12, l13, l14, some (.long xl), l16, l17, l18, l19, l20, l21, l22, l23, l24, l25, l26], [.long xl], h) Q := t_lload k_200_115 rfl
theorem k_200_117 : lk 200 117 = some (.aload_n 0, 118, 0, 0, .null) := by decide +kernel
theorem x_200_117 : Tr sc d 200 (117, [some (.ref xk), l1, l2, l3, l4, l5, l6, l7, l8, l9, l10, l11, l12, l13, l14, l15, l16, l17, l18, l19, l20, l21, l22, l23, l24, l25, l26], [.long j0], h) Q = Tr sc d 200 (118, [some (.ref xk), l1, l2, l3, l4, l5, l6, l7, l8, l9, l10, l11, l12, l13, l14, l15, l16, l17, l18, l19, l20, l21, l22, l23, l24, l25, l26], [.ref xk, .long j0], h) Q := t_aload_n k_200_117 rfl
theorem k_200_118 : lk 200 118 = some (.getfield 229, 121, 10, 23, .int 0) := by decide +kernel
theorem x_200_118 : Tr sc d 200 (118, [l0, l1, l2, l3, l4, l5, l6, l7, l8, l9, l10, l11, l12, l13, l14, l15, l16, l17, l18, l19, l20, l21, l22, l23, l24, l25, l26], [.ref k1, .long j0], h) Q = (okp h k1 10 = true ∧ Tr sc d 200 (121, [l0, l1, l2, l3, l4, l5, l6, l7, l8, l9, l10, l11, l12, l13, l14, l15, l16, l17, l18, l19, l20, l21, l22, l23, l24, l25, l26], [.int (hI h k1 23), .long j0], h) Q) := t_gd k_200_118 rfl
theorem k_200_121 : lk 200 121 = some (.i2l, 122, 0, 0, .null) := by decide +kernel
theorem x_200_121 : Tr sc d 200 (121, [l0, l1, l2, l3, l4, l5, l6, l7, l8, l9, l10, l11, l12, l13, l14, l15, l16, l17, l18, l19, l20, l21, l22, l23, l24, l25, l26], [.int i1, .long j0], h) Q = Tr sc d 200 (122, [l0, l1, l2, l3, l4, l5, l6, l7, l8, l9, l10, l11, l12, l13, l14, l15, l16, l17, l18, l19, l20, l21, l22, l23, l24, l25, l26], [.long i1.toInt64, .long j0], h) Q := t_go k_200_121 rfl
theorem k_200_122 : lk 200 122 = some (.lmul, 123, 0, 0, .null) := by decide +kernel
theorem x_200_122 : Tr sc d 200 (122, [l0, l1, l2, l3, l4, l5, l6, l7, l8, l9, l10, l11, l12, l13, l14, l15, l16, l17, l18, l19, l20, l21, l22, l23, l24, l25, l26], [.long j1, .long j0], h) Q = Tr sc d 200 (123, [l0, l1, l2, l3, l4, l5, l6, l7, l8, l9, l10, l11, l12, l13, l14, l15, l16, l17, l18, l19, l20, l21, l22, l23, l24, l25, l26], [.long (j0 * j1)], h) Q := t_go k_200_122 rfl
theorem k_200_123 : lk 200 123 = some (.lload 11, 125, 11, 0, .null) := by decide +kernel
theorem x_200_123 : Tr sc d 200 (123, [l0, l1, l2, l3, l4, l5, l6, l7, l8, l9, l10, some (.long xl), l12, l13, l14, l15, l16, l17, l18, l19, l20, l21, l22, l23, l24, l25, l26], [.long j0], h) Q = Tr sc d 200 (125, [l0, l1, l2, l3, l4, l5, l6, l7, l8, l9, l10, some (.long xl), l12, l13, l14, l15, l16, l17, l18, l19, l20, l21, l22, l23, l24, l25, l26], [.long xl, .long j0], h) Q := t_lload k_200_123 rfl
theorem k_200_125 : lk 200 125 = some (.aload_n 0, 126, 0, 0, .null) := by decide +kernel
theorem x_200_125 : Tr sc d 200 (125, [some (.ref xk), l1, l2, l3, l4, l5, l6, l7, l8, l9, l10, l11, l12, l13, l14, l15, l16, l17, l18, l19, l20, l21, l22, l23, l24, l25, l26], [.long j1, .long j0], h) Q = Tr sc d 200 (126, [some (.ref xk), l1, l2, l3, l4, l5, l6, l7, l8, l9, l10, l11, l12, l13, l14, l15, l16, l17, l18, l19, l20, l21, l22, l23, l24, l25, l26], [.ref xk, .long j1, .long j0], h) Q := t_aload_n k_200_125 rfl
theorem k_200_126 : lk 200 126 = some (.getfield 232, 129, 10, 24, .int 0) := by decide +kernel
theorem x_200_126 : Tr sc d 200 (126, [l0, l1, l2, l3, l4, l5, l6, l7, l8, l9, l10, l11, l12, l13, l14, l15, l16, l17, l18, l19, l20, l21, l22, l23, l24, l25, l26], [.ref k2, .long j1, .long j0], h) Q = (okp h k2 10 = true ∧ Tr sc d 200 (129, [l0, l1, l2, l3, l4, l5, l6, l7, l8, l9, l10, l11, l12, l13, l14, l15, l16, l17, l18, l19, l20, l21, l22, l23, l24, l25, l26], [.int (hI h k2 24), .long j1, .long j0], h) Q) := t_gd k_200_126 rfl
theorem k_200_129 : lk 200 129 = some (.i2l, 130, 0, 0, .null) := by decide +kernel
theorem x_200_129 : Tr sc d 200 (129, [l0, l1, l2, l3, l4, l5, l6, l7, l8, l9, l10, l11, l12, l13, l14, l15, l16, l17, l18, l19, l20, l21, l22, l23, l24, l25, l26], [.int i2, .long j1, .long j0], h) Q = Tr sc d 200 (130, [l0, l1, l2, l3, l4, l5, l6, l7, l8, l9, l10, l11, l12, l13, l14, l15, l16, l17, l18, l19, l20, l21, l22, l23, l24, l25, l26], [.long i2.toInt64, .long j1, .long j0], h) Q := t_go k_200_129 rfl
theorem k_200_130 : lk 200 130 = some (.lmul, 131, 0, 0, .null) := by decide +kernel
theorem x_200_130 : Tr sc d 200 (130, [l0, l1, l2, l3, l4, l5, l6, l7, l8, l9, l10, l11, l12, l13, l14, l15, l16, l17, l18, l19, l20, l21, l22, l23, l24, l25, l26], [.long j2, .long j1, .long j0], h) Q = Tr sc d 200 (131, [l0, l1, l2, l3, l4, l5, l6, l7, l8, l9, l10, l11, l12, l13, l14, l15, l16, l17, l18, l19, l20, l21, l22, l23, l24, l25, l26], [.long (j1 * j2), .long j0], h) Q := t_go k_200_130 rfl
theorem k_200_131 : lk 200 131 = some (.lsub, 132, 0, 0, .null) := by decide +kernel
theorem x_200_131 : Tr sc d 200 (131, [l0, l1, l2, l3, l4, l5, l6, l7, l8, l9, l10, l11, l12, l13, l14, l15, l16, l17, l18, l19, l20, l21, l22, l23, l24, l25, l26], [.long j1, .long j0], h) Q = Tr sc d 200 (132, [l0, l1, l2, l3, l4, l5, l6, l7, l8, l9, l10, l11, l12, l13, l14, l15, l16, l17, l18, l19, l20, l21, l22, l23, l24, l25, l26], [.long (j0 - j1)], h) Q := t_go k_200_131 rfl
theorem k_200_132 : lk 200 132 = some (.lstore 19, 134, 19, 0, .null) := by decide +kernel
theorem x_200_132 : Tr sc d 200 (132, [l0, l1, l2, l3, l4, l5, l6, l7, l8, l9, l10, l11, l12, l13, l14, l15, l16, l17, l18, l19, l20, l21, l22, l23, l24, l25, l26], [.long j0], h) Q = Tr sc d 200 (134, [l0, l1, l2, l3, l4, l5, l6, l7, l8, l9, l10, l11, l12, l13, l14, l15, l16, l17, cl2 l18, some (.long j0), none, l21, l22, l23, l24, l25, l26], [], h) Q := t_lstore k_200_132 (Nat.le_of_ble_eq_true rfl)
theorem k_200_134 : lk 200 134 = some (.lload 9, 136, 9, 0, .null) := by decide +kernel
theorem x_200_134 : Tr sc d 200 (134, [l0, l1, l2, l3, l4, l5, l6, l7, l8, some (.long xl), l10, l11, l12, l13, l14, l15, l16, l17, l18, l19, l20, l21, l22, l23, l24, l25, l26], [], h) Q = Tr sc d 200 (136, [l0, l1, l2, l3, l4, l5, l6, l7, l8, some (.long xl), l10, l11, l12, l13, l14, l15, l16, l17, l18, l19, l20, l21, l22, l23, l24, l25, l26], [.long xl], h) Q := t_lload k_200_134 rfl
theorem k_200_136 : lk 200 136 = some (.aload_n 0, 137, 0, 0, .null) := by decide +kernel
theorem x_200_136 : Tr sc d 200 (136, [some (.ref xk), l1, l2, l3, l4, l5, l6, l7, l8, l9, l10, l11, l12, l13, l14, l15, l16, l17, l18, l19, l20, l21, l22, l23, l24, l25, l26], [.long j0], h) Q = Tr sc d 200 (137, [some (.ref xk), l1, l2, l3, l4, l5, l6, l7, l8, l9, l10, l11, l12, l13, l14, l15, l16, l17, l18, l19, l20, l21, l22, l23, l24, l25, l26], [.ref xk, .long j0], h) Q := t_aload_n k_200_136 rfl
theorem k_200_137 : lk 200 137 = some (.getfield 232, 140, 10, 24, .int 0) := by decide +kernel
theorem x_200_137 : Tr sc d 200 (137, [l0, l1, l2, l3, l4, l5, l6, l7, l8, l9, l10, l11, l12, l13, l14, l15, l16, l17, l18, l19, l20, l21, l22, l23, l24, l25, l26], [.ref k1, .long j0], h) Q = (okp h k1 10 = true ∧ Tr sc d 200 (140, [l0, l1, l2, l3, l4, l5, l6, l7, l8, l9, l10, l11, l12, l13, l14, l15, l16, l17, l18, l19, l20, l21, l22, l23, l24, l25, l26], [.int (hI h k1 24), .long j0], h) Q) := t_gd k_200_137 rfl
theorem k_200_140 : lk 200 140 = some (.i2l, 141, 0, 0, .null) := by decide +kernel
theorem x_200_140 : Tr sc d 200 (140, [l0, l1, l2, l3, l4, l5, l6, l7, l8, l9, l10, l11, l12, l13, l14, l15, l16, l17, l18, l19, l20, l21, l22, l23, l24, l25, l26], [.int i1, .long j0], h) Q = Tr sc d 200 (141, [l0, l1, l2, l3, l4, l5, l6, l7, l8, l9, l10, l11, l12, l13, l14, l15, l16, l17, l18, l19, l20, l21, l22, l23, l24, l25, l26], [.long i1.toInt64, .long j0], h) Q := t_go k_200_140 rfl
theorem k_200_141 : lk 200 141 = some (.lmul, 142, 0, 0, .null) := by decide +kernel
theorem x_200_141 : Tr sc d 200 (141, [l0, l1, l2, l3, l4, l5, l6, l7, l8, l9, l10, l11, l12, l13, l14, l15, l16, l17, l18, l19, l20, l21, l22, l23, l24, l25, l26], [.long j1, .long j0], h) Q = Tr sc d 200 (142, [l0, l1, l2, l3, l4, l5, l6, l7, l8, l9, l10, l11, l12, l13, l14, l15, l16, l17, l18, l19, l20, l21, l22, l23, l24, l25, l26], [.long (j0 * j1)], h) Q := t_go k_200_141 rfl
theorem k_200_142 : lk 200 142 = some (.lload 13, 144, 13, 0, .null) := by decide +kernel
theorem x_200_142 : Tr sc d 200 (142, [l0, l1, l2, l3, l4, l5, l6, l7, l8, l9, l10, l11, l12, some (.long xl), l14, l15, l16, l17, l18, l19, l20, l21, l22, l23, l24, l25, l26], [.long j0], h) Q = Tr sc d 200 (144, [l0, l1, l2, l3, l4, l5, l6, l7, l8, l9, l10, l11, l12, some (.long xl), l14, l15, l16, l17, l18, l19, l20, l21, l22, l23, l24, l25, l26], [.long xl, .long j0], h) Q := t_lload k_200_142 rfl
theorem k_200_144 : lk 200 144 = some (.aload_n 0, 145, 0, 0, .null) := by decide +kernel
theorem x_200_144 : Tr sc d 200 (144, [some (.ref xk), l1, l2, l3, l4, l5, l6, l7, l8, l9, l10, l11, l12, l13, l14, l15, l16, l17, l18, l19, l20, l21, l22, l23, l24, l25, l26], [.long j1, .long j0], h) Q = Tr sc d 200 (145, [some (.ref xk), l1, l2, l3, l4, l5, l6, l7, l8, l9, l10, l11, l12, l13, l14, l15, l16, l17, l18, l19, l20, l21, l22, l23, l24, l25, l26], [.ref xk, .long j1, .long j0], h) Q := t_aload_n k_200_144 rfl
theorem k_200_145 : lk 200 145 = some (.getfield 229, 148, 10, 23, .int 0) := by decide +kernel
theorem x_200_145 : Tr sc d 200 (145, [l0, l1, l2, l3, l4, l5, l6, l7, l8, l9, l10, l11, l12, l13, l14, l15, l16, l17, l18, l19, l20, l21, l22, l23, l24, l25, l26], [.ref k2, .long j1, .long j0], h) Q = (okp h k2 10 = true ∧ Tr sc d 200 (148, [l0, l1, l2, l3, l4, l5, l6, l7, l8, l9, l10, l11, l12, l13, l14, l15, l16, l17, l18, l19, l20, l21, l22, l23, l24, l25, l26], [.int (hI h k2 23), .long j1, .long j0], h) Q) := t_gd k_200_145 rfl
theorem k_200_148 : lk 200 148 = some (.i2l, 149, 0, 0, .null) := by decide +kernel
theorem x_200_148 : Tr sc d 200 (148, [l0, l1, l2, l3, l4, l5, l6, l7, l8, l9, l10, l11, l12, l13, l14, l15, l16, l17, l18, l19, l20, l21, l22, l23, l24, l25, l26], [.int i2, .long j1, .long j0], h) Q = Tr sc d 200 (149, [l0, l1, l2, l3, l4, l5, l6, l7, l8, l9, l10, l11, l12, l13, l14, l15, l16, l17, l18, l19, l20, l21, l22, l23, l24, l25, l26], [.long i2.toInt64, .long j1, .long j0], h) Q := t_go k_200_148 rfl
theorem k_200_149 : lk 200 149 = some (.lmul, 150, 0, 0, .null) := by decide +kernel
theorem x_200_149 : Tr sc d 200 (149, [l0, l1, l2, l3, l4, l5, l6, l7, l8, l9, l10, l11, l12, l13, l14, l15, l16, l17, l18, l19, l20, l21, l22, l23, l24, l25, l26], [.long j2, .long j1, .long j0], h) Q = Tr sc d 200 (150, [l0, l1, l2, l3, l4, l5, l6, l7, l8, l9, l10, l11, l12, l13, l14, l15, l16, l17, l18, l19, l20, l21, l22, l23, l24, l25, l26], [.long (j1 * j2), .long j0], h) Q := t_go k_200_149 rfl
theorem k_200_150 : lk 200 150 = some (.lsub, 151, 0, 0, .null) := by decide +kernel
theorem x_200_150 : Tr sc d 200 (150, [l0, l1, l2, l3, l4, l5, l6, l7, l8, l9, l10, l11, l12, l13, l14, l15, l16, l17, l18, l19, l20, l21, l22, l23, l24, l25, l26], [.long j1, .long j0], h) Q = Tr sc d 200 (151, [l0, l1, l2, l3, l4, l5, l6, l7, l8, l9, l10, l11, l12, l13, l14, l15, l16, l17, l18, l19, l20, l21, l22, l23, l24, l25, l26], [.long (j0 - j1)], h) Q := t_go k_200_150 rfl
theorem k_200_151 : lk 200 151 = some (.lstore 21, 153, 21, 0, .null) := by decide +kernel
theorem x_200_151 : Tr sc d 200 (151, [l0, l1, l2, l3, l4, l5, l6, l7, l8, l9, l10, l11, l12, l13, l14, l15, l16, l17, l18, l19, l20, l21, l22, l23, l24, l25, l26], [.long j0], h) Q = Tr sc d 200 (153, [l0, l1, l2, l3, l4, l5, l6, l7, l8, l9, l10, l11, l12, l13, l14, l15, l16, l17, l18, l19, cl2 l20, some (.long j0), none, l23, l24, l25, l26], [], h) Q := t_lstore k_200_151 (Nat.le_of_ble_eq_true rfl)
theorem k_200_153 : lk 200 153 = some (.aload_n 0, 154, 0, 0, .null) := by decide +kernel
theorem x_200_153 : Tr sc d 200 (153, [some (.ref xk), l1, l2, l3, l4, l5, l6, l7, l8, l9, l10, l11, l12, l13, l14, l15, l16, l17, l18, l19, l20, l21, l22, l23, l24, l25, l26], [], h) Q = Tr sc d 200 (154, [some (.ref xk), l1, l2, l3, l4, l5, l6, l7, l8, l9, l10, l11, l12, l13, l14, l15, l16, l17, l18, l19, l20, l21, l22, l23, l24, l25, l26], [.ref xk], h) Q := t_aload_n k_200_153 rfl
theorem k_200_154 : lk 200 154 = some (.iload_n 1, 155, 1, 0, .null) := by decide +kernel
theorem x_200_154 : Tr sc d 200 (154, [l0, some (.int x), l2, l3, l4, l5, l6, l7, l8, l9, l10, l11, l12, l13, l14, l15, l16, l17, l18, l19, l20, l21, l22, l23, l24, l25, l26], [.ref k0], h) Q = Tr sc d 200 (155, [l0, some (.int x), l2, l3, l4, l5, l6, l7, l8, l9, l10, l11, l12, l13, l14, l15, l16, l17, l18, l19, l20, l21, l22, l23, l24, l25, l26], [.int x, .ref k0], h) Q := t_iload_n k_200_154 rfl
theorem k_200_155 : lk 200 155 = some (.iload_n 2, 156, 2, 0, .null) := by decide +kernel
theorem x_200_155 : Tr sc d 200 (155, [l0, l1, some (.int x), l3, l4, l5, l6, l7, l8, l9, l10, l11, l12, l13, l14, l15, l16, l17, l18, l19, l20, l21, l22, l23, l24, l25, l26], [.int i1, .ref k0], h) Q = Tr sc d 200 (156, [l0, l1, some (.int x), l3, l4, l5, l6, l7, l8, l9, l10, l11, l12, l13, l14, l15, l16, l17, l18, l19, l20, l21, l22, l23, l24, l25, l26], [.int x, .int i1, .ref k0], h) Q := t_iload_n k_200_155 rfl
theorem k_200_156 : lk 200 156 = some (.iconst 0, 157, 0, 0, .int 0) := by decide +kernel
theorem x_200_156 : Tr sc d 200 (156, [l0, l1, l2, l3, l4, l5, l6, l7, l8, l9, l10, l11, l12, l13, l14, l15, l16, l17, l18, l19, l20, l21, l22, l23, l24, l25, l26], [.int i2, .int i1, .ref k0], h) Q = Tr sc d 200 (157, [l0, l1, l2, l3, l4, l5, l6, l7, l8, l9, l10, l11, l12, l13, l14, l15, l16, l17, l18, l19, l20, l21, l22, l23, l24, l25, l26], [.int 0, .int i2, .int i1, .ref k0], h) Q := t_go k_200_156 rfl
theorem k_200_157 : lk 200 157 = some (.iload_n 3, 158, 3, 0, .null) := by decide +kernel
theorem x_200_157 : Tr sc d 200 (157, [l0, l1, l2, some (.int x), l4, l5, l6, l7, l8, l9, l10, l11, l12, l13, l14, l15, l16, l17, l18, l19, l20, l21, l22, l23, l24, l25, l26], [.int i3, .int i2, .int i1, .ref k0], h) Q = Tr sc d 200 (158, [l0, l1, l2, some (.int x), l4, l5, l6, l7, l8, l9, l10, l11, l12, l13, l14, l15, l16, l17, l18, l19, l20, l21, l22, l23, l24, l25, l26], [.int x, .int i3, .int i2, .int i1, .ref k0], h) Q := t_iload_n k_200_157 rfl
theorem k_200_158 : lk 200 158 = some (.invokevirtual 260, 161, 197, 4, .null) := by decide +kernel
theorem x_200_158 : Tr sc (d + 1) 200 (158, [l0, l1, l2, l3, l4, l5, l6, l7, l8, l9, l10, l11, l12, l13, l14, l15, l16, l17, l18, l19, l20, l21, l22, l23, l24, l25, l26], [.int i4, .int i3, .int i2, .int i1, .ref k0], h) Q = (okp h k0 10 = true ∧ Tr sc d 197 (ent0 197 [.ref k0, .int i1, .int i2, .int i3, .int i4] h) (fun z => Tr sc (d + 1) 200 (161, [l0, l1, l2, l3, l4, l5, l6, l7, l8, l9, l10, l11, l12, l13, l14, l15, l16, l17, l18, l19, l20, l21, l22, l23, l24, l25, l26], z.1.toList ++ [], z.2) Q)) := t_cv (as := [.int i1, .int i2, .int i3, .int i4]) (r := []) k_200_158 rfl rfl (Nat.le_of_ble_eq_true rfl) (Nat.le_of_ble_eq_true rfl) (Nat.le_of_ble_eq_true rfl)
theorem k_200_161 : lk 200 161 = some (.aload_n 0, 162, 0, 0, .null) := by decide +kernel
theorem x_200_161 : Tr sc d 200 (161, [some (.ref xk), l1, l2, l3, l4, l5, l6, l7, l8, l9, l10, l11, l12, l13, l14, l15, l16, l17, l18, l19, l20, l21, l22, l23, l24, l25, l26], [], h) Q = Tr sc d 200 (162, [some (.ref xk), l1, l2, l3, l4, l5, l6, l7, l8, l9, l10, l11, l12, l13, l14, l15, l16, l17, l18, l19, l20, l21, l22, l23, l24, l25, l26], [.ref xk], h) Q := t_aload_n k_200_161 rfl
theorem k_200_162 : lk 200 162 = some (.getfield 235, 165, 10, 25, .int 0) := by decide +kernel
theorem x_200_162 : Tr sc d 200 (162, [l0, l1, l2, l3, l4, l5, l6, l7, l8, l9, l10, l11, l12, l13, l14, l15, l16, l17, l18, l19, l20, l21, l22, l23, l24, l25, l26], [.ref k0], h) Q = (okp h k0 10 = true ∧ Tr sc d 200 (165, [l0, l1, l2, l3, l4, l5, l6, l7, l8, l9, l10, l11, l12, l13, l14, l15, l16, l17, l18, l19, l20, l21, l22, l23, l24, l25, l26], [.int (hI h k0 25)], h) Q) := t_gd k_200_162 rfl
theorem k_200_165 : lk 200 165 = some (.i2l, 166, 0, 0, .null) := by decide +kernel
theorem x_200_165 : Tr sc d 200 (165, [l0, l1, l2, l3, l4, l5, l6, l7, l8, l9, l10, l11, l12, l13, l14, l15, l16, l17, l18, l19, l20, l21, l22, l23, l24, l25, l26], [.int i0], h) Q = Tr sc d 200 (166, [l0, l1, l2, l3, l4, l5, l6, l7, l8, l9, l10, l11, l12, l13, l14, l15, l16, l17, l18, l19, l20, l21, l22, l23, l24, l25, l26], [.long i0.toInt64], h) Q := t_go k_200_165 rfl
theorem k_200_166 : lk 200 166 = some (.lload 19, 168, 19, 0, .null) := by decide +kernel
theorem x_200_166 : Tr sc d 200 (166, [l0, l1, l2, l3, l4, l5, l6, l7, l8, l9, l10, l11, l12, l13, l14, l15, l16, l17, l18, some (.long xl), l20, l21, l22, l23, l24, l25, l26], [.long j0], h) Q = Tr sc d 200 (168, [l0, l1, l2, l3, l4, l5, l6, l7, l8, l9, l10, l11, l12, l13, l14, l15, l16, l17, l18, some (.long xl), l20, l21, l22, l23, l24, l25, l26], [.long xl, .long j0], h) Q := t_lload k_200_166 rfl
theorem k_200_168 : lk 200 168 = some (.lmul, 169, 0, 0, .null) := by decide +kernel
theorem x_200_168 : Tr sc d 200 (168, [l0, l1, l2, l3, l4, l5, l6, l7, l8, l9, l10, l11, l12, l13, l14, l15, l16, l17, l18, l19, l20, l21, l22, l23, l24, l25, l26], [.long j1, .long j0], h) Q = Tr sc d 200 (169, [l0, l1, l2, l3, l4, l5, l6, l7, l8, l9, l10, l11, l12, l13, l14, l15, l16, l17, l18, l19, l20, l21, l22, l23, l24, l25, l26], [.long (j0 * j1)], h) Q := t_go k_200_168 rfl
theorem k_200_169 : lk 200 169 = some (.aload_n 0, 170, 0, 0, .null) := by decide +kernel
theorem x_200_169 : Tr sc d 200 (169, [some (.ref xk), l1, l2, l3, l4, l5, l6, l7, l8, l9, l10, l11, l12, l13, l14, l15, l16, l17, l18, l19, l20, l21, l22, l23, l24, l25, l26], [.long j0], h) Q = Tr sc d 200 (170, [some (.ref xk), l1, l2, l3, l4, l5, l6, l7, l8, l9, l10, l11, l12, l13, l14, l15, l16, l17, l18, l19, l20, l21, l22, l23, l24, l25, l26], [.ref xk, .long j0], h) Q := t_aload_n k_200_169 rfl
theorem k_200_170 : lk 200 170 = some (.getfield 241, 173, 10, 27, .int 0) := by decide +kernel
theorem x_200_170 : Tr sc d 200 (170, [l0, l1, l2, l3, l4, l5, l6, l7, l8, l9, l10, l11, l12, l13, l14, l15, l16, l17, l18, l19, l20, l21, l22, l23, l24, l25, l26], [.ref k1, .long j0], h) Q = (okp h k1 10 = true ∧ Tr sc d 200 (173, [l0, l1, l2, l3, l4, l5, l6, l7, l8, l9, l10, l11, l12, l13, l14, l15, l16, l17, l18, l19, l20, l21, l22, l23, l24, l25, l26], [.int (hI h k1 27), .long j0], h) Q) := t_gd k_200_170 rfl
theorem k_200_173 : lk 200 173 = some (.i2l, 174, 0, 0, .null) := by decide +kernel
theorem x_200_173 : Tr sc d 200 (173, [l0, l1, l2, l3, l4, l5, l6, l7, l8, l9, l10, l11, l12, l13, l14, l15, l16, l17, l18, l19, l20, l21, l22, l23, l24, l25, l26], [.int i1, .long j0], h) Q = Tr sc d 200 (174, [l0, l1, l2, l3, l4, l5, l6, l7, l8, l9, l10, l11, l12, l13, l14, l15, l16, l17, l18, l19, l20, l21, l22, l23, l24, l25, l26], [.long i1.toInt64, .long j0], h) Q := t_go k_200_173 rfl
theorem k_200_174 : lk 200 174 = some (.lload 21, 176, 21, 0, .null) := by decide +kernel
theorem x_200_174 : Tr sc d 200 (174, [l0, l1, l2, l3, l4, l5, l6, l7, l8, l9, l10, l11, l12, l13, l14, l15, l16, l17, l18, l19, l20, some (.long xl), l22, l23, l24, l25, l26], [.long j1, .long j0], h) Q = Tr sc d 200 (176, [l0, l1, l2, l3, l4, l5, l6, l7, l8, l9, l10, l11, l12, l13, l14, l15, l16, l17, l18, l19, l20, some (.long xl), l22, l23, l24, l25, l26], [.long xl, .long j1, .long j0], h) Q := t_lload k_200_174 rfl
theorem k_200_176 : lk 200 176 = some (.lmul, 177, 0, 0, .null) := by decide +kernel
theorem x_200_176 : Tr sc d 200 (176, [l0, l1, l2, l3, l4, l5, l6, l7, l8, l9, l10, l11, l12, l13, l14, l15, l16, l17, l18, l19, l20, l21, l22, l23, l24, l25, l26], [.long j2, .long j1, .long j0], h) Q = Tr sc d 200 (177, [l0, l1, l2, l3, l4, l5, l6, l7, l8, l9, l10, l11, l12, l13, l14, l15, l16, l17, l18, l19, l20, l21, l22, l23, l24, l25, l26], [.long (j1 * j2), .long j0], h) Q := t_go k_200_176 rfl
theorem k_200_177 : lk 200 177 = some (.ladd, 178, 0, 0, .null) := by decide +kernel
theorem x_200_177 : Tr sc d 200 (177, [l0, l1, l2, l3, l4, l5, l6, l7, l8, l9, l10, l11, l12, l13, l14, l15, l16, l17, l18, l19, l20, l21, l22, l23, l24, l25, l26], [.long j1, .long j0], h) Q = Tr sc d 200 (178, [l0, l1, l2, l3, l4, l5, l6, l7, l8, l9, l10, l11, l12, l13, l14, l15, l16, l17, l18, l19, l20, l21, l22, l23, l24, l25, l26], [.long (j0 + j1)], h) Q := t_go k_200_177 rfl
theorem k_200_178 : lk 200 178 = some (.lload 17, 180, 17, 0, .null) := by decide +kernel
theorem x_200_178 : Tr sc d 200 (178, [l0, l1, l2, l3, l4, l5, l6, l7, l8, l9, l10, l11, l12, l13, l14, l15, l16, some (.long xl), l18, l19, l20, l21, l22, l23, l24, l25, l26], [.long j0], h) Q = Tr sc d 200 (180, [l0, l1, l2, l3, l4, l5, l6, l7, l8, l9, l10, l11, l12, l13, l14, l15, l16, some (.long xl), l18, l19, l20, l21, l22, l23, l24, l25, l26], [.long xl, .long j0], h) Q := t_lload k_200_178 rfl
theorem k_200_180 : lk 200 180 = some (.aload_n 0, 181, 0, 0, .null) := by decide +kernel
theorem x_200_180 : Tr sc d 200 (180, [some (.ref xk), l1, l2, l3, l4, l5, l6, l7, l8, l9, l10, l11, l12, l13, l14, l15, l16, l17, l18, l19, l20, l21, l22, l23, l24, l25, l26], [.long j1, .long j0], h) Q = Tr sc d 200 (181, [some (.ref xk), l1, l2, l3, l4, l5, l6, l7, l8, l9, l10, l11, l12, l13, l14, l15, l16, l17, l18, l19, l20, l21, l22, l23, l24, l25, l26], [.ref xk, .long j1, .long j0], h) Q := t_aload_n k_200_180 rfl
theorem k_200_181 : lk 200 181 = some (.getfield 229, 184, 10, 23, .int 0) := by decide +kernel
theorem x_200_181 : Tr sc d 200 (181, [l0, l1, l2, l3, l4, l5, l6, l7, l8, l9, l10, l11, l12, l13, l14, l15, l16, l17, l18, l19, l20, l21, l22, l23, l24, l25, l26], [.ref k2, .long j1, .long j0], h) Q = (okp h k2 10 = true ∧ Tr sc d 200 (184, [l0, l1, l2, l3, l4, l5, l6, l7, l8, l9, l10, l11, l12, l13, l14, l15, l16, l17, l18, l19, l20, l21, l22, l23, l24, l25, l26], [.int (hI h k2 23), .long j1, .long j0], h) Q) := t_gd k_200_181 rfl
theorem k_200_184 : lk 200 184 = some (.i2l, 185, 0, 0, .null) := by decide +kernel
theorem x_200_184 : Tr sc d 200 (184, [l0, l1, l2, l3, l4, l5, l6, l7, l8, l9, l10, l11, l12, l13, l14, l15, l16, l17, l18, l19, l20, l21, l22, l23, l24, l25, l26], [.int i2, .long j1, .long j0], h) Q = Tr sc d 200 (185, [l0, l1, l2, l3, l4, l5, l6, l7, l8, l9, l10, l11, l12, l13, l14, l15, l16, l17, l18, l19, l20, l21, l22, l23, l24, l25, l26], [.long i2.toInt64, .long j1, .long j0], h) Q := t_go k_200_184 rfl
theorem k_200_185 : lk 200 185 = some (.lmul, 186, 0, 0, .null) := by decide +kernel
theorem x_200_185 : Tr sc d 200 (185, [l0, l1, l2, l3, l4, l5, l6, l7, l8, l9, l10, l11, l12, l13, l14, l15, l16, l17, l18, l19, l20, l21, l22, l23, l24, l25, l26], [.long j2, .long j1, .long j0], h) Q = Tr sc d 200 (186, [l0, l1, l2, l3, l4, l5, l6, l7, l8, l9, l10, l11, l12, l13, l14, l15, l16, l17, l18, l19, l20, l21, l22, l23, l24, l25, l26], [.long (j1 * j2), .long j0], h) Q := t_go k_200_185 rfl
theorem k_200_186 : lk 200 186 = some (.ladd, 187, 0, 0, .null) := by decide +kernel
theorem x_200_186 : Tr sc d 200 (186, [l0, l1, l2, l3, l4, l5, l6, l7, l8, l9, l10, l11, l12, l13, l14, l15, l16, l17, l18, l19, l20, l21, l22, l23, l24, l25, l26], [.long j1, .long j0], h) Q = Tr sc d 200 (187, [l0, l1, l2, l3, l4, l5, l6, l7, l8, l9, l10, l11, l12, l13, l14, l15, l16, l17, l18, l19, l20, l21, l22, l23, l24, l25, l26], [.long (j0 + j1)], h) Q := t_go k_200_186 rfl
theorem k_200_187 : lk 200 187 = some (.lstore 23, 189, 23, 0, .null) := by decide +kernel
theorem x_200_187 : Tr sc d 200 (187, [l0, l1, l2, l3, l4, l5, l6, l7, l8, l9, l10, l11, l12, l13, l14, l15, l16, l17, l18, l19, l20, l21, l22, l23, l24, l25, l26], [.long j0], h) Q = Tr sc d 200 (189, [l0, l1, l2, l3, l4, l5, l6, l7, l8, l9, l10, l11, l12, l13, l14, l15, l16, l17, l18, l19, l20, l21, cl2 l22, some (.long j0), none, l25, l26], [], h) Q := t_lstore k_200_187 (Nat.le_of_ble_eq_true rfl)
theorem k_200_189 : lk 200 189 = some (.aload_n 0, 190, 0, 0, .null) := by decide +kernel
theorem x_200_189 : Tr sc d 200 (189, [some (.ref xk), l1, l2, l3, l4, l5, l6, l7, l8, l9, l10, l11, l12, l13, l14, l15, l16, l17, l18, l19, l20, l21, l22, l23, l24, l25, l26], [], h) Q = Tr sc d 200 (190, [some (.ref xk), l1, l2, l3, l4, l5, l6, l7, l8, l9, l10, l11, l12, l13, l14, l15, l16, l17, l18, l19, l20, l21, l22, l23, l24, l25, l26], [.ref xk], h) Q := t_aload_n k_200_189 rfl
theorem k_200_190 : lk 200 190 = some (.getfield 238, 193, 10, 26, .int 0) := by decide +kernel
theorem x_200_190 : Tr sc d 200 (190, [l0, l1, l2, l3, l4, l5, l6, l7, l8, l9, l10, l11, l12, l13, l14, l15, l16, l17, l18, l19, l20, l21, l22, l23, l24, l25, l26], [.ref k0], h) Q = (okp h k0 10 = true ∧ Tr sc d 200 (193, [l0, l1, l2, l3, l4, l5, l6, l7, l8, l9, l10, l11, l12, l13, l14, l15, l16, l17, l18, l19, l20, l21, l22, l23, l24, l25, l26], [.int (hI h k0 26)], h) Q) := t_gd k_200_190 rfl
theorem k_200_193 : lk 200 193 = some (.i2l, 194, 0, 0, .null) := by decide +kernel
theorem x_200_193 : Tr sc d 200 (193, [l0, l1, l2, l3, l4, l5, l6, l7, l8, l9, l10, l11, l12, l13, l14, l15, l16, l17, l18, l19, l20, l21, l22, l23, l24, l25, l26], [.int i0], h) Q = Tr sc d 200 (194, [l0, l1, l2, l3, l4, l5, l6, l7, l8, l9, l10, l11, l12, l13, l14, l15, l16, l17, l18, l19, l20, l21, l22, l23, l24, l25, l26], [.long i0.toInt64], h) Q := t_go k_200_193 rfl
theorem k_200_194 : lk 200 194 = some (.lload 19, 196, 19, 0, .null) := by decide +kernel
theorem x_200_194 : Tr sc d 200 (194, [l0, l1, l2, l3, l4, l5, l6, l7, l8, l9, l10, l11, l12, l13, l14, l15, l16, l17, l18, some (.long xl), l20, l21, l22, l23, l24, l25, l26], [.long j0], h) Q = Tr sc d 200 (196, [l0, l1, l2, l3, l4, l5, l6, l7, l8, l9, l10, l11, l12, l13, l14, l15, l16, l17, l18, some (.long xl), l20, l21, l22, l23, l24, l25, l26], [.long xl, .long j0], h) Q := t_lload k_200_194 rfl
theorem k_200_196 : lk 200 196 = some (.lmul, 197, 0, 0, .null) := by decide +kernel
theorem x_200_196 : Tr sc d 200 (196, [l0, l1, l2, l3, l4, l5, l6, l7, l8, l9, l10, l11, l12, l13, l14, l15, l16, l17, l18, l19, l20, l21, l22, l23, l24, l25, l26], [.long j1, .long j0], h) Q = Tr sc d 200 (197, [l0, l1, l2, l3, l4, l5, l6, l7, l8, l9, l10, l11, l12, l13, l14, l15, l16, l17, l18, l19, l20, l21, l22, l23, l24, l25, l26], [.long (j0 * j1)], h) Q := t_go k_200_196 rfl
theorem k_200_197 : lk 200 197 = some (.aload_n 0, 198, 0, 0, .null) := by decide +kernel
theorem x_200_197 : Tr sc d 200 (197, [some (.ref xk), l1, l2, l3, l4, l5, l6, l7, l8, l9, l10, l11, l12, l13, l14, l15, l16, l17, l18, l19, l20, l21, l22, l23, l24, l25, l26], [.long j0], h) Q = Tr sc d 200 (198, [some (.ref xk), l1, l2, l3, l4, l5, l6, l7, l8, l9, l10, l11, l12, l13, l14, l15, l16, l17, l18, l19, l20, l21, l22, l23, l24, l25, l26], [.ref xk, .long j0], h) Q := t_aload_n k_200_197 rfl
theorem k_200_198 : lk 200 198 = some (.getfield 244, 201, 10, 28, .int 0) := by decide +kernel
theorem x_200_198 : Tr sc d 200 (198, [l0, l1, l2, l3, l4, l5, l6, l7, l8, l9, l10, l11, l12, l13, l14, l15, l16, l17, l18, l19, l20, l21, l22, l23, l24, l25, l26], [.ref k1, .long j0], h) Q = (okp h k1 10 = true ∧ Tr sc d 200 (201, [l0, l1, l2, l3, l4, l5, l6, l7, l8, l9, l10, l11, l12, l13, l14, l15, l16, l17, l18, l19, l20, l21, l22, l23, l24, l25, l26], [.int (hI h k1 28), .long j0], h) Q) := t_gd k_200_198 rfl
theorem k_200_201 : lk 200 201 = some (.i2l, 202, 0, 0, .null) := by decide +kernel
theorem x_200_201 : Tr sc d 200 (201, [l0, l1, l2, l3, l4, l5, l6, l7, l8, l9, l10, l11, l12, l13, l14, l15, l16, l17, l18, l19, l20, l21, l22, l23, l24, l25, l26], [.int i1, .long j0], h) Q = Tr sc d 200 (202, [l0, l1, l2, l3, l4, l5, l6, l7, l8, l9, l10, l11, l12, l13, l14, l15, l16, l17, l18, l19, l20, l21, l22, l23, l24, l25, l26], [.long i1.toInt64, .long j0], h) Q := t_go k_200_201 rfl
theorem k_200_202 : lk 200 202 = some (.lload 21, 204, 21, 0, .null) := by decide +kernel
theorem x_200_202 : Tr sc d 200 (202, [l0, l1, l2, l3, l4, l5, l6, l7, l8, l9, l10, l11, l12, l13, l14, l15, l16, l17, l18, l19, l20, some (.long xl), l22, l23, l24, l25, l26], [.long j1, .long j0], h) Q = Tr sc d 200 (204, [l0, l1, l2, l3, l4, l5, l6, l7, l8, l9, l10, l11, l12, l13, l14, l15, l16, l17, l18, l19, l20, some (.long xl), l22, l23, l24, l25, l26], [.long xl, .long j1, .long j0], h) Q := t_lload k_200_202 rfl
theorem k_200_204 : lk 200 204 = some (.lmul, 205, 0, 0, .null) := by decide +kernel
theorem x_200_204 : Tr sc d 200 (204, [l0, l1, l2, l3, l4, l5, l6, l7, l8, l9, l10, l11, l12, l13, l14, l15, l16, l17, l18, l19, l20, l21, l22, l23, l24, l25, l26], [.long j2, .long j1, .long j0], h) Q = Tr sc d 200 (205, [l0, l1, l2, l3, l4, l5, l6, l7, l8, l9, l10, l11, l12, l13, l14, l15, l16, l17, l18, l19, l20, l21, l22, l23, l24, l25, l26], [.long (j1 * j2), .long j0], h) Q := t_go k_200_204 rfl
theorem k_200_205 : lk 200 205 = some (.ladd, 206, 0, 0, .null) := by decide +kernel
theorem x_200_205 : Tr sc d 200 (205, [l0, l1, l2, l3, l4, l5, l6, l7, l8, l9, l10, l11, l12, l13, l14, l15, l16, l17, l18, l19, l20, l21, l22, l23, l24, l25, l26], [.long j1, .long j0], h) Q = Tr sc d 200 (206, [l0, l1, l2, l3, l4, l5, l6, l7, l8, l9, l10, l11, l12, l13, l14, l15, l16, l17, l18, l19, l20, l21, l22, l23, l24, l25, l26], [.long (j0 + j1)], h) Q := t_go k_200_205 rfl
theorem k_200_206 : lk 200 206 = some (.lload 17, 208, 17, 0, .null) := by decide +kernel
theorem x_200_206 : Tr sc d 200 (206, [l0, l1, l2, l3, l4, l5, l6, l7, l8, l9, l10, l11, l12, l13, l14, l15, l16, some (.long xl), l18, l19, l20, l21, l22, l23, l24, l25, l26], [.long j0], h) Q = Tr sc d 200 (208, [l0, l1, l2, l3, l4, l5, l6, l7, l8, l9, l10, l11, l12, l13, l14, l15, l16, some (.long xl), l18, l19, l20, l21, l22, l23, l24, l25, l26], [.long xl, .long j0], h) Q := t_lload k_200_206 rfl
theorem k_200_208 : lk 200 208 = some (.aload_n 0, 209, 0, 0, .null) := by decide +kernel
theorem x_200_208 : Tr sc d 200 (208, [some (.ref xk), l1, l2, l3, l4, l5, l6, l7, l8, l9, l10, l11, l12, l13, l14, l15, l16, l17, l18, l19, l20, l21, l22, l23, l24, l25, l26], [.long j1, .long j0], h) Q = Tr sc d 200 (209, [some (.ref xk), l1, l2, l3, l4, l5, l6, l7, l8, l9, l10, l11, l12, l13, l14, l15, l16, l17, l18, l19, l20, l21, l22, l23, l24, l25, l26], [.ref xk, .long j1, .long j0], h) Q := t_aload_n k_200_208 rfl
theorem k_200_209 : lk 200 209 = some (.getfield 232, 212, 10, 24, .int 0) := by decide +kernel
theorem x_200_209 : Tr sc d 200 (209, [l0, l1, l2, l3, l4, l5, l6, l7, l8, l9, l10, l11, l12, l13, l14, l15, l16, l17, l18, l19, l20, l21, l22, l23, l24, l25, l26], [.ref k2, .long j1, .long j0], h) Q = (okp h k2 10 = true ∧ Tr sc d 200 (212, [l0, l1, l2, l3, l4, l5, l6, l7, l8, l9, l10, l11, l12, l13, l14, l15, l16, l17, l18, l19, l20, l21, l22, l23, l24, l25, l26], [.int (hI h k2 24), .long j1, .long j0], h) Q) := t_gd k_200_209 rfl
theorem k_200_212 : lk 200 212 = some (.i2l, 213, 0, 0, .null) := by decide +kernel
theorem x_200_212 : Tr sc d 200 (212, [l0, l1, l2, l3, l4, l5, l6, l7, l8, l9, l10, l11, l12, l13, l14, l15, l16, l17, l18, l19, l20, l21, l22, l23, l24, l25, l26], [.int i2, .long j1, .long j0], h) Q = Tr sc d 200 (213, [l0, l1, l2, l3, l4, l5, l6, l7, l8, l9, l10, l11, l12, l13, l14, l15, l16, l17, l18, l19, l20, l21, l22, l23, l24, l25, l26], [.long i2.toInt64, .long j1, .long j0], h) Q := t_go k_200_212 rfl
theorem k_200_213 : lk 200 213 = some (.lmul, 214, 0, 0, .null) := by decide +kernel
theorem x_200_213 : Tr sc d 200 (213, [l0, l1, l2, l3, l4, l5, l6, l7, l8, l9, l10, l11, l12, l13, l14, l15, l16, l17, l18, l19, l20, l21, l22, l23, l24, l25, l26], [.long j2, .long j1, .long j0], h) Q = Tr sc d 200 (214, [l0, l1, l2, l3, l4, l5, l6, l7, l8, l9, l10, l11, l12, l13, l14, l15, l16, l17, l18, l19, l20, l21, l22, l23, l24, l25, l26], [.long (j1 * j2), .long j0], h) Q := t_go k_200_213 rfl
theorem k_200_214 : lk 200 214 = some (.ladd, 215, 0, 0, .null) := by decide +kernel
theorem x_200_214 : Tr sc d 200 (214, [l0, l1, l2, l3, l4, l5, l6, l7, l8, l9, l10, l11, l12, l13, l14, l15, l16, l17, l18, l19, l20, l21, l22, l23, l24, l25, l26], [.long j1, .long j0], h) Q = Tr sc d 200 (215, [l0, l1, l2, l3, l4, l5, l6, l7, l8, l9, l10, l11, l12, l13, l14, l15, l16, l17, l18, l19, l20, l21, l22, l23, l24, l25, l26], [.long (j0 + j1)], h) Q := t_go k_200_214 rfl
theorem k_200_215 : lk 200 215 = some (.lstore 25, 217, 25, 0, .null) := by decide +kernel
theorem x_200_215 : Tr sc d 200 (215, [l0, l1, l2, l3, l4, l5, l6, l7, l8, l9, l10, l11, l12, l13, l14, l15, l16, l17, l18, l19, l20, l21, l22, l23, l24, l25, l26], [.long j0], h) Q = Tr sc d 200 (217, [l0, l1, l2, l3, l4, l5, l6, l7, l8, l9, l10, l11, l12, l13, l14, l15, l16, l17, l18, l19, l20, l21, l22, l23, cl2 l24, some (.long j0), none], [], h) Q := t_lstore k_200_215 (Nat.le_of_ble_eq_true rfl)
theorem k_200_217 : lk 200 217 = some (.aload_n 0, 218, 0, 0, .null) := by decide +kernel
theorem x_200_217 : Tr sc d 200 (217, [some (.ref xk), l1, l2, l3, l4, l5, l6, l7, l8, l9, l10, l11, l12, l13, l14, l15, l16, l17, l18, l19, l20, l21, l22, l23, l24, l25, l26], [], h) Q = Tr sc d 200 (218, [some (.ref xk), l1, l2, l3, l4, l5, l6, l7, l8, l9, l10, l11, l12, l13, l14, l15, l16, l17, l18, l19, l20, l21, l22, l23, l24, l25, l26], [.ref xk], h) Q := t_aload_n k_200_217 rfl
theorem k_200_218 : lk 200 218 = some (.iload 5, 220, 5, 0, .null) := by decide +kernel
theorem x_200_218 : Tr sc d 200 (218, [l0, l1, l2, l3, l4, some (.int x), l6, l7, l8, l9, l10, l11, l12, l13, l14, l15, l16, l17, l18, l19, l20, l21, l22, l23, l24, l25, l26], [.ref k0], h) Q = Tr sc d 200 (220, [l0, l1, l2, l3, l4, some (.int x), l6, l7, l8, l9, l10, l11, l12, l13, l14, l15, l16, l17, l18, l19, l20, l21, l22, l23, l24, l25, l26], [.int x, .ref k0], h) Q := t_iload k_200_218 rfl
theorem k_200_220 : lk 200 220 = some (.ifCond .eq 8, 223, 228, 0, .null) := by decide +kernel
theorem x_200_220 : Tr sc d 200 (220, [l0, l1, l2, l3, l4, l5, l6, l7, l8, l9, l10, l11, l12, l13, l14, l15, l16, l17, l18, l19, l20, l21, l22, l23, l24, l25, l26], [.int i1, .ref k0], h) Q = if i1 = 0 then Tr sc d 200 (228, [l0, l1, l2, l3, l4, l5, l6, l7, l8, l9, l10, l11, l12, l13, l14, l15, l16, l17, l18, l19, l20, l21, l22, l23, l24, l25, l26], [.ref k0], h) Q else Tr sc d 200 (223, [l0, l1, l2, l3, l4, l5, l6, l7, l8, l9, l10, l11, l12, l13, l14, l15, l16, l17, l18, l19, l20, l21, l22, l23, l24, l25, l26], [.ref k0], h) Q := t_if k_200_220 rfl
theorem k_200_223 : lk 200 223 = some (.lload 25, 225, 25, 0, .null) := by decide +kernel
theorem x_200_223 : Tr sc d 200 (223, [l0, l1, l2, l3, l4, l5, l6, l7, l8, l9, l10, l11, l12, l13, l14, l15, l16, l17, l18, l19, l20, l21, l22, l23, l24, some (.long xl), l26], [.ref k0], h) Q = Tr sc d 200 (225, [l0, l1, l2, l3, l4, l5, l6, l7, l8, l9, l10, l11, l12, l13, l14, l15, l16, l17, l18, l19, l20, l21, l22, l23, l24, some (.long xl), l26], [.long xl, .ref k0], h) Q := t_lload k_200_223 rfl
theorem k_200_225 : lk 200 225 = some (.goto 5, 228, 230, 0, .null) := by decide +kernel
theorem x_200_225 : Tr sc d 200 (225, [l0, l1, l2, l3, l4, l5, l6, l7, l8, l9, l10, l11, l12, l13, l14, l15, l16, l17, l18, l19, l20, l21, l22, l23, l24, l25, l26], [.long j1, .ref k0], h) Q = Tr sc d 200 (230, [l0, l1, l2, l3, l4, l5, l6, l7, l8, l9, l10, l11, l12, l13, l14, l15, l16, l17, l18, l19, l20, l21, l22, l23, l24, l25, l26], [.long j1, .ref k0], h) Q := t_go k_200_225 rfl
theorem k_200_228 : lk 200 228 = some (.lload 23, 230, 23, 0, .null) := by decide +kernel
theorem x_200_228 : Tr sc d 200 (228, [l0, l1, l2, l3, l4, l5, l6, l7, l8, l9, l10, l11, l12, l13, l14, l15, l16, l17, l18, l19, l20, l21, l22, some (.long xl), l24, l25, l26], [.ref k0], h) Q = Tr sc d 200 (230, [l0, l1, l2, l3, l4, l5, l6, l7, l8, l9, l10, l11, l12, l13, l14, l15, l16, l17, l18, l19, l20, l21, l22, some (.long xl), l24, l25, l26], [.long xl, .ref k0], h) Q := t_lload k_200_228 rfl
theorem k_200_230 : lk 200 230 = some (.lload 17, 232, 17, 0, .null) := by decide +kernel
theorem x_200_230 : Tr sc d 200 (230, [l0, l1, l2, l3, l4, l5, l6, l7, l8, l9, l10, l11, l12, l13, l14, l15, l16, some (.long xl), l18, l19, l20, l21, l22, l23, l24, l25, l26], [.long j1, .ref k0], h) Q = Tr sc d 200 (232, [l0, l1, l2, l3, l4, l5, l6, l7, l8, l9, l10, l11, l12, l13, l14, l15, l16, some (.long xl), l18, l19, l20, l21, l22, l23, l24, l25, l26], [.long xl, .long j1, .ref k0], h) Q := t_lload k_200_230 rfl
theorem k_200_232 : lk 200 232 = some (.aload_n 0, 233, 0, 0, .null) := by decide +kernel
theorem x_200_232 : Tr sc d 200 (232, [some (.ref xk), l1, l2, l3, l4, l5, l6, l7, l8, l9, l10, l11, l12, l13, l14, l15, l16, l17, l18, l19, l20, l21, l22, l23, l24, l25, l26], [.long j2, .long j1, .ref k0], h) Q = Tr sc d 200 (233, [some (.ref xk), l1, l2, l3, l4, l5, l6, l7, l8, l9, l10, l11, l12, l13, l14, l15, l16, l17, l18, l19, l20, l21, l22, l23, l24, l25, l26], [.ref xk, .long j2, .long j1, .ref k0], h) Q := t_aload_n k_200_232 rfl
theorem k_200_233 : lk 200 233 = some (.getfield 38, 236, 10, 17, .null) := by decide +kernel
theorem x_200_233 : Tr sc d 200 (233, [l0, l1, l2, l3, l4, l5, l6, l7, l8, l9, l10, l11, l12, l13, l14, l15, l16, l17, l18, l19, l20, l21, l22, l23, l24, l25, l26], [.ref k3, .long j2, .long j1, .ref k0], h) Q = (okp h k3 10 = true ∧ ∃ q, hR h k3 17 = some q ∧ Tr sc d 200 (236, [l0, l1, l2, l3, l4, l5, l6, l7, l8, l9, l10, l11, l12, l13, l14, l15, l16, l17, l18, l19, l20, l21, l22, l23, l24, l25, l26], [.ref q, .long j2, .long j1, .ref k0], h) Q) := t_getr k_200_233
theorem k_200_236 : lk 200 236 = some (.iload_n 1, 237, 1, 0, .null) := by decide +kernel
theorem x_200_236 : Tr sc d 200 (236, [l0, some (.int x), l2, l3, l4, l5, l6, l7, l8, l9, l10, l11, l12, l13, l14, l15, l16, l17, l18, l19, l20, l21, l22, l23, l24, l25, l26], [.ref k3, .long j2, .long j1, .ref k0], h) Q = Tr sc d 200 (237, [l0, some (.int x), l2, l3, l4, l5, l6, l7, l8, l9, l10, l11, l12, l13, l14, l15, l16, l17, l18, l19, l20, l21, l22, l23, l24, l25, l26], [.int x, .ref k3, .long j2, .long j1, .ref k0], h) Q := t_iload_n k_200_236 rfl
theorem k_200_237 : lk 200 237 = some (.iaload, 238, 0, 0, .null) := by decide +kernel
theorem x_200_237 : Tr sc d 200 (237, [l0, l1, l2, l3, l4, l5, l6, l7, l8, l9, l10, l11, l12, l13, l14, l15, l16, l17, l18, l19, l20, l21, l22, l23, l24, l25, l26], [.int i4, .ref k3, .long j2, .long j1, .ref k0], h) Q = (iOk sc h k3 i4 ∧ Tr sc d 200 (238, [l0, l1, l2, l3, l4, l5, l6, l7, l8, l9, l10, l11, l12, l13, l14, l15, l16, l17, l18, l19, l20, l21, l22, l23, l24, l25, l26], [.int (iRd sc h k3 i4), .long j2, .long j1, .ref k0], h) Q) := t_iald k_200_237
theorem k_200_238 : lk 200 238 = some (.iload_n 3, 239, 3, 0, .null) := by decide +kernel
theorem x_200_238 : Tr sc d 200 (238, [l0, l1, l2, some (.int x), l4, l5, l6, l7, l8, l9, l10, l11, l12, l13, l14, l15, l16, l17, l18, l19, l20, l21, l22, l23, l24, l25, l26], [.int i3, .long j2, .long j1, .ref k0], h) Q = Tr sc d 200 (239, [l0, l1, l2, some (.int x), l4, l5, l6, l7, l8, l9, l10, l11, l12, l13, l14, l15, l16, l17, l18, l19, l20, l21, l22, l23, l24, l25, l26], [.int x, .int i3, .long j2, .long j1, .ref k0], h) Q := t_iload_n k_200_238 rfl
theorem k_200_239 : lk 200 239 = some (.invokestatic 247, 242, 196, 2, .null) := by decide +kernel
theorem x_200_239 : Tr sc (d + 1) 200 (239, [l0, l1, l2, l3, l4, l5, l6, l7, l8, l9, l10, l11, l12, l13, l14, l15, l16, l17, l18, l19, l20, l21, l22, l23, l24, l25, l26], [.int i4, .int i3, .long j2, .long j1, .ref k0], h) Q = Tr sc d 196 (ent0 196 [.int i3, .int i4] h) (fun z => Tr sc (d + 1) 200 (242, [l0, l1, l2, l3, l4, l5, l6, l7, l8, l9, l10, l11, l12, l13, l14, l15, l16, l17, l18, l19, l20, l21, l22, l23, l24, l25, l26], z.1.toList ++ [.long j2, .long j1, .ref k0], z.2) Q) := t_cs (as := [.int i3, .int i4]) (r := [.long j2, .long j1, .ref k0]) k_200_239 (by decide) rfl rfl (Nat.le_of_ble_eq_true rfl) (Nat.le_of_ble_eq_true rfl)
theorem k_200_242 : lk 200 242 = some (.i2l, 243, 0, 0, .null) := by decide +kernel
theorem x_200_242 : Tr sc d 200 (242, [l0, l1, l2, l3, l4, l5, l6, l7, l8, l9, l10, l11, l12, l13, l14, l15, l16, l17, l18, l19, l20, l21, l22, l23, l24, l25, l26], [.int i3, .long j2, .long j1, .ref k0], h) Q = Tr sc d 200 (243, [l0, l1, l2, l3, l4, l5, l6, l7, l8, l9, l10, l11, l12, l13, l14, l15, l16, l17, l18, l19, l20, l21, l22, l23, l24, l25, l26], [.long i3.toInt64, .long j2, .long j1, .ref k0], h) Q := t_go k_200_242 rfl
theorem k_200_243 : lk 200 243 = some (.lmul, 244, 0, 0, .null) := by decide +kernel
theorem x_200_243 : Tr sc d 200 (243, [l0, l1, l2, l3, l4, l5, l6, l7, l8, l9, l10, l11, l12, l13, l14, l15, l16, l17, l18, l19, l20, l21, l22, l23, l24, l25, l26], [.long j3, .long j2, .long j1, .ref k0], h) Q = Tr sc d 200 (244, [l0, l1, l2, l3, l4, l5, l6, l7, l8, l9, l10, l11, l12, l13, l14, l15, l16, l17, l18, l19, l20, l21, l22, l23, l24, l25, l26], [.long (j2 * j3), .long j1, .ref k0], h) Q := t_go k_200_243 rfl
theorem k_200_244 : lk 200 244 = some (.invokevirtual 263, 247, 160, 2, .null) := by decide +kernel
theorem x_200_244 : Tr sc (d + 1) 200 (244, [l0, l1, l2, l3, l4, l5, l6, l7, l8, l9, l10, l11, l12, l13, l14, l15, l16, l17, l18, l19, l20, l21, l22, l23, l24, l25, l26], [.long j2, .long j1, .ref k0], h) Q = (okp h k0 10 = true ∧ Tr sc d 160 (ent0 160 [.ref k0, .long j1, .long j2] h) (fun z => Tr sc (d + 1) 200 (247, [l0, l1, l2, l3, l4, l5, l6, l7, l8, l9, l10, l11, l12, l13, l14, l15, l16, l17, l18, l19, l20, l21, l22, l23, l24, l25, l26], z.1.toList ++ [], z.2) Q)) := t_cv (as := [.long j1, .long j2]) (r := []) k_200_244 rfl rfl (Nat.le_of_ble_eq_true rfl) (Nat.le_of_ble_eq_true rfl) (Nat.le_of_ble_eq_true rfl)
theorem k_200_247 : lk 200 247 = some (.ireturn, 248, 0, 0, .null) := by decide +kernel
theorem x_200_247 : Tr sc d 200 (247, [l0, l1, l2, l3, l4, l5, l6, l7, l8, l9, l10, l11, l12, l13, l14, l15, l16, l17, l18, l19, l20, l21, l22, l23, l24, l25, l26], [.int i0], h) Q = Q (some (.int i0), h) := t_ret k_200_247 (by rw [r_200]; rfl)
theorem e_200 : Tr sc d 200 (ent0 200 [.ref k0, .int i1, .int i2, .int i3, .int i4, .int i5] h) Q = Tr sc d 200 (0, [some (.ref k0), some (.int i1), some (.int i2), some (.int i3), some (.int i4), some (.int i5), none, none, none, none, none, none, none, none, none, none, none, none, none, none, none, none, none, none, none, none, none], [], h) Q := by
  have e : mL 200 = 27 := by decide +kernel
  unfold ent0
  rw [e]
  rfl
theorem r_201 : mR 201 = some .int := by decide +kernel
theorem k_201_0 : lk 201 0 = some (.iload_n 2, 1, 2, 0, .null) := by decide +kernel
theorem x_201_0 : Tr sc d 201 (0, [l0, l1, some (.int x), l3, l4, l5, l6], [], h) Q = Tr sc d 201 (1, [l0, l1, some (.int x), l3, l4, l5, l6], [.int x], h) Q := t_iload_n k_201_0 rfl
theorem k_201_1 : lk 201 1 = some (.iconst 0, 2, 0, 0, .int 0) := by decide +kernel
theorem x_201_1 : Tr sc d 201 (1, [l0, l1, l2, l3, l4, l5, l6], [.int i0], h) Q = Tr sc d 201 (2, [l0, l1, l2, l3, l4, l5, l6], [.int 0, .int i0], h) Q := t_go k_201_1 rfl
theorem k_201_2 : lk 201 2 = some (.bipush 6, 4, 0, 0, .int 6) := by decide +kernel
theorem x_201_2 : Tr sc d 201 (2, [l0, l1, l2, l3, l4, l5, l6], [.int i1, .int i0], h) Q = Tr sc d 201 (4, [l0, l1, l2, l3, l4, l5, l6], [.int 6, .int i1, .int i0], h) Q := t_go k_201_2 rfl
theorem k_201_4 : lk 201 4 = some (.invokestatic 144, 7, 157, 3, .null) := by decide +kernel
theorem x_201_4 : Tr sc (d + 1) 201 (4, [l0, l1, l2, l3, l4, l5, l6], [.int i2, .int i1, .int i0], h) Q = Tr sc d 157 (ent0 157 [.int i0, .int i1, .int i2] h) (fun z => Tr sc (d + 1) 201 (7, [l0, l1, l2, l3, l4, l5, l6], z.1.toList ++ [], z.2) Q) := t_cs (as := [.int i0, .int i1, .int i2]) (r := []) k_201_4 (by decide) rfl rfl (Nat.le_of_ble_eq_true rfl) (Nat.le_of_ble_eq_true rfl)
theorem k_201_7 : lk 201 7 = some (.ifCond .ne 5, 10, 12, 0, .null) := by decide +kernel
theorem x_201_7 : Tr sc d 201 (7, [l0, l1, l2, l3, l4, l5, l6], [.int i0], h) Q = if i0 = 0 then Tr sc d 201 (10, [l0, l1, l2, l3, l4, l5, l6], [], h) Q else Tr sc d 201 (12, [l0, l1, l2, l3, l4, l5, l6], [], h) Q := t_if k_201_7 rfl
theorem k_201_10 : lk 201 10 = some (.iconst (-1), 11, 0, 0, .int (-1)) := by decide +kernel
theorem x_201_10 : Tr sc d 201 (10, [l0, l1, l2, l3, l4, l5, l6], [], h) Q = Tr sc d 201 (11, [l0, l1, l2, l3, l4, l5, l6], [.int (-1)], h) Q := t_go k_201_10 rfl
theorem k_201_11 : lk 201 11 = some (.ireturn, 12, 0, 0, .null) := by decide +kernel
theorem x_201_11 : Tr sc d 201 (11, [l0, l1, l2, l3, l4, l5, l6], [.int i0], h) Q = Q (some (.int i0), h) := t_ret k_201_11 (by rw [r_201]; rfl)
theorem k_201_12 : lk 201 12 = some (.aload_n 0, 13, 0, 0, .null) := by decide +kernel
theorem x_201_12 : Tr sc d 201 (12, [some (.ref xk), l1, l2, l3, l4, l5, l6], [], h) Q = Tr sc d 201 (13, [some (.ref xk), l1, l2, l3, l4, l5, l6], [.ref xk], h) Q := t_aload_n k_201_12 rfl
theorem k_201_13 : lk 201 13 = some (.iload_n 1, 14, 1, 0, .null) := by decide +kernel
theorem x_201_13 : Tr sc d 201 (13, [l0, some (.int x), l2, l3, l4, l5, l6], [.ref k0], h) Q = Tr sc d 201 (14, [l0, some (.int x), l2, l3, l4, l5, l6], [.int x, .ref k0], h) Q := t_iload_n k_201_13 rfl
theorem k_201_14 : lk 201 14 = some (.invokevirtual 220, 17, 177, 1, .null) := by decide +kernel
theorem x_201_14 : Tr sc (d + 1) 201 (14, [l0, l1, l2, l3, l4, l5, l6], [.int i1, .ref k0], h) Q = (okp h k0 10 = true ∧ Tr sc d 177 (ent0 177 [.ref k0, .int i1] h) (fun z => Tr sc (d + 1) 201 (17, [l0, l1, l2, l3, l4, l5, l6], z.1.toList ++ [], z.2) Q)) := t_cv (as := [.int i1]) (r := []) k_201_14 rfl rfl (Nat.le_of_ble_eq_true rfl) (Nat.le_of_ble_eq_true rfl) (Nat.le_of_ble_eq_true rfl)
theorem k_201_17 : lk 201 17 = some (.istore_n 3, 18, 3, 0, .null) := by decide +kernel
theorem x_201_17 : Tr sc d 201 (17, [l0, l1, l2, l3, l4, l5, l6], [.int i0], h) Q = Tr sc d 201 (18, [l0, l1, cl2 l2, some (.int i0), l4, l5, l6], [], h) Q := t_istore_n k_201_17 (Nat.le_of_ble_eq_true rfl)
theorem k_201_18 : lk 201 18 = some (.iload_n 3, 19, 3, 0, .null) := by decide +kernel
theorem x_201_18 : Tr sc d 201 (18, [l0, l1, l2, some (.int x), l4, l5, l6], [], h) Q = Tr sc d 201 (19, [l0, l1, l2, some (.int x), l4, l5, l6], [.int x], h) Q := t_iload_n k_201_18 rfl
theorem k_201_19 : lk 201 19 = some (.ifCond .ge 5, 22, 24, 0, .null) := by decide +kernel
theorem x_201_19 : Tr sc d 201 (19, [l0, l1, l2, l3, l4, l5, l6], [.int i0], h) Q = if 0 ≤ i0 then Tr sc d 201 (24, [l0, l1, l2, l3, l4, l5, l6], [], h) Q else Tr sc d 201 (22, [l0, l1, l2, l3, l4, l5, l6], [], h) Q := t_if k_201_19 rfl
theorem k_201_22 : lk 201 22 = some (.iload_n 3, 23, 3, 0, .null) := by decide +kernel
theorem x_201_22 : Tr sc d 201 (22, [l0, l1, l2, some (.int x), l4, l5, l6], [], h) Q = Tr sc d 201 (23, [l0, l1, l2, some (.int x), l4, l5, l6], [.int x], h) Q := t_iload_n k_201_22 rfl
theorem k_201_23 : lk 201 23 = some (.ireturn, 24, 0, 0, .null) := by decide +kernel
theorem x_201_23 : Tr sc d 201 (23, [l0, l1, l2, l3, l4, l5, l6], [.int i0], h) Q = Q (some (.int i0), h) := t_ret k_201_23 (by rw [r_201]; rfl)
theorem k_201_24 : lk 201 24 = some (.aload_n 0, 25, 0, 0, .null) := by decide +kernel
theorem x_201_24 : Tr sc d 201 (24, [some (.ref xk), l1, l2, l3, l4, l5, l6], [], h) Q = Tr sc d 201 (25, [some (.ref xk), l1, l2, l3, l4, l5, l6], [.ref xk], h) Q := t_aload_n k_201_24 rfl
theorem k_201_25 : lk 201 25 = some (.lconst 1, 26, 0, 0, .long 1) := by decide +kernel
theorem x_201_25 : Tr sc d 201 (25, [l0, l1, l2, l3, l4, l5, l6], [.ref k0], h) Q = Tr sc d 201 (26, [l0, l1, l2, l3, l4, l5, l6], [.long 1, .ref k0], h) Q := t_go k_201_25 rfl
theorem k_201_26 : lk 201 26 = some (.putfield 267, 29, 10, 3, .long 0) := by decide +kernel
theorem x_201_26 : Tr sc d 201 (26, [l0, l1, l2, l3, l4, l5, l6], [.long j1, .ref k0], h) Q = (okp h k0 10 = true ∧ Tr sc d 201 (29, [l0, l1, l2, l3, l4, l5, l6], [], (sL h k0 3 j1)) Q) := t_gd k_201_26 rfl
theorem k_201_29 : lk 201 29 = some (.iconst 0, 30, 0, 0, .int 0) := by decide +kernel
theorem x_201_29 : Tr sc d 201 (29, [l0, l1, l2, l3, l4, l5, l6], [], h) Q = Tr sc d 201 (30, [l0, l1, l2, l3, l4, l5, l6], [.int 0], h) Q := t_go k_201_29 rfl
theorem k_201_30 : lk 201 30 = some (.istore 4, 32, 4, 0, .null) := by decide +kernel
theorem x_201_30 : Tr sc d 201 (30, [l0, l1, l2, l3, l4, l5, l6], [.int i0], h) Q = Tr sc d 201 (32, [l0, l1, l2, cl2 l3, some (.int i0), l5, l6], [], h) Q := t_istore k_201_30 (Nat.le_of_ble_eq_true rfl)
theorem k_201_32 : lk 201 32 = some (.iload 4, 34, 4, 0, .null) := by decide +kernel
theorem x_201_32 : Tr sc d 201 (32, [l0, l1, l2, l3, some (.int x), l5, l6], [], h) Q = Tr sc d 201 (34, [l0, l1, l2, l3, some (.int x), l5, l6], [.int x], h) Q := t_iload k_201_32 rfl
theorem k_201_34 : lk 201 34 = some (.aload_n 0, 35, 0, 0, .null) := by decide +kernel
theorem x_201_34 : Tr sc d 201 (34, [some (.ref xk), l1, l2, l3, l4, l5, l6], [.int i0], h) Q = Tr sc d 201 (35, [some (.ref xk), l1, l2, l3, l4, l5, l6], [.ref xk, .int i0], h) Q := t_aload_n k_201_34 rfl
theorem k_201_35 : lk 201 35 = some (.getfield 41, 38, 10, 18, .null) := by decide +kernel
theorem x_201_35 : Tr sc d 201 (35, [l0, l1, l2, l3, l4, l5, l6], [.ref k1, .int i0], h) Q = (okp h k1 10 = true ∧ ∃ q, hR h k1 18 = some q ∧ Tr sc d 201 (38, [l0, l1, l2, l3, l4, l5, l6], [.ref q, .int i0], h) Q) := t_getr k_201_35
theorem k_201_38 : lk 201 38 = some (.iload_n 1, 39, 1, 0, .null) := by decide +kernel
theorem x_201_38 : Tr sc d 201 (38, [l0, some (.int x), l2, l3, l4, l5, l6], [.ref k1, .int i0], h) Q = Tr sc d 201 (39, [l0, some (.int x), l2, l3, l4, l5, l6], [.int x, .ref k1, .int i0], h) Q := t_iload_n k_201_38 rfl
theorem k_201_39 : lk 201 39 = some (.iaload, 40, 0, 0, .null) := by decide +kernel
theorem x_201_39 : Tr sc d 201 (39, [l0, l1, l2, l3, l4, l5, l6], [.int i2, .ref k1, .int i0], h) Q = (iOk sc h k1 i2 ∧ Tr sc d 201 (40, [l0, l1, l2, l3, l4, l5, l6], [.int (iRd sc h k1 i2), .int i0], h) Q) := t_iald k_201_39
theorem k_201_40 : lk 201 40 = some (.if_icmp .ge 17, 43, 57, 0, .null) := by decide +kernel
theorem x_201_40 : Tr sc d 201 (40, [l0, l1, l2, l3, l4, l5, l6], [.int i1, .int i0], h) Q = if i1 ≤ i0 then Tr sc d 201 (57, [l0, l1, l2, l3, l4, l5, l6], [], h) Q else Tr sc d 201 (43, [l0, l1, l2, l3, l4, l5, l6], [], h) Q := t_if k_201_40 rfl
theorem k_201_43 : lk 201 43 = some (.aload_n 0, 44, 0, 0, .null) := by decide +kernel
theorem x_201_43 : Tr sc d 201 (43, [some (.ref xk), l1, l2, l3, l4, l5, l6], [], h) Q = Tr sc d 201 (44, [some (.ref xk), l1, l2, l3, l4, l5, l6], [.ref xk], h) Q := t_aload_n k_201_43 rfl
theorem k_201_44 : lk 201 44 = some (.getfield 56, 47, 10, 29, .null) := by decide +kernel
theorem x_201_44 : Tr sc d 201 (44, [l0, l1, l2, l3, l4, l5, l6], [.ref k0], h) Q = (okp h k0 10 = true ∧ ∃ q, hR h k0 29 = some q ∧ Tr sc d 201 (47, [l0, l1, l2, l3, l4, l5, l6], [.ref q], h) Q) := t_getr k_201_44
theorem k_201_47 : lk 201 47 = some (.iload 4, 49, 4, 0, .null) := by decide +kernel
theorem x_201_47 : Tr sc d 201 (47, [l0, l1, l2, l3, some (.int x), l5, l6], [.ref k0], h) Q = Tr sc d 201 (49, [l0, l1, l2, l3, some (.int x), l5, l6], [.int x, .ref k0], h) Q := t_iload k_201_47 rfl
theorem k_201_49 : lk 201 49 = some (.lconst 1, 50, 0, 0, .long 1) := by decide +kernel
theorem x_201_49 : Tr sc d 201 (49, [l0, l1, l2, l3, l4, l5, l6], [.int i1, .ref k0], h) Q = Tr sc d 201 (50, [l0, l1, l2, l3, l4, l5, l6], [.long 1, .int i1, .ref k0], h) Q := t_go k_201_49 rfl
theorem k_201_50 : lk 201 50 = some (.lastore, 51, 0, 0, .null) := by decide +kernel
theorem x_201_50 : Tr sc d 201 (50, [l0, l1, l2, l3, l4, l5, l6], [.long j2, .int i1, .ref k0], h) Q = ((okp h k0 12 && inb i1 (LN k0)) = true ∧ Tr sc d 201 (51, [l0, l1, l2, l3, l4, l5, l6], [], (sL h k0 i1.toNatClampNeg j2)) Q) := t_gd k_201_50 rfl
theorem k_201_51 : lk 201 51 = some (.iinc 4 1, 54, 4, 0, .int 1) := by decide +kernel
theorem x_201_51 : Tr sc d 201 (51, [l0, l1, l2, l3, some (.int x), l5, l6], [], h) Q = Tr sc d 201 (54, [l0, l1, l2, cl2 l3, some (.int (x + 1)), l5, l6], [], h) Q := t_inc k_201_51 rfl (Nat.le_of_ble_eq_true rfl)
theorem k_201_54 : lk 201 54 = some (.goto (-22), 57, 32, 0, .null) := by decide +kernel
theorem x_201_54 : Tr sc d 201 (54, [l0, l1, l2, l3, l4, l5, l6], [], h) Q = Tr sc d 201 (32, [l0, l1, l2, l3, l4, l5, l6], [], h) Q := t_go k_201_54 rfl
theorem k_201_57 : lk 201 57 = some (.iconst 1, 58, 0, 0, .int 1) := by decide +kernel
theorem x_201_57 : Tr sc d 201 (57, [l0, l1, l2, l3, l4, l5, l6], [], h) Q = Tr sc d 201 (58, [l0, l1, l2, l3, l4, l5, l6], [.int 1], h) Q := t_go k_201_57 rfl
theorem k_201_58 : lk 201 58 = some (.istore 4, 60, 4, 0, .null) := by decide +kernel
theorem x_201_58 : Tr sc d 201 (58, [l0, l1, l2, l3, l4, l5, l6], [.int i0], h) Q = Tr sc d 201 (60, [l0, l1, l2, cl2 l3, some (.int i0), l5, l6], [], h) Q := t_istore k_201_58 (Nat.le_of_ble_eq_true rfl)
theorem k_201_60 : lk 201 60 = some (.iload 4, 62, 4, 0, .null) := by decide +kernel
theorem x_201_60 : Tr sc d 201 (60, [l0, l1, l2, l3, some (.int x), l5, l6], [], h) Q = Tr sc d 201 (62, [l0, l1, l2, l3, some (.int x), l5, l6], [.int x], h) Q := t_iload k_201_60 rfl
theorem k_201_62 : lk 201 62 = some (.iload_n 2, 63, 2, 0, .null) := by decide +kernel
theorem x_201_62 : Tr sc d 201 (62, [l0, l1, some (.int x), l3, l4, l5, l6], [.int i0], h) Q = Tr sc d 201 (63, [l0, l1, some (.int x), l3, l4, l5, l6], [.int x, .int i0], h) Q := t_iload_n k_201_62 rfl
theorem k_201_63 : lk 201 63 = some (.if_icmp .gt 145, 66, 208, 0, .null) := by decide +kernel
theorem x_201_63 : Tr sc d 201 (63, [l0, l1, l2, l3, l4, l5, l6], [.int i1, .int i0], h) Q = if i1 < i0 then Tr sc d 201 (208, [l0, l1, l2, l3, l4, l5, l6], [], h) Q else Tr sc d 201 (66, [l0, l1, l2, l3, l4, l5, l6], [], h) Q := t_if k_201_63 rfl
theorem k_201_66 : lk 201 66 = some (.aload_n 0, 67, 0, 0, .null) := by decide +kernel
theorem x_201_66 : Tr sc d 201 (66, [some (.ref xk), l1, l2, l3, l4, l5, l6], [], h) Q = Tr sc d 201 (67, [some (.ref xk), l1, l2, l3, l4, l5, l6], [.ref xk], h) Q := t_aload_n k_201_66 rfl
theorem k_201_67 : lk 201 67 = some (.lconst 0, 68, 0, 0, .long 0) := by decide +kernel
theorem x_201_67 : Tr sc d 201 (67, [l0, l1, l2, l3, l4, l5, l6], [.ref k0], h) Q = Tr sc d 201 (68, [l0, l1, l2, l3, l4, l5, l6], [.long 0, .ref k0], h) Q := t_go k_201_67 rfl
theorem k_201_68 : lk 201 68 = some (.putfield 267, 71, 10, 3, .long 0) := by decide +kernel
theorem x_201_68 : Tr sc d 201 (68, [l0, l1, l2, l3, l4, l5, l6], [.long j1, .ref k0], h) Q = (okp h k0 10 = true ∧ Tr sc d 201 (71, [l0, l1, l2, l3, l4, l5, l6], [], (sL h k0 3 j1)) Q) := t_gd k_201_68 rfl
theorem k_201_71 : lk 201 71 = some (.iconst 0, 72, 0, 0, .int 0) := by decide +kernel
theorem x_201_71 : Tr sc d 201 (71, [l0, l1, l2, l3, l4, l5, l6], [], h) Q = Tr sc d 201 (72, [l0, l1, l2, l3, l4, l5, l6], [.int 0], h) Q := t_go k_201_71 rfl
theorem k_201_72 : lk 201 72 = some (.istore 5, 74, 5, 0, .null) := by decide +kernel
theorem x_201_72 : Tr sc d 201 (72, [l0, l1, l2, l3, l4, l5, l6], [.int i0], h) Q = Tr sc d 201 (74, [l0, l1, l2, l3, cl2 l4, some (.int i0), l6], [], h) Q := t_istore k_201_72 (Nat.le_of_ble_eq_true rfl)
theorem k_201_74 : lk 201 74 = some (.iload 5, 76, 5, 0, .null) := by decide +kernel
theorem x_201_74 : Tr sc d 201 (74, [l0, l1, l2, l3, l4, some (.int x), l6], [], h) Q = Tr sc d 201 (76, [l0, l1, l2, l3, l4, some (.int x), l6], [.int x], h) Q := t_iload k_201_74 rfl
theorem k_201_76 : lk 201 76 = some (.aload_n 0, 77, 0, 0, .null) := by decide +kernel
theorem x_201_76 : Tr sc d 201 (76, [some (.ref xk), l1, l2, l3, l4, l5, l6], [.int i0], h) Q = Tr sc d 201 (77, [some (.ref xk), l1, l2, l3, l4, l5, l6], [.ref xk, .int i0], h) Q := t_aload_n k_201_76 rfl
theorem k_201_77 : lk 201 77 = some (.getfield 41, 80, 10, 18, .null) := by decide +kernel
theorem x_201_77 : Tr sc d 201 (77, [l0, l1, l2, l3, l4, l5, l6], [.ref k1, .int i0], h) Q = (okp h k1 10 = true ∧ ∃ q, hR h k1 18 = some q ∧ Tr sc d 201 (80, [l0, l1, l2, l3, l4, l5, l6], [.ref q, .int i0], h) Q) := t_getr k_201_77
theorem k_201_80 : lk 201 80 = some (.iload_n 1, 81, 1, 0, .null) := by decide +kernel
theorem x_201_80 : Tr sc d 201 (80, [l0, some (.int x), l2, l3, l4, l5, l6], [.ref k1, .int i0], h) Q = Tr sc d 201 (81, [l0, some (.int x), l2, l3, l4, l5, l6], [.int x, .ref k1, .int i0], h) Q := t_iload_n k_201_80 rfl
theorem k_201_81 : lk 201 81 = some (.iaload, 82, 0, 0, .null) := by decide +kernel
theorem x_201_81 : Tr sc d 201 (81, [l0, l1, l2, l3, l4, l5, l6], [.int i2, .ref k1, .int i0], h) Q = (iOk sc h k1 i2 ∧ Tr sc d 201 (82, [l0, l1, l2, l3, l4, l5, l6], [.int (iRd sc h k1 i2), .int i0], h) Q) := t_iald k_201_81
theorem k_201_82 : lk 201 82 = some (.if_icmp .ge 86, 85, 168, 0, .null) := by decide +kernel
theorem x_201_82 : Tr sc d 201 (82, [l0, l1, l2, l3, l4, l5, l6], [.int i1, .int i0], h) Q = if i1 ≤ i0 then Tr sc d 201 (168, [l0, l1, l2, l3, l4, l5, l6], [], h) Q else Tr sc d 201 (85, [l0, l1, l2, l3, l4, l5, l6], [], h) Q := t_if k_201_82 rfl
theorem k_201_85 : lk 201 85 = some (.aload_n 0, 86, 0, 0, .null) := by decide +kernel
theorem x_201_85 : Tr sc d 201 (85, [some (.ref xk), l1, l2, l3, l4, l5, l6], [], h) Q = Tr sc d 201 (86, [some (.ref xk), l1, l2, l3, l4, l5, l6], [.ref xk], h) Q := t_aload_n k_201_85 rfl
theorem k_201_86 : lk 201 86 = some (.dup, 87, 0, 0, .null) := by decide +kernel
theorem x_201_86 : Tr sc d 201 (86, [l0, l1, l2, l3, l4, l5, l6], [.ref k0], h) Q = Tr sc d 201 (87, [l0, l1, l2, l3, l4, l5, l6], [.ref k0, .ref k0], h) Q := t_go k_201_86 rfl
theorem k_201_87 : lk 201 87 = some (.getfield 267, 90, 10, 3, .long 0) := by decide +kernel
theorem x_201_87 : Tr sc d 201 (87, [l0, l1, l2, l3, l4, l5, l6], [.ref k1, .ref k0], h) Q = (okp h k1 10 = true ∧ Tr sc d 201 (90, [l0, l1, l2, l3, l4, l5, l6], [.long (hL h k1 3), .ref k0], h) Q) := t_gd k_201_87 rfl
theorem k_201_90 : lk 201 90 = some (.aload_n 0, 91, 0, 0, .null) := by decide +kernel
theorem x_201_90 : Tr sc d 201 (90, [some (.ref xk), l1, l2, l3, l4, l5, l6], [.long j1, .ref k0], h) Q = Tr sc d 201 (91, [some (.ref xk), l1, l2, l3, l4, l5, l6], [.ref xk, .long j1, .ref k0], h) Q := t_aload_n k_201_90 rfl
theorem k_201_91 : lk 201 91 = some (.getfield 56, 94, 10, 29, .null) := by decide +kernel
theorem x_201_91 : Tr sc d 201 (91, [l0, l1, l2, l3, l4, l5, l6], [.ref k2, .long j1, .ref k0], h) Q = (okp h k2 10 = true ∧ ∃ q, hR h k2 29 = some q ∧ Tr sc d 201 (94, [l0, l1, l2, l3, l4, l5, l6], [.ref q, .long j1, .ref k0], h) Q) := t_getr k_201_91
theorem k_201_94 : lk 201 94 = some (.iload 5, 96, 5, 0, .null) := by decide +kernel
theorem x_201_94 : Tr sc d 201 (94, [l0, l1, l2, l3, l4, some (.int x), l6], [.ref k2, .long j1, .ref k0], h) Q = Tr sc d 201 (96, [l0, l1, l2, l3, l4, some (.int x), l6], [.int x, .ref k2, .long j1, .ref k0], h) Q := t_iload k_201_94 rfl
theorem k_201_96 : lk 201 96 = some (.laload, 97, 0, 0, .null) := by decide +kernel
theorem x_201_96 : Tr sc d 201 (96, [l0, l1, l2, l3, l4, l5, l6], [.int i3, .ref k2, .long j1, .ref k0], h) Q = ((okp h k2 12 && inb i3 (LN k2)) = true ∧ Tr sc d 201 (97, [l0, l1, l2, l3, l4, l5, l6], [.long (hL h k2 i3.toNatClampNeg), .long j1, .ref k0], h) Q) := t_gd k_201_96 rfl
theorem k_201_97 : lk 201 97 = some (.ladd, 98, 0, 0, .null) := by decide +kernel
theorem x_201_97 : Tr sc d 201 (97, [l0, l1, l2, l3, l4, l5, l6], [.long j2, .long j1, .ref k0], h) Q = Tr sc d 201 (98, [l0, l1, l2, l3, l4, l5, l6], [.long (j1 + j2), .ref k0], h) Q := t_go k_201_97 rfl
theorem k_201_98 : lk 201 98 = some (.putfield 267, 101, 10, 3, .long 0) := by decide +kernel
theorem x_201_98 : Tr sc d 201 (98, [l0, l1, l2, l3, l4, l5, l6], [.long j1, .ref k0], h) Q = (okp h k0 10 = true ∧ Tr sc d 201 (101, [l0, l1, l2, l3, l4, l5, l6], [], (sL h k0 3 j1)) Q) := t_gd k_201_98 rfl
theorem k_201_101 : lk 201 101 = some (.aload_n 0, 102, 0, 0, .null) := by decide +kernel
theorem x_201_101 : Tr sc d 201 (101, [some (.ref xk), l1, l2, l3, l4, l5, l6], [], h) Q = Tr sc d 201 (102, [some (.ref xk), l1, l2, l3, l4, l5, l6], [.ref xk], h) Q := t_aload_n k_201_101 rfl
theorem k_201_102 : lk 201 102 = some (.getfield 60, 105, 10, 30, .null) := by decide +kernel
theorem x_201_102 : Tr sc d 201 (102, [l0, l1, l2, l3, l4, l5, l6], [.ref k0], h) Q = (okp h k0 10 = true ∧ ∃ q, hR h k0 30 = some q ∧ Tr sc d 201 (105, [l0, l1, l2, l3, l4, l5, l6], [.ref q], h) Q) := t_getr k_201_102
theorem k_201_105 : lk 201 105 = some (.iload 5, 107, 5, 0, .null) := by decide +kernel
theorem x_201_105 : Tr sc d 201 (105, [l0, l1, l2, l3, l4, some (.int x), l6], [.ref k0], h) Q = Tr sc d 201 (107, [l0, l1, l2, l3, l4, some (.int x), l6], [.int x, .ref k0], h) Q := t_iload k_201_105 rfl
theorem k_201_107 : lk 201 107 = some (.lconst 0, 108, 0, 0, .long 0) := by decide +kernel
theorem x_201_107 : Tr sc d 201 (107, [l0, l1, l2, l3, l4, l5, l6], [.int i1, .ref k0], h) Q = Tr sc d 201 (108, [l0, l1, l2, l3, l4, l5, l6], [.long 0, .int i1, .ref k0], h) Q := t_go k_201_107 rfl
theorem k_201_108 : lk 201 108 = some (.lastore, 109, 0, 0, .null) := by decide +kernel
theorem x_201_108 : Tr sc d 201 (108, [l0, l1, l2, l3, l4, l5, l6], [.long j2, .int i1, .ref k0], h) Q = ((okp h k0 12 && inb i1 (LN k0)) = true ∧ Tr sc d 201 (109, [l0, l1, l2, l3, l4, l5, l6], [], (sL h k0 i1.toNatClampNeg j2)) Q) := t_gd k_201_108 rfl
theorem k_201_109 : lk 201 109 = some (.iconst 0, 110, 0, 0, .int 0) := by decide +kernel
theorem x_201_109 : Tr sc d 201 (109, [l0, l1, l2, l3, l4, l5, l6], [], h) Q = Tr sc d 201 (110, [l0, l1, l2, l3, l4, l5, l6], [.int 0], h) Q := t_go k_201_109 rfl
theorem k_201_110 : lk 201 110 = some (.istore 6, 112, 6, 0, .null) := by decide +kernel
theorem x_201_110 : Tr sc d 201 (110, [l0, l1, l2, l3, l4, l5, l6], [.int i0], h) Q = Tr sc d 201 (112, [l0, l1, l2, l3, l4, cl2 l5, some (.int i0)], [], h) Q := t_istore k_201_110 (Nat.le_of_ble_eq_true rfl)
theorem k_201_112 : lk 201 112 = some (.iload 6, 114, 6, 0, .null) := by decide +kernel
theorem x_201_112 : Tr sc d 201 (112, [l0, l1, l2, l3, l4, l5, some (.int x)], [], h) Q = Tr sc d 201 (114, [l0, l1, l2, l3, l4, l5, some (.int x)], [.int x], h) Q := t_iload k_201_112 rfl
theorem k_201_114 : lk 201 114 = some (.aload_n 0, 115, 0, 0, .null) := by decide +kernel
theorem x_201_114 : Tr sc d 201 (114, [some (.ref xk), l1, l2, l3, l4, l5, l6], [.int i0], h) Q = Tr sc d 201 (115, [some (.ref xk), l1, l2, l3, l4, l5, l6], [.ref xk, .int i0], h) Q := t_aload_n k_201_114 rfl
theorem k_201_115 : lk 201 115 = some (.getfield 41, 118, 10, 18, .null) := by decide +kernel
theorem x_201_115 : Tr sc d 201 (115, [l0, l1, l2, l3, l4, l5, l6], [.ref k1, .int i0], h) Q = (okp h k1 10 = true ∧ ∃ q, hR h k1 18 = some q ∧ Tr sc d 201 (118, [l0, l1, l2, l3, l4, l5, l6], [.ref q, .int i0], h) Q) := t_getr k_201_115
theorem k_201_118 : lk 201 118 = some (.iload_n 1, 119, 1, 0, .null) := by decide +kernel
theorem x_201_118 : Tr sc d 201 (118, [l0, some (.int x), l2, l3, l4, l5, l6], [.ref k1, .int i0], h) Q = Tr sc d 201 (119, [l0, some (.int x), l2, l3, l4, l5, l6], [.int x, .ref k1, .int i0], h) Q := t_iload_n k_201_118 rfl
theorem k_201_119 : lk 201 119 = some (.iaload, 120, 0, 0, .null) := by decide +kernel
theorem x_201_119 : Tr sc d 201 (119, [l0, l1, l2, l3, l4, l5, l6], [.int i2, .ref k1, .int i0], h) Q = (iOk sc h k1 i2 ∧ Tr sc d 201 (120, [l0, l1, l2, l3, l4, l5, l6], [.int (iRd sc h k1 i2), .int i0], h) Q) := t_iald k_201_119
theorem k_201_120 : lk 201 120 = some (.if_icmp .ge 42, 123, 162, 0, .null) := by decide +kernel
theorem x_201_120 : Tr sc d 201 (120, [l0, l1, l2, l3, l4, l5, l6], [.int i1, .int i0], h) Q = if i1 ≤ i0 then Tr sc d 201 (162, [l0, l1, l2, l3, l4, l5, l6], [], h) Q else Tr sc d 201 (123, [l0, l1, l2, l3, l4, l5, l6], [], h) Q := t_if k_201_120 rfl
theorem k_201_123 : lk 201 123 = some (.aload_n 0, 124, 0, 0, .null) := by decide +kernel
theorem x_201_123 : Tr sc d 201 (123, [some (.ref xk), l1, l2, l3, l4, l5, l6], [], h) Q = Tr sc d 201 (124, [some (.ref xk), l1, l2, l3, l4, l5, l6], [.ref xk], h) Q := t_aload_n k_201_123 rfl
theorem k_201_124 : lk 201 124 = some (.getfield 60, 127, 10, 30, .null) := by decide +kernel
theorem x_201_124 : Tr sc d 201 (124, [l0, l1, l2, l3, l4, l5, l6], [.ref k0], h) Q = (okp h k0 10 = true ∧ ∃ q, hR h k0 30 = some q ∧ Tr sc d 201 (127, [l0, l1, l2, l3, l4, l5, l6], [.ref q], h) Q) := t_getr k_201_124
theorem k_201_127 : lk 201 127 = some (.iload 5, 129, 5, 0, .null) := by decide +kernel
theorem x_201_127 : Tr sc d 201 (127, [l0, l1, l2, l3, l4, some (.int x), l6], [.ref k0], h) Q = Tr sc d 201 (129, [l0, l1, l2, l3, l4, some (.int x), l6], [.int x, .ref k0], h) Q := t_iload k_201_127 rfl
theorem k_201_129 : lk 201 129 = some (.dup2, 130, 0, 0, .null) := by decide +kernel
theorem x_201_129 : Tr sc d 201 (129, [l0, l1, l2, l3, l4, l5, l6], [.int i1, .ref k0], h) Q = Tr sc d 201 (130, [l0, l1, l2, l3, l4, l5, l6], [.int i1, .ref k0, .int i1, .ref k0], h) Q := t_go k_201_129 rfl
theorem k_201_130 : lk 201 130 = some (.laload, 131, 0, 0, .null) := by decide +kernel
theorem x_201_130 : Tr sc d 201 (130, [l0, l1, l2, l3, l4, l5, l6], [.int i3, .ref k2, .int i1, .ref k0], h) Q = ((okp h k2 12 && inb i3 (LN k2)) = true ∧ Tr sc d 201 (131, [l0, l1, l2, l3, l4, l5, l6], [.long (hL h k2 i3.toNatClampNeg), .int i1, .ref k0], h) Q) := t_gd k_201_130 rfl
theorem k_201_131 : lk 201 131 = some (.aload_n 0, 132, 0, 0, .null) := by decide +kernel
theorem x_201_131 : Tr sc d 201 (131, [some (.ref xk), l1, l2, l3, l4, l5, l6], [.long j2, .int i1, .ref k0], h) Q = Tr sc d 201 (132, [some (.ref xk), l1, l2, l3, l4, l5, l6], [.ref xk, .long j2, .int i1, .ref k0], h) Q := t_aload_n k_201_131 rfl
theorem k_201_132 : lk 201 132 = some (.iload_n 1, 133, 1, 0, .null) := by decide +kernel
theorem x_201_132 : Tr sc d 201 (132, [l0, some (.int x), l2, l3, l4, l5, l6], [.ref k3, .long j2, .int i1, .ref k0], h) Q = Tr sc d 201 (133, [l0, some (.int x), l2, l3, l4, l5, l6], [.int x, .ref k3, .long j2, .int i1, .ref k0], h) Q := t_iload_n k_201_132 rfl
theorem k_201_133 : lk 201 133 = some (.iload 5, 135, 5, 0, .null) := by decide +kernel
theorem x_201_133 : Tr sc d 201 (133, [l0, l1, l2, l3, l4, some (.int x), l6], [.int i4, .ref k3, .long j2, .int i1, .ref k0], h) Q = Tr sc d 201 (135, [l0, l1, l2, l3, l4, some (.int x), l6], [.int x, .int i4, .ref k3, .long j2, .int i1, .ref k0], h) Q := t_iload k_201_133 rfl
theorem k_201_135 : lk 201 135 = some (.iload 6, 137, 6, 0, .null) := by decide +kernel
theorem x_201_135 : Tr sc d 201 (135, [l0, l1, l2, l3, l4, l5, some (.int x)], [.int i5, .int i4, .ref k3, .long j2, .int i1, .ref k0], h) Q = Tr sc d 201 (137, [l0, l1, l2, l3, l4, l5, some (.int x)], [.int x, .int i5, .int i4, .ref k3, .long j2, .int i1, .ref k0], h) Q := t_iload k_201_135 rfl
theorem k_201_137 : lk 201 137 = some (.invokevirtual 203, 140, 187, 3, .null) := by decide +kernel
theorem x_201_137 : Tr sc (d + 1) 201 (137, [l0, l1, l2, l3, l4, l5, l6], [.int i6, .int i5, .int i4, .ref k3, .long j2, .int i1, .ref k0], h) Q = (okp h k3 10 = true ∧ Tr sc d 187 (ent0 187 [.ref k3, .int i4, .int i5, .int i6] h) (fun z => Tr sc (d + 1) 201 (140, [l0, l1, l2, l3, l4, l5, l6], z.1.toList ++ [.long j2, .int i1, .ref k0], z.2) Q)) := t_cv (as := [.int i4, .int i5, .int i6]) (r := [.long j2, .int i1, .ref k0]) k_201_137 rfl rfl (Nat.le_of_ble_eq_true rfl) (Nat.le_of_ble_eq_true rfl) (Nat.le_of_ble_eq_true rfl)
theorem k_201_140 : lk 201 140 = some (.ifCond .eq 7, 143, 147, 0, .null) := by decide +kernel
theorem x_201_140 : Tr sc d 201 (140, [l0, l1, l2, l3, l4, l5, l6], [.int i3, .long j2, .int i1, .ref k0], h) Q = if i3 = 0 then Tr sc d 201 (147, [l0, l1, l2, l3, l4, l5, l6], [.long j2, .int i1, .ref k0], h) Q else Tr sc d 201 (143, [l0, l1, l2, l3, l4, l5, l6], [.long j2, .int i1, .ref k0], h) Q := t_if k_201_140 rfl
theorem k_201_143 : lk 201 143 = some (.lconst 0, 144, 0, 0, .long 0) := by decide +kernel
theorem x_201_143 : Tr sc d 201 (143, [l0, l1, l2, l3, l4, l5, l6], [.long j2, .int i1, .ref k0], h) Q = Tr sc d 201 (144, [l0, l1, l2, l3, l4, l5, l6], [.long 0, .long j2, .int i1, .ref k0], h) Q := t_go k_201_143 rfl
theorem k_201_144 : lk 201 144 = some (.goto 10, 147, 154, 0, .null) := by decide +kernel
theorem x_201_144 : Tr sc d 201 (144, [l0, l1, l2, l3, l4, l5, l6], [.long j3, .long j2, .int i1, .ref k0], h) Q = Tr sc d 201 (154, [l0, l1, l2, l3, l4, l5, l6], [.long j3, .long j2, .int i1, .ref k0], h) Q := t_go k_201_144 rfl
theorem k_201_147 : lk 201 147 = some (.aload_n 0, 148, 0, 0, .null) := by decide +kernel
theorem x_201_147 : Tr sc d 201 (147, [some (.ref xk), l1, l2, l3, l4, l5, l6], [.long j2, .int i1, .ref k0], h) Q = Tr sc d 201 (148, [some (.ref xk), l1, l2, l3, l4, l5, l6], [.ref xk, .long j2, .int i1, .ref k0], h) Q := t_aload_n k_201_147 rfl
theorem k_201_148 : lk 201 148 = some (.getfield 56, 151, 10, 29, .null) := by decide +kernel
theorem x_201_148 : Tr sc d 201 (148, [l0, l1, l2, l3, l4, l5, l6], [.ref k3, .long j2, .int i1, .ref k0], h) Q = (okp h k3 10 = true ∧ ∃ q, hR h k3 29 = some q ∧ Tr sc d 201 (151, [l0, l1, l2, l3, l4, l5, l6], [.ref q, .long j2, .int i1, .ref k0], h) Q) := t_getr k_201_148
theorem k_201_151 : lk 201 151 = some (.iload 6, 153, 6, 0, .null) := by decide +kernel
theorem x_201_151 : Tr sc d 201 (151, [l0, l1, l2, l3, l4, l5, some (.int x)], [.ref k3, .long j2, .int i1, .ref k0], h) Q = Tr sc d 201 (153, [l0, l1, l2, l3, l4, l5, some (.int x)], [.int x, .ref k3, .long j2, .int i1, .ref k0], h) Q := t_iload k_201_151 rfl
theorem k_201_153 : lk 201 153 = some (.laload, 154, 0, 0, .null) := by decide +kernel
theorem x_201_153 : Tr sc d 201 (153, [l0, l1, l2, l3, l4, l5, l6], [.int i4, .ref k3, .long j2, .int i1, .ref k0], h) Q = ((okp h k3 12 && inb i4 (LN k3)) = true ∧ Tr sc d 201 (154, [l0, l1, l2, l3, l4, l5, l6], [.long (hL h k3 i4.toNatClampNeg), .long j2, .int i1, .ref k0], h) Q) := t_gd k_201_153 rfl
theorem k_201_154 : lk 201 154 = some (.ladd, 155, 0, 0, .null) := by decide +kernel
theorem x_201_154 : Tr sc d 201 (154, [l0, l1, l2, l3, l4, l5, l6], [.long j3, .long j2, .int i1, .ref k0], h) Q = Tr sc d 201 (155, [l0, l1, l2, l3, l4, l5, l6], [.long (j2 + j3), .int i1, .ref k0], h) Q := t_go k_201_154 rfl
theorem k_201_155 : lk 201 155 = some (.lastore, 156, 0, 0, .null) := by decide +kernel
theorem x_201_155 : Tr sc d 201 (155, [l0, l1, l2, l3, l4, l5, l6], [.long j2, .int i1, .ref k0], h) Q = ((okp h k0 12 && inb i1 (LN k0)) = true ∧ Tr sc d 201 (156, [l0, l1, l2, l3, l4, l5, l6], [], (sL h k0 i1.toNatClampNeg j2)) Q) := t_gd k_201_155 rfl
theorem k_201_156 : lk 201 156 = some (.iinc 6 1, 159, 6, 0, .int 1) := by decide +kernel
theorem x_201_156 : Tr sc d 201 (156, [l0, l1, l2, l3, l4, l5, some (.int x)], [], h) Q = Tr sc d 201 (159, [l0, l1, l2, l3, l4, cl2 l5, some (.int (x + 1))], [], h) Q := t_inc k_201_156 rfl (Nat.le_of_ble_eq_true rfl)
theorem k_201_159 : lk 201 159 = some (.goto (-47), 162, 112, 0, .null) := by decide +kernel
theorem x_201_159 : Tr sc d 201 (159, [l0, l1, l2, l3, l4, l5, l6], [], h) Q = Tr sc d 201 (112, [l0, l1, l2, l3, l4, l5, l6], [], h) Q := t_go k_201_159 rfl
theorem k_201_162 : lk 201 162 = some (.iinc 5 1, 165, 5, 0, .int 1) := by decide +kernel
theorem x_201_162 : Tr sc d 201 (162, [l0, l1, l2, l3, l4, some (.int x), l6], [], h) Q = Tr sc d 201 (165, [l0, l1, l2, l3, cl2 l4, some (.int (x + 1)), l6], [], h) Q := t_inc k_201_162 rfl (Nat.le_of_ble_eq_true rfl)
theorem k_201_165 : lk 201 165 = some (.goto (-91), 168, 74, 0, .null) := by decide +kernel
theorem x_201_165 : Tr sc d 201 (165, [l0, l1, l2, l3, l4, l5, l6], [], h) Q = Tr sc d 201 (74, [l0, l1, l2, l3, l4, l5, l6], [], h) Q := t_go k_201_165 rfl
theorem k_201_168 : lk 201 168 = some (.iconst 0, 169, 0, 0, .int 0) := by decide +kernel
theorem x_201_168 : Tr sc d 201 (168, [l0, l1, l2, l3, l4, l5, l6], [], h) Q = Tr sc d 201 (169, [l0, l1, l2, l3, l4, l5, l6], [.int 0], h) Q := t_go k_201_168 rfl
theorem k_201_169 : lk 201 169 = some (.istore 5, 171, 5, 0, .null) := by decide +kernel
theorem x_201_169 : Tr sc d 201 (169, [l0, l1, l2, l3, l4, l5, l6], [.int i0], h) Q = Tr sc d 201 (171, [l0, l1, l2, l3, cl2 l4, some (.int i0), l6], [], h) Q := t_istore k_201_169 (Nat.le_of_ble_eq_true rfl)
theorem k_201_171 : lk 201 171 = some (.iload 5, 173, 5, 0, .null) := by decide +kernel
theorem x_201_171 : Tr sc d 201 (171, [l0, l1, l2, l3, l4, some (.int x), l6], [], h) Q = Tr sc d 201 (173, [l0, l1, l2, l3, l4, some (.int x), l6], [.int x], h) Q := t_iload k_201_171 rfl
theorem k_201_173 : lk 201 173 = some (.aload_n 0, 174, 0, 0, .null) := by decide +kernel
theorem x_201_173 : Tr sc d 201 (173, [some (.ref xk), l1, l2, l3, l4, l5, l6], [.int i0], h) Q = Tr sc d 201 (174, [some (.ref xk), l1, l2, l3, l4, l5, l6], [.ref xk, .int i0], h) Q := t_aload_n k_201_173 rfl
theorem k_201_174 : lk 201 174 = some (.getfield 41, 177, 10, 18, .null) := by decide +kernel
theorem x_201_174 : Tr sc d 201 (174, [l0, l1, l2, l3, l4, l5, l6], [.ref k1, .int i0], h) Q = (okp h k1 10 = true ∧ ∃ q, hR h k1 18 = some q ∧ Tr sc d 201 (177, [l0, l1, l2, l3, l4, l5, l6], [.ref q, .int i0], h) Q) := t_getr k_201_174
theorem k_201_177 : lk 201 177 = some (.iload_n 1, 178, 1, 0, .null) := by decide +kernel
theorem x_201_177 : Tr sc d 201 (177, [l0, some (.int x), l2, l3, l4, l5, l6], [.ref k1, .int i0], h) Q = Tr sc d 201 (178, [l0, some (.int x), l2, l3, l4, l5, l6], [.int x, .ref k1, .int i0], h) Q := t_iload_n k_201_177 rfl
theorem k_201_178 : lk 201 178 = some (.iaload, 179, 0, 0, .null) := by decide +kernel
theorem x_201_178 : Tr sc d 201 (178, [l0, l1, l2, l3, l4, l5, l6], [.int i2, .ref k1, .int i0], h) Q = (iOk sc h k1 i2 ∧ Tr sc d 201 (179, [l0, l1, l2, l3, l4, l5, l6], [.int (iRd sc h k1 i2), .int i0], h) Q) := t_iald k_201_178
theorem k_201_179 : lk 201 179 = some (.if_icmp .ge 23, 182, 202, 0, .null) := by decide +kernel
theorem x_201_179 : Tr sc d 201 (179, [l0, l1, l2, l3, l4, l5, l6], [.int i1, .int i0], h) Q = if i1 ≤ i0 then Tr sc d 201 (202, [l0, l1, l2, l3, l4, l5, l6], [], h) Q else Tr sc d 201 (182, [l0, l1, l2, l3, l4, l5, l6], [], h) Q := t_if k_201_179 rfl
theorem k_201_182 : lk 201 182 = some (.aload_n 0, 183, 0, 0, .null) := by decide +kernel
theorem x_201_182 : Tr sc d 201 (182, [some (.ref xk), l1, l2, l3, l4, l5, l6], [], h) Q = Tr sc d 201 (183, [some (.ref xk), l1, l2, l3, l4, l5, l6], [.ref xk], h) Q := t_aload_n k_201_182 rfl
theorem k_201_183 : lk 201 183 = some (.getfield 56, 186, 10, 29, .null) := by decide +kernel
theorem x_201_183 : Tr sc d 201 (183, [l0, l1, l2, l3, l4, l5, l6], [.ref k0], h) Q = (okp h k0 10 = true ∧ ∃ q, hR h k0 29 = some q ∧ Tr sc d 201 (186, [l0, l1, l2, l3, l4, l5, l6], [.ref q], h) Q) := t_getr k_201_183
theorem k_201_186 : lk 201 186 = some (.iload 5, 188, 5, 0, .null) := by decide +kernel
theorem x_201_186 : Tr sc d 201 (186, [l0, l1, l2, l3, l4, some (.int x), l6], [.ref k0], h) Q = Tr sc d 201 (188, [l0, l1, l2, l3, l4, some (.int x), l6], [.int x, .ref k0], h) Q := t_iload k_201_186 rfl
theorem k_201_188 : lk 201 188 = some (.aload_n 0, 189, 0, 0, .null) := by decide +kernel
theorem x_201_188 : Tr sc d 201 (188, [some (.ref xk), l1, l2, l3, l4, l5, l6], [.int i1, .ref k0], h) Q = Tr sc d 201 (189, [some (.ref xk), l1, l2, l3, l4, l5, l6], [.ref xk, .int i1, .ref k0], h) Q := t_aload_n k_201_188 rfl
theorem k_201_189 : lk 201 189 = some (.getfield 60, 192, 10, 30, .null) := by decide +kernel
theorem x_201_189 : Tr sc d 201 (189, [l0, l1, l2, l3, l4, l5, l6], [.ref k2, .int i1, .ref k0], h) Q = (okp h k2 10 = true ∧ ∃ q, hR h k2 30 = some q ∧ Tr sc d 201 (192, [l0, l1, l2, l3, l4, l5, l6], [.ref q, .int i1, .ref k0], h) Q) := t_getr k_201_189
theorem k_201_192 : lk 201 192 = some (.iload 5, 194, 5, 0, .null) := by decide +kernel
theorem x_201_192 : Tr sc d 201 (192, [l0, l1, l2, l3, l4, some (.int x), l6], [.ref k2, .int i1, .ref k0], h) Q = Tr sc d 201 (194, [l0, l1, l2, l3, l4, some (.int x), l6], [.int x, .ref k2, .int i1, .ref k0], h) Q := t_iload k_201_192 rfl
theorem k_201_194 : lk 201 194 = some (.laload, 195, 0, 0, .null) := by decide +kernel
theorem x_201_194 : Tr sc d 201 (194, [l0, l1, l2, l3, l4, l5, l6], [.int i3, .ref k2, .int i1, .ref k0], h) Q = ((okp h k2 12 && inb i3 (LN k2)) = true ∧ Tr sc d 201 (195, [l0, l1, l2, l3, l4, l5, l6], [.long (hL h k2 i3.toNatClampNeg), .int i1, .ref k0], h) Q) := t_gd k_201_194 rfl
theorem k_201_195 : lk 201 195 = some (.lastore, 196, 0, 0, .null) := by decide +kernel
theorem x_201_195 : Tr sc d 201 (195, [l0, l1, l2, l3, l4, l5, l6], [.long j2, .int i1, .ref k0], h) Q = ((okp h k0 12 && inb i1 (LN k0)) = true ∧ Tr sc d 201 (196, [l0, l1, l2, l3, l4, l5, l6], [], (sL h k0 i1.toNatClampNeg j2)) Q) := t_gd k_201_195 rfl
theorem k_201_196 : lk 201 196 = some (.iinc 5 1, 199, 5, 0, .int 1) := by decide +kernel
theorem x_201_196 : Tr sc d 201 (196, [l0, l1, l2, l3, l4, some (.int x), l6], [], h) Q = Tr sc d 201 (199, [l0, l1, l2, l3, cl2 l4, some (.int (x + 1)), l6], [], h) Q := t_inc k_201_196 rfl (Nat.le_of_ble_eq_true rfl)
theorem k_201_199 : lk 201 199 = some (.goto (-28), 202, 171, 0, .null) := by decide +kernel
theorem x_201_199 : Tr sc d 201 (199, [l0, l1, l2, l3, l4, l5, l6], [], h) Q = Tr sc d 201 (171, [l0, l1, l2, l3, l4, l5, l6], [], h) Q := t_go k_201_199 rfl
theorem k_201_202 : lk 201 202 = some (.iinc 4 1, 205, 4, 0, .int 1) := by decide +kernel
theorem x_201_202 : Tr sc d 201 (202, [l0, l1, l2, l3, some (.int x), l5, l6], [], h) Q = Tr sc d 201 (205, [l0, l1, l2, cl2 l3, some (.int (x + 1)), l5, l6], [], h) Q := t_inc k_201_202 rfl (Nat.le_of_ble_eq_true rfl)
theorem k_201_205 : lk 201 205 = some (.goto (-145), 208, 60, 0, .null) := by decide +kernel
theorem x_201_205 : Tr sc d 201 (205, [l0, l1, l2, l3, l4, l5, l6], [], h) Q = Tr sc d 201 (60, [l0, l1, l2, l3, l4, l5, l6], [], h) Q := t_go k_201_205 rfl
theorem k_201_208 : lk 201 208 = some (.iconst 1, 209, 0, 0, .int 1) := by decide +kernel
theorem x_201_208 : Tr sc d 201 (208, [l0, l1, l2, l3, l4, l5, l6], [], h) Q = Tr sc d 201 (209, [l0, l1, l2, l3, l4, l5, l6], [.int 1], h) Q := t_go k_201_208 rfl
theorem k_201_209 : lk 201 209 = some (.ireturn, 210, 0, 0, .null) := by decide +kernel
theorem x_201_209 : Tr sc d 201 (209, [l0, l1, l2, l3, l4, l5, l6], [.int i0], h) Q = Q (some (.int i0), h) := t_ret k_201_209 (by rw [r_201]; rfl)
theorem e_201 : Tr sc d 201 (ent0 201 [.ref k0, .int i1, .int i2] h) Q = Tr sc d 201 (0, [some (.ref k0), some (.int i1), some (.int i2), none, none, none, none], [], h) Q := by
  have e : mL 201 = 7 := by decide +kernel
  unfold ent0
  rw [e]
  rfl
theorem r_202 : mR 202 = none := by decide +kernel
theorem k_202_0 : lk 202 0 = some (.aload_n 0, 1, 0, 0, .null) := by decide +kernel
theorem x_202_0 : Tr sc d 202 (0, [some (.ref xk), l1, l2, l3, l4, l5, l6, l7, l8, l9, l10, l11, l12, l13, l14], [], h) Q = Tr sc d 202 (1, [some (.ref xk), l1, l2, l3, l4, l5, l6, l7, l8, l9, l10, l11, l12, l13, l14], [.ref xk], h) Q := t_aload_n k_202_0 rfl
theorem k_202_1 : lk 202 1 = some (.iconst 1, 2, 0, 0, .int 1) := by decide +kernel
theorem x_202_1 : Tr sc d 202 (1, [l0, l1, l2, l3, l4, l5, l6, l7, l8, l9, l10, l11, l12, l13, l14], [.ref k0], h) Q = Tr sc d 202 (2, [l0, l1, l2, l3, l4, l5, l6, l7, l8, l9, l10, l11, l12, l13, l14], [.int 1, .ref k0], h) Q := t_go k_202_1 rfl
theorem k_202_2 : lk 202 2 = some (.putfield 270, 5, 10, 31, .int 0) := by decide +kernel
theorem x_202_2 : Tr sc d 202 (2, [l0, l1, l2, l3, l4, l5, l6, l7, l8, l9, l10, l11, l12, l13, l14], [.int i1, .ref k0], h) Q = (okp h k0 10 = true ∧ Tr sc d 202 (5, [l0, l1, l2, l3, l4, l5, l6, l7, l8, l9, l10, l11, l12, l13, l14], [], (sI h k0 31 i1)) Q) := t_gd k_202_2 rfl
theorem k_202_5 : lk 202 5 = some (.aload_n 0, 6, 0, 0, .null) := by decide +kernel
theorem x_202_5 : Tr sc d 202 (5, [some (.ref xk), l1, l2, l3, l4, l5, l6, l7, l8, l9, l10, l11, l12, l13, l14], [], h) Q = Tr sc d 202 (6, [some (.ref xk), l1, l2, l3, l4, l5, l6, l7, l8, l9, l10, l11, l12, l13, l14], [.ref xk], h) Q := t_aload_n k_202_5 rfl
theorem k_202_6 : lk 202 6 = some (.getfield 63, 9, 10, 32, .null) := by decide +kernel
theorem x_202_6 : Tr sc d 202 (6, [l0, l1, l2, l3, l4, l5, l6, l7, l8, l9, l10, l11, l12, l13, l14], [.ref k0], h) Q = (okp h k0 10 = true ∧ ∃ q, hR h k0 32 = some q ∧ Tr sc d 202 (9, [l0, l1, l2, l3, l4, l5, l6, l7, l8, l9, l10, l11, l12, l13, l14], [.ref q], h) Q) := t_getr k_202_6
theorem k_202_9 : lk 202 9 = some (.iconst 0, 10, 0, 0, .int 0) := by decide +kernel
theorem x_202_9 : Tr sc d 202 (9, [l0, l1, l2, l3, l4, l5, l6, l7, l8, l9, l10, l11, l12, l13, l14], [.ref k0], h) Q = Tr sc d 202 (10, [l0, l1, l2, l3, l4, l5, l6, l7, l8, l9, l10, l11, l12, l13, l14], [.int 0, .ref k0], h) Q := t_go k_202_9 rfl
theorem k_202_10 : lk 202 10 = some (.iconst 0, 11, 0, 0, .int 0) := by decide +kernel
theorem x_202_10 : Tr sc d 202 (10, [l0, l1, l2, l3, l4, l5, l6, l7, l8, l9, l10, l11, l12, l13, l14], [.int i1, .ref k0], h) Q = Tr sc d 202 (11, [l0, l1, l2, l3, l4, l5, l6, l7, l8, l9, l10, l11, l12, l13, l14], [.int 0, .int i1, .ref k0], h) Q := t_go k_202_10 rfl
theorem k_202_11 : lk 202 11 = some (.iastore, 12, 0, 0, .null) := by decide +kernel
theorem x_202_11 : Tr sc d 202 (11, [l0, l1, l2, l3, l4, l5, l6, l7, l8, l9, l10, l11, l12, l13, l14], [.int i2, .int i1, .ref k0], h) Q = ((okp h k0 11 && inb i1 (LN k0)) = true ∧ Tr sc d 202 (12, [l0, l1, l2, l3, l4, l5, l6, l7, l8, l9, l10, l11, l12, l13, l14], [], (sI h k0 i1.toNatClampNeg i2)) Q) := t_gd k_202_11 rfl
theorem k_202_12 : lk 202 12 = some (.aload_n 0, 13, 0, 0, .null) := by decide +kernel
theorem x_202_12 : Tr sc d 202 (12, [some (.ref xk), l1, l2, l3, l4, l5, l6, l7, l8, l9, l10, l11, l12, l13, l14], [], h) Q = Tr sc d 202 (13, [some (.ref xk), l1, l2, l3, l4, l5, l6, l7, l8, l9, l10, l11, l12, l13, l14], [.ref xk], h) Q := t_aload_n k_202_12 rfl
theorem k_202_13 : lk 202 13 = some (.getfield 66, 16, 10, 33, .null) := by decide +kernel
theorem x_202_13 : Tr sc d 202 (13, [l0, l1, l2, l3, l4, l5, l6, l7, l8, l9, l10, l11, l12, l13, l14], [.ref k0], h) Q = (okp h k0 10 = true ∧ ∃ q, hR h k0 33 = some q ∧ Tr sc d 202 (16, [l0, l1, l2, l3, l4, l5, l6, l7, l8, l9, l10, l11, l12, l13, l14], [.ref q], h) Q) := t_getr k_202_13
theorem k_202_16 : lk 202 16 = some (.iconst 0, 17, 0, 0, .int 0) := by decide +kernel
theorem x_202_16 : Tr sc d 202 (16, [l0, l1, l2, l3, l4, l5, l6, l7, l8, l9, l10, l11, l12, l13, l14], [.ref k0], h) Q = Tr sc d 202 (17, [l0, l1, l2, l3, l4, l5, l6, l7, l8, l9, l10, l11, l12, l13, l14], [.int 0, .ref k0], h) Q := t_go k_202_16 rfl
theorem k_202_17 : lk 202 17 = some (.iconst 0, 18, 0, 0, .int 0) := by decide +kernel
theorem x_202_17 : Tr sc d 202 (17, [l0, l1, l2, l3, l4, l5, l6, l7, l8, l9, l10, l11, l12, l13, l14], [.int i1, .ref k0], h) Q = Tr sc d 202 (18, [l0, l1, l2, l3, l4, l5, l6, l7, l8, l9, l10, l11, l12, l13, l14], [.int 0, .int i1, .ref k0], h) Q := t_go k_202_17 rfl
theorem k_202_18 : lk 202 18 = some (.iastore, 19, 0, 0, .null) := by decide +kernel
theorem x_202_18 : Tr sc d 202 (18, [l0, l1, l2, l3, l4, l5, l6, l7, l8, l9, l10, l11, l12, l13, l14], [.int i2, .int i1, .ref k0], h) Q = ((okp h k0 11 && inb i1 (LN k0)) = true ∧ Tr sc d 202 (19, [l0, l1, l2, l3, l4, l5, l6, l7, l8, l9, l10, l11, l12, l13, l14], [], (sI h k0 i1.toNatClampNeg i2)) Q) := t_gd k_202_18 rfl
theorem k_202_19 : lk 202 19 = some (.aload_n 0, 20, 0, 0, .null) := by decide +kernel
theorem x_202_19 : Tr sc d 202 (19, [some (.ref xk), l1, l2, l3, l4, l5, l6, l7, l8, l9, l10, l11, l12, l13, l14], [], h) Q = Tr sc d 202 (20, [some (.ref xk), l1, l2, l3, l4, l5, l6, l7, l8, l9, l10, l11, l12, l13, l14], [.ref xk], h) Q := t_aload_n k_202_19 rfl
theorem k_202_20 : lk 202 20 = some (.getfield 69, 23, 10, 34, .null) := by decide +kernel
theorem x_202_20 : Tr sc d 202 (20, [l0, l1, l2, l3, l4, l5, l6, l7, l8, l9, l10, l11, l12, l13, l14], [.ref k0], h) Q = (okp h k0 10 = true ∧ ∃ q, hR h k0 34 = some q ∧ Tr sc d 202 (23, [l0, l1, l2, l3, l4, l5, l6, l7, l8, l9, l10, l11, l12, l13, l14], [.ref q], h) Q) := t_getr k_202_20
theorem k_202_23 : lk 202 23 = some (.iconst 0, 24, 0, 0, .int 0) := by decide +kernel
theorem x_202_23 : Tr sc d 202 (23, [l0, l1, l2, l3, l4, l5, l6, l7, l8, l9, l10, l11, l12, l13, l14], [.ref k0], h) Q = Tr sc d 202 (24, [l0, l1, l2, l3, l4, l5, l6, l7, l8, l9, l10, l11, l12, l13, l14], [.int 0, .ref k0], h) Q := t_go k_202_23 rfl
theorem k_202_24 : lk 202 24 = some (.bipush (-9), 26, 0, 0, .int (-9)) := by decide +kernel
theorem x_202_24 : Tr sc d 202 (24, [l0, l1, l2, l3, l4, l5, l6, l7, l8, l9, l10, l11, l12, l13, l14], [.int i1, .ref k0], h) Q = Tr sc d 202 (26, [l0, l1, l2, l3, l4, l5, l6, l7, l8, l9, l10, l11, l12, l13, l14], [.int (-9), .int i1, .ref k0], h) Q := t_go k_202_24 rfl
theorem k_202_26 : lk 202 26 = some (.iastore, 27, 0, 0, .null) := by decide +kernel
theorem x_202_26 : Tr sc d 202 (26, [l0, l1, l2, l3, l4, l5, l6, l7, l8, l9, l10, l11, l12, l13, l14], [.int i2, .int i1, .ref k0], h) Q = ((okp h k0 11 && inb i1 (LN k0)) = true ∧ Tr sc d 202 (27, [l0, l1, l2, l3, l4, l5, l6, l7, l8, l9, l10, l11, l12, l13, l14], [], (sI h k0 i1.toNatClampNeg i2)) Q) := t_gd k_202_26 rfl
theorem k_202_27 : lk 202 27 = some (.aload_n 0, 28, 0, 0, .null) := by decide +kernel
theorem x_202_27 : Tr sc d 202 (27, [some (.ref xk), l1, l2, l3, l4, l5, l6, l7, l8, l9, l10, l11, l12, l13, l14], [], h) Q = Tr sc d 202 (28, [some (.ref xk), l1, l2, l3, l4, l5, l6, l7, l8, l9, l10, l11, l12, l13, l14], [.ref xk], h) Q := t_aload_n k_202_27 rfl
theorem k_202_28 : lk 202 28 = some (.getfield 72, 31, 10, 35, .null) := by decide +kernel
theorem x_202_28 : Tr sc d 202 (28, [l0, l1, l2, l3, l4, l5, l6, l7, l8, l9, l10, l11, l12, l13, l14], [.ref k0], h) Q = (okp h k0 10 = true ∧ ∃ q, hR h k0 35 = some q ∧ Tr sc d 202 (31, [l0, l1, l2, l3, l4, l5, l6, l7, l8, l9, l10, l11, l12, l13, l14], [.ref q], h) Q) := t_getr k_202_28
theorem k_202_31 : lk 202 31 = some (.iconst 0, 32, 0, 0, .int 0) := by decide +kernel
theorem x_202_31 : Tr sc d 202 (31, [l0, l1, l2, l3, l4, l5, l6, l7, l8, l9, l10, l11, l12, l13, l14], [.ref k0], h) Q = Tr sc d 202 (32, [l0, l1, l2, l3, l4, l5, l6, l7, l8, l9, l10, l11, l12, l13, l14], [.int 0, .ref k0], h) Q := t_go k_202_31 rfl
theorem k_202_32 : lk 202 32 = some (.lconst 1, 33, 0, 0, .long 1) := by decide +kernel
theorem x_202_32 : Tr sc d 202 (32, [l0, l1, l2, l3, l4, l5, l6, l7, l8, l9, l10, l11, l12, l13, l14], [.int i1, .ref k0], h) Q = Tr sc d 202 (33, [l0, l1, l2, l3, l4, l5, l6, l7, l8, l9, l10, l11, l12, l13, l14], [.long 1, .int i1, .ref k0], h) Q := t_go k_202_32 rfl
theorem k_202_33 : lk 202 33 = some (.lastore, 34, 0, 0, .null) := by decide +kernel
theorem x_202_33 : Tr sc d 202 (33, [l0, l1, l2, l3, l4, l5, l6, l7, l8, l9, l10, l11, l12, l13, l14], [.long j2, .int i1, .ref k0], h) Q = ((okp h k0 12 && inb i1 (LN k0)) = true ∧ Tr sc d 202 (34, [l0, l1, l2, l3, l4, l5, l6, l7, l8, l9, l10, l11, l12, l13, l14], [], (sL h k0 i1.toNatClampNeg j2)) Q) := t_gd k_202_33 rfl
theorem k_202_34 : lk 202 34 = some (.iconst 1, 35, 0, 0, .int 1) := by decide +kernel
theorem x_202_34 : Tr sc d 202 (34, [l0, l1, l2, l3, l4, l5, l6, l7, l8, l9, l10, l11, l12, l13, l14], [], h) Q = Tr sc d 202 (35, [l0, l1, l2, l3, l4, l5, l6, l7, l8, l9, l10, l11, l12, l13, l14], [.int 1], h) Q := t_go k_202_34 rfl
theorem k_202_35 : lk 202 35 = some (.istore_n 3, 36, 3, 0, .null) := by decide +kernel
theorem x_202_35 : Tr sc d 202 (35, [l0, l1, l2, l3, l4, l5, l6, l7, l8, l9, l10, l11, l12, l13, l14], [.int i0], h) Q = Tr sc d 202 (36, [l0, l1, cl2 l2, some (.int i0), l4, l5, l6, l7, l8, l9, l10, l11, l12, l13, l14], [], h) Q := t_istore_n k_202_35 (Nat.le_of_ble_eq_true rfl)
theorem k_202_36 : lk 202 36 = some (.iconst 0, 37, 0, 0, .int 0) := by decide +kernel
theorem x_202_36 : Tr sc d 202 (36, [l0, l1, l2, l3, l4, l5, l6, l7, l8, l9, l10, l11, l12, l13, l14], [], h) Q = Tr sc d 202 (37, [l0, l1, l2, l3, l4, l5, l6, l7, l8, l9, l10, l11, l12, l13, l14], [.int 0], h) Q := t_go k_202_36 rfl
theorem k_202_37 : lk 202 37 = some (.istore 4, 39, 4, 0, .null) := by decide +kernel
theorem x_202_37 : Tr sc d 202 (37, [l0, l1, l2, l3, l4, l5, l6, l7, l8, l9, l10, l11, l12, l13, l14], [.int i0], h) Q = Tr sc d 202 (39, [l0, l1, l2, cl2 l3, some (.int i0), l5, l6, l7, l8, l9, l10, l11, l12, l13, l14], [], h) Q := t_istore k_202_37 (Nat.le_of_ble_eq_true rfl)
theorem k_202_39 : lk 202 39 = some (.iload 4, 41, 4, 0, .null) := by decide +kernel
theorem x_202_39 : Tr sc d 202 (39, [l0, l1, l2, l3, some (.int x), l5, l6, l7, l8, l9, l10, l11, l12, l13, l14], [], h) Q = Tr sc d 202 (41, [l0, l1, l2, l3, some (.int x), l5, l6, l7, l8, l9, l10, l11, l12, l13, l14], [.int x], h) Q := t_iload k_202_39 rfl
theorem k_202_41 : lk 202 41 = some (.iload_n 2, 42, 2, 0, .null) := by decide +kernel
theorem x_202_41 : Tr sc d 202 (41, [l0, l1, some (.int x), l3, l4, l5, l6, l7, l8, l9, l10, l11, l12, l13, l14], [.int i0], h) Q = Tr sc d 202 (42, [l0, l1, some (.int x), l3, l4, l5, l6, l7, l8, l9, l10, l11, l12, l13, l14], [.int x, .int i0], h) Q := t_iload_n k_202_41 rfl
theorem k_202_42 : lk 202 42 = some (.if_icmp .ge 360, 45, 402, 0, .null) := by decide +kernel
theorem x_202_42 : Tr sc d 202 (42, [l0, l1, l2, l3, l4, l5, l6, l7, l8, l9, l10, l11, l12, l13, l14], [.int i1, .int i0], h) Q = if i1 ≤ i0 then Tr sc d 202 (402, [l0, l1, l2, l3, l4, l5, l6, l7, l8, l9, l10, l11, l12, l13, l14], [], h) Q else Tr sc d 202 (45, [l0, l1, l2, l3, l4, l5, l6, l7, l8, l9, l10, l11, l12, l13, l14], [], h) Q := t_if k_202_42 rfl
theorem k_202_45 : lk 202 45 = some (.aload_n 0, 46, 0, 0, .null) := by decide +kernel
theorem x_202_45 : Tr sc d 202 (45, [some (.ref xk), l1, l2, l3, l4, l5, l6, l7, l8, l9, l10, l11, l12, l13, l14], [], h) Q = Tr sc d 202 (46, [some (.ref xk), l1, l2, l3, l4, l5, l6, l7, l8, l9, l10, l11, l12, l13, l14], [.ref xk], h) Q := t_aload_n k_202_45 rfl
theorem k_202_46 : lk 202 46 = some (.getfield 270, 49, 10, 31, .int 0) := by decide +kernel
theorem x_202_46 : Tr sc d 202 (46, [l0, l1, l2, l3, l4, l5, l6, l7, l8, l9, l10, l11, l12, l13, l14], [.ref k0], h) Q = (okp h k0 10 = true ∧ Tr sc d 202 (49, [l0, l1, l2, l3, l4, l5, l6, l7, l8, l9, l10, l11, l12, l13, l14], [.int (hI h k0 31)], h) Q) := t_gd k_202_46 rfl
theorem k_202_49 : lk 202 49 = some (.istore 5, 51, 5, 0, .null) := by decide +kernel
theorem x_202_49 : Tr sc d 202 (49, [l0, l1, l2, l3, l4, l5, l6, l7, l8, l9, l10, l11, l12, l13, l14], [.int i0], h) Q = Tr sc d 202 (51, [l0, l1, l2, l3, cl2 l4, some (.int i0), l6, l7, l8, l9, l10, l11, l12, l13, l14], [], h) Q := t_istore k_202_49 (Nat.le_of_ble_eq_true rfl)
theorem k_202_51 : lk 202 51 = some (.iload 5, 53, 5, 0, .null) := by decide +kernel
theorem x_202_51 : Tr sc d 202 (51, [l0, l1, l2, l3, l4, some (.int x), l6, l7, l8, l9, l10, l11, l12, l13, l14], [], h) Q = Tr sc d 202 (53, [l0, l1, l2, l3, l4, some (.int x), l6, l7, l8, l9, l10, l11, l12, l13, l14], [.int x], h) Q := t_iload k_202_51 rfl
theorem k_202_53 : lk 202 53 = some (.aload_n 0, 54, 0, 0, .null) := by decide +kernel
theorem x_202_53 : Tr sc d 202 (53, [some (.ref xk), l1, l2, l3, l4, l5, l6, l7, l8, l9, l10, l11, l12, l13, l14], [.int i0], h) Q = Tr sc d 202 (54, [some (.ref xk), l1, l2, l3, l4, l5, l6, l7, l8, l9, l10, l11, l12, l13, l14], [.ref xk, .int i0], h) Q := t_aload_n k_202_53 rfl
theorem k_202_54 : lk 202 54 = some (.getfield 41, 57, 10, 18, .null) := by decide +kernel
theorem x_202_54 : Tr sc d 202 (54, [l0, l1, l2, l3, l4, l5, l6, l7, l8, l9, l10, l11, l12, l13, l14], [.ref k1, .int i0], h) Q = (okp h k1 10 = true ∧ ∃ q, hR h k1 18 = some q ∧ Tr sc d 202 (57, [l0, l1, l2, l3, l4, l5, l6, l7, l8, l9, l10, l11, l12, l13, l14], [.ref q, .int i0], h) Q) := t_getr k_202_54
theorem k_202_57 : lk 202 57 = some (.iload_n 1, 58, 1, 0, .null) := by decide +kernel
theorem x_202_57 : Tr sc d 202 (57, [l0, some (.int x), l2, l3, l4, l5, l6, l7, l8, l9, l10, l11, l12, l13, l14], [.ref k1, .int i0], h) Q = Tr sc d 202 (58, [l0, some (.int x), l2, l3, l4, l5, l6, l7, l8, l9, l10, l11, l12, l13, l14], [.int x, .ref k1, .int i0], h) Q := t_iload_n k_202_57 rfl
theorem k_202_58 : lk 202 58 = some (.iaload, 59, 0, 0, .null) := by decide +kernel
theorem x_202_58 : Tr sc d 202 (58, [l0, l1, l2, l3, l4, l5, l6, l7, l8, l9, l10, l11, l12, l13, l14], [.int i2, .ref k1, .int i0], h) Q = (iOk sc h k1 i2 ∧ Tr sc d 202 (59, [l0, l1, l2, l3, l4, l5, l6, l7, l8, l9, l10, l11, l12, l13, l14], [.int (iRd sc h k1 i2), .int i0], h) Q) := t_iald k_202_58
theorem k_202_59 : lk 202 59 = some (.imul, 60, 0, 0, .null) := by decide +kernel
theorem x_202_59 : Tr sc d 202 (59, [l0, l1, l2, l3, l4, l5, l6, l7, l8, l9, l10, l11, l12, l13, l14], [.int i1, .int i0], h) Q = Tr sc d 202 (60, [l0, l1, l2, l3, l4, l5, l6, l7, l8, l9, l10, l11, l12, l13, l14], [.int (i0 * i1)], h) Q := t_go k_202_59 rfl
theorem k_202_60 : lk 202 60 = some (.istore 6, 62, 6, 0, .null) := by decide +kernel
theorem x_202_60 : Tr sc d 202 (60, [l0, l1, l2, l3, l4, l5, l6, l7, l8, l9, l10, l11, l12, l13, l14], [.int i0], h) Q = Tr sc d 202 (62, [l0, l1, l2, l3, l4, cl2 l5, some (.int i0), l7, l8, l9, l10, l11, l12, l13, l14], [], h) Q := t_istore k_202_60 (Nat.le_of_ble_eq_true rfl)
theorem k_202_62 : lk 202 62 = some (.iload 5, 64, 5, 0, .null) := by decide +kernel
theorem x_202_62 : Tr sc d 202 (62, [l0, l1, l2, l3, l4, some (.int x), l6, l7, l8, l9, l10, l11, l12, l13, l14], [], h) Q = Tr sc d 202 (64, [l0, l1, l2, l3, l4, some (.int x), l6, l7, l8, l9, l10, l11, l12, l13, l14], [.int x], h) Q := t_iload k_202_62 rfl
theorem k_202_64 : lk 202 64 = some (.iconst 1, 65, 0, 0, .int 1) := by decide +kernel
theorem x_202_64 : Tr sc d 202 (64, [l0, l1, l2, l3, l4, l5, l6, l7, l8, l9, l10, l11, l12, l13, l14], [.int i0], h) Q = Tr sc d 202 (65, [l0, l1, l2, l3, l4, l5, l6, l7, l8, l9, l10, l11, l12, l13, l14], [.int 1, .int i0], h) Q := t_go k_202_64 rfl
theorem k_202_65 : lk 202 65 = some (.isub, 66, 0, 0, .null) := by decide +kernel
theorem x_202_65 : Tr sc d 202 (65, [l0, l1, l2, l3, l4, l5, l6, l7, l8, l9, l10, l11, l12, l13, l14], [.int i1, .int i0], h) Q = Tr sc d 202 (66, [l0, l1, l2, l3, l4, l5, l6, l7, l8, l9, l10, l11, l12, l13, l14], [.int (i0 - i1)], h) Q := t_go k_202_65 rfl
theorem k_202_66 : lk 202 66 = some (.istore 7, 68, 7, 0, .null) := by decide +kernel
theorem x_202_66 : Tr sc d 202 (66, [l0, l1, l2, l3, l4, l5, l6, l7, l8, l9, l10, l11, l12, l13, l14], [.int i0], h) Q = Tr sc d 202 (68, [l0, l1, l2, l3, l4, l5, cl2 l6, some (.int i0), l8, l9, l10, l11, l12, l13, l14], [], h) Q := t_istore k_202_66 (Nat.le_of_ble_eq_true rfl)
theorem k_202_68 : lk 202 68 = some (.iload 7, 70, 7, 0, .null) := by decide +kernel
theorem x_202_68 : Tr sc d 202 (68, [l0, l1, l2, l3, l4, l5, l6, some (.int x), l8, l9, l10, l11, l12, l13, l14], [], h) Q = Tr sc d 202 (70, [l0, l1, l2, l3, l4, l5, l6, some (.int x), l8, l9, l10, l11, l12, l13, l14], [.int x], h) Q := t_iload k_202_68 rfl
theorem k_202_70 : lk 202 70 = some (.ifCond .lt 203, 73, 273, 0, .null) := by decide +kernel
theorem x_202_70 : Tr sc d 202 (70, [l0, l1, l2, l3, l4, l5, l6, l7, l8, l9, l10, l11, l12, l13, l14], [.int i0], h) Q = if i0 < 0 then Tr sc d 202 (273, [l0, l1, l2, l3, l4, l5, l6, l7, l8, l9, l10, l11, l12, l13, l14], [], h) Q else Tr sc d 202 (73, [l0, l1, l2, l3, l4, l5, l6, l7, l8, l9, l10, l11, l12, l13, l14], [], h) Q := t_if k_202_70 rfl
theorem k_202_73 : lk 202 73 = some (.aload_n 0, 74, 0, 0, .null) := by decide +kernel
theorem x_202_73 : Tr sc d 202 (73, [some (.ref xk), l1, l2, l3, l4, l5, l6, l7, l8, l9, l10, l11, l12, l13, l14], [], h) Q = Tr sc d 202 (74, [some (.ref xk), l1, l2, l3, l4, l5, l6, l7, l8, l9, l10, l11, l12, l13, l14], [.ref xk], h) Q := t_aload_n k_202_73 rfl
theorem k_202_74 : lk 202 74 = some (.getfield 63, 77, 10, 32, .null) := by decide +kernel
theorem x_202_74 : Tr sc d 202 (74, [l0, l1, l2, l3, l4, l5, l6, l7, l8, l9, l10, l11, l12, l13, l14], [.ref k0], h) Q = (okp h k0 10 = true ∧ ∃ q, hR h k0 32 = some q ∧ Tr sc d 202 (77, [l0, l1, l2, l3, l4, l5, l6, l7, l8, l9, l10, l11, l12, l13, l14], [.ref q], h) Q) := t_getr k_202_74
theorem k_202_77 : lk 202 77 = some (.iload 7, 79, 7, 0, .null) := by decide +kernel
theorem x_202_77 : Tr sc d 202 (77, [l0, l1, l2, l3, l4, l5, l6, some (.int x), l8, l9, l10, l11, l12, l13, l14], [.ref k0], h) Q = Tr sc d 202 (79, [l0, l1, l2, l3, l4, l5, l6, some (.int x), l8, l9, l10, l11, l12, l13, l14], [.int x, .ref k0], h) Q := t_iload k_202_77 rfl
theorem k_202_79 : lk 202 79 = some (.iaload, 80, 0, 0, .null) := by decide +kernel
theorem x_202_79 : Tr sc d 202 (79, [l0, l1, l2, l3, l4, l5, l6, l7, l8, l9, l10, l11, l12, l13, l14], [.int i1, .ref k0], h) Q = (iOk sc h k0 i1 ∧ Tr sc d 202 (80, [l0, l1, l2, l3, l4, l5, l6, l7, l8, l9, l10, l11, l12, l13, l14], [.int (iRd sc h k0 i1)], h) Q) := t_iald k_202_79
theorem k_202_80 : lk 202 80 = some (.istore 8, 82, 8, 0, .null) := by decide +kernel
theorem x_202_80 : Tr sc d 202 (80, [l0, l1, l2, l3, l4, l5, l6, l7, l8, l9, l10, l11, l12, l13, l14], [.int i0], h) Q = Tr sc d 202 (82, [l0, l1, l2, l3, l4, l5, l6, cl2 l7, some (.int i0), l9, l10, l11, l12, l13, l14], [], h) Q := t_istore k_202_80 (Nat.le_of_ble_eq_true rfl)
theorem k_202_82 : lk 202 82 = some (.aload_n 0, 83, 0, 0, .null) := by decide +kernel
theorem x_202_82 : Tr sc d 202 (82, [some (.ref xk), l1, l2, l3, l4, l5, l6, l7, l8, l9, l10, l11, l12, l13, l14], [], h) Q = Tr sc d 202 (83, [some (.ref xk), l1, l2, l3, l4, l5, l6, l7, l8, l9, l10, l11, l12, l13, l14], [.ref xk], h) Q := t_aload_n k_202_82 rfl
theorem k_202_83 : lk 202 83 = some (.getfield 66, 86, 10, 33, .null) := by decide +kernel
theorem x_202_83 : Tr sc d 202 (83, [l0, l1, l2, l3, l4, l5, l6, l7, l8, l9, l10, l11, l12, l13, l14], [.ref k0], h) Q = (okp h k0 10 = true ∧ ∃ q, hR h k0 33 = some q ∧ Tr sc d 202 (86, [l0, l1, l2, l3, l4, l5, l6, l7, l8, l9, l10, l11, l12, l13, l14], [.ref q], h) Q) := t_getr k_202_83
theorem k_202_86 : lk 202 86 = some (.iload 7, 88, 7, 0, .null) := by decide +kernel
theorem x_202_86 : Tr sc d 202 (86, [l0, l1, l2, l3, l4, l5, l6, some (.int x), l8, l9, l10, l11, l12, l13, l14], [.ref k0], h) Q = Tr sc d 202 (88, [l0, l1, l2, l3, l4, l5, l6, some (.int x), l8, l9, l10, l11, l12, l13, l14], [.int x, .ref k0], h) Q := t_iload k_202_86 rfl
theorem k_202_88 : lk 202 88 = some (.iaload, 89, 0, 0, .null) := by decide +kernel
theorem x_202_88 : Tr sc d 202 (88, [l0, l1, l2, l3, l4, l5, l6, l7, l8, l9, l10, l11, l12, l13, l14], [.int i1, .ref k0], h) Q = (iOk sc h k0 i1 ∧ Tr sc d 202 (89, [l0, l1, l2, l3, l4, l5, l6, l7, l8, l9, l10, l11, l12, l13, l14], [.int (iRd sc h k0 i1)], h) Q) := t_iald k_202_88
theorem k_202_89 : lk 202 89 = some (.istore 9, 91, 9, 0, .null) := by decide +kernel
theorem x_202_89 : Tr sc d 202 (89, [l0, l1, l2, l3, l4, l5, l6, l7, l8, l9, l10, l11, l12, l13, l14], [.int i0], h) Q = Tr sc d 202 (91, [l0, l1, l2, l3, l4, l5, l6, l7, cl2 l8, some (.int i0), l10, l11, l12, l13, l14], [], h) Q := t_istore k_202_89 (Nat.le_of_ble_eq_true rfl)
theorem k_202_91 : lk 202 91 = some (.aload_n 0, 92, 0, 0, .null) := by decide +kernel
theorem x_202_91 : Tr sc d 202 (91, [some (.ref xk), l1, l2, l3, l4, l5, l6, l7, l8, l9, l10, l11, l12, l13, l14], [], h) Q = Tr sc d 202 (92, [some (.ref xk), l1, l2, l3, l4, l5, l6, l7, l8, l9, l10, l11, l12, l13, l14], [.ref xk], h) Q := t_aload_n k_202_91 rfl
theorem k_202_92 : lk 202 92 = some (.getfield 69, 95, 10, 34, .null) := by decide +kernel
theorem x_202_92 : Tr sc d 202 (92, [l0, l1, l2, l3, l4, l5, l6, l7, l8, l9, l10, l11, l12, l13, l14], [.ref k0], h) Q = (okp h k0 10 = true ∧ ∃ q, hR h k0 34 = some q ∧ Tr sc d 202 (95, [l0, l1, l2, l3, l4, l5, l6, l7, l8, l9, l10, l11, l12, l13, l14], [.ref q], h) Q) := t_getr k_202_92
theorem k_202_95 : lk 202 95 = some (.iload 7, 97, 7, 0, .null) := by decide +kernel
theorem x_202_95 : Tr sc d 202 (95, [l0, l1, l2, l3, l4, l5, l6, some (.int x), l8, l9, l10, l11, l12, l13, l14], [.ref k0], h) Q = Tr sc d 202 (97, [l0, l1, l2, l3, l4, l5, l6, some (.int x), l8, l9, l10, l11, l12, l13, l14], [.int x, .ref k0], h) Q := t_iload k_202_95 rfl
theorem k_202_97 : lk 202 97 = some (.iaload, 98, 0, 0, .null) := by decide +kernel
theorem x_202_97 : Tr sc d 202 (97, [l0, l1, l2, l3, l4, l5, l6, l7, l8, l9, l10, l11, l12, l13, l14], [.int i1, .ref k0], h) Q = (iOk sc h k0 i1 ∧ Tr sc d 202 (98, [l0, l1, l2, l3, l4, l5, l6, l7, l8, l9, l10, l11, l12, l13, l14], [.int (iRd sc h k0 i1)], h) Q) := t_iald k_202_97
theorem k_202_98 : lk 202 98 = some (.istore 10, 100, 10, 0, .null) := by decide +kernel
theorem x_202_98 : Tr sc d 202 (98, [l0, l1, l2, l3, l4, l5, l6, l7, l8, l9, l10, l11, l12, l13, l14], [.int i0], h) Q = Tr sc d 202 (100, [l0, l1, l2, l3, l4, l5, l6, l7, l8, cl2 l9, some (.int i0), l11, l12, l13, l14], [], h) Q := t_istore k_202_98 (Nat.le_of_ble_eq_true rfl)
theorem k_202_100 : lk 202 100 = some (.aload_n 0, 101, 0, 0, .null) := by decide +kernel
theorem x_202_100 : Tr sc d 202 (100, [some (.ref xk), l1, l2, l3, l4, l5, l6, l7, l8, l9, l10, l11, l12, l13, l14], [], h) Q = Tr sc d 202 (101, [some (.ref xk), l1, l2, l3, l4, l5, l6, l7, l8, l9, l10, l11, l12, l13, l14], [.ref xk], h) Q := t_aload_n k_202_100 rfl
theorem k_202_101 : lk 202 101 = some (.getfield 72, 104, 10, 35, .null) := by decide +kernel
theorem x_202_101 : Tr sc d 202 (101, [l0, l1, l2, l3, l4, l5, l6, l7, l8, l9, l10, l11, l12, l13, l14], [.ref k0], h) Q = (okp h k0 10 = true ∧ ∃ q, hR h k0 35 = some q ∧ Tr sc d 202 (104, [l0, l1, l2, l3, l4, l5, l6, l7, l8, l9, l10, l11, l12, l13, l14], [.ref q], h) Q) := t_getr k_202_101
theorem k_202_104 : lk 202 104 = some (.iload 7, 106, 7, 0, .null) := by decide +kernel
theorem x_202_104 : Tr sc d 202 (104, [l0, l1, l2, l3, l4, l5, l6, some (.int x), l8, l9, l10, l11, l12, l13, l14], [.ref k0], h) Q = Tr sc d 202 (106, [l0, l1, l2, l3, l4, l5, l6, some (.int x), l8, l9, l10, l11, l12, l13, l14], [.int x, .ref k0], h) Q := t_iload k_202_104 rfl
theorem k_202_106 : lk 202 106 = some (.laload, 107, 0, 0, .null) := by decide +kernel
theorem x_202_106 : Tr sc d 202 (106, [l0, l1, l2, l3, l4, l5, l6, l7, l8, l9, l10, l11, l12, l13, l14], [.int i1, .ref k0], h) Q = ((okp h k0 12 && inb i1 (LN k0)) = true ∧ Tr sc d 202 (107, [l0, l1, l2, l3, l4, l5, l6, l7, l8, l9, l10, l11, l12, l13, l14], [.long (hL h k0 i1.toNatClampNeg)], h) Q) := t_gd k_202_106 rfl
theorem k_202_107 : lk 202 107 = some (.lstore 11, 109, 11, 0, .null) := by decide +kernel
theorem x_202_107 : Tr sc d 202 (107, [l0, l1, l2, l3, l4, l5, l6, l7, l8, l9, l10, l11, l12, l13, l14], [.long j0], h) Q = Tr sc d 202 (109, [l0, l1, l2, l3, l4, l5, l6, l7, l8, l9, cl2 l10, some (.long j0), none, l13, l14], [], h) Q := t_lstore k_202_107 (Nat.le_of_ble_eq_true rfl)
theorem k_202_109 : lk 202 109 = some (.aload_n 0, 110, 0, 0, .null) := by decide +kernel
theorem x_202_109 : Tr sc d 202 (109, [some (.ref xk), l1, l2, l3, l4, l5, l6, l7, l8, l9, l10, l11, l12, l13, l14], [], h) Q = Tr sc d 202 (110, [some (.ref xk), l1, l2, l3, l4, l5, l6, l7, l8, l9, l10, l11, l12, l13, l14], [.ref xk], h) Q := t_aload_n k_202_109 rfl
theorem k_202_110 : lk 202 110 = some (.getfield 41, 113, 10, 18, .null) := by decide +kernel
theorem x_202_110 : Tr sc d 202 (110, [l0, l1, l2, l3, l4, l5, l6, l7, l8, l9, l10, l11, l12, l13, l14], [.ref k0], h) Q = (okp h k0 10 = true ∧ ∃ q, hR h k0 18 = some q ∧ Tr sc d 202 (113, [l0, l1, l2, l3, l4, l5, l6, l7, l8, l9, l10, l11, l12, l13, l14], [.ref q], h) Q) := t_getr k_202_110
theorem k_202_113 : lk 202 113 = some (.iload_n 1, 114, 1, 0, .null) := by decide +kernel
theorem x_202_113 : Tr sc d 202 (113, [l0, some (.int x), l2, l3, l4, l5, l6, l7, l8, l9, l10, l11, l12, l13, l14], [.ref k0], h) Q = Tr sc d 202 (114, [l0, some (.int x), l2, l3, l4, l5, l6, l7, l8, l9, l10, l11, l12, l13, l14], [.int x, .ref k0], h) Q := t_iload_n k_202_113 rfl
theorem k_202_114 : lk 202 114 = some (.iaload, 115, 0, 0, .null) := by decide +kernel
theorem x_202_114 : Tr sc d 202 (114, [l0, l1, l2, l3, l4, l5, l6, l7, l8, l9, l10, l11, l12, l13, l14], [.int i1, .ref k0], h) Q = (iOk sc h k0 i1 ∧ Tr sc d 202 (115, [l0, l1, l2, l3, l4, l5, l6, l7, l8, l9, l10, l11, l12, l13, l14], [.int (iRd sc h k0 i1)], h) Q) := t_iald k_202_114
theorem k_202_115 : lk 202 115 = some (.iconst 1, 116, 0, 0, .int 1) := by decide +kernel
theorem x_202_115 : Tr sc d 202 (115, [l0, l1, l2, l3, l4, l5, l6, l7, l8, l9, l10, l11, l12, l13, l14], [.int i0], h) Q = Tr sc d 202 (116, [l0, l1, l2, l3, l4, l5, l6, l7, l8, l9, l10, l11, l12, l13, l14], [.int 1, .int i0], h) Q := t_go k_202_115 rfl
theorem k_202_116 : lk 202 116 = some (.isub, 117, 0, 0, .null) := by decide +kernel
theorem x_202_116 : Tr sc d 202 (116, [l0, l1, l2, l3, l4, l5, l6, l7, l8, l9, l10, l11, l12, l13, l14], [.int i1, .int i0], h) Q = Tr sc d 202 (117, [l0, l1, l2, l3, l4, l5, l6, l7, l8, l9, l10, l11, l12, l13, l14], [.int (i0 - i1)], h) Q := t_go k_202_116 rfl
theorem k_202_117 : lk 202 117 = some (.istore 13, 119, 13, 0, .null) := by decide +kernel
theorem x_202_117 : Tr sc d 202 (117, [l0, l1, l2, l3, l4, l5, l6, l7, l8, l9, l10, l11, l12, l13, l14], [.int i0], h) Q = Tr sc d 202 (119, [l0, l1, l2, l3, l4, l5, l6, l7, l8, l9, l10, l11, cl2 l12, some (.int i0), l14], [], h) Q := t_istore k_202_117 (Nat.le_of_ble_eq_true rfl)
theorem k_202_119 : lk 202 119 = some (.iload 13, 121, 13, 0, .null) := by decide +kernel
theorem x_202_119 : Tr sc d 202 (119, [l0, l1, l2, l3, l4, l5, l6, l7, l8, l9, l10, l11, l12, some (.int x), l14], [], h) Q = Tr sc d 202 (121, [l0, l1, l2, l3, l4, l5, l6, l7, l8, l9, l10, l11, l12, some (.int x), l14], [.int x], h) Q := t_iload k_202_119 rfl
theorem k_202_121 : lk 202 121 = some (.ifCond .lt 146, 124, 267, 0, .null) := by decide +kernel
theorem x_202_121 : Tr sc d 202 (121, [l0, l1, l2, l3, l4, l5, l6, l7, l8, l9, l10, l11, l12, l13, l14], [.int i0], h) Q = if i0 < 0 then Tr sc d 202 (267, [l0, l1, l2, l3, l4, l5, l6, l7, l8, l9, l10, l11, l12, l13, l14], [], h) Q else Tr sc d 202 (124, [l0, l1, l2, l3, l4, l5, l6, l7, l8, l9, l10, l11, l12, l13, l14], [], h) Q := t_if k_202_121 rfl
theorem k_202_124 : lk 202 124 = some (.iinc 6 (-1), 127, 6, 0, .int (-1)) := by decide +kernel
theorem x_202_124 : Tr sc d 202 (124, [l0, l1, l2, l3, l4, l5, some (.int x), l7, l8, l9, l10, l11, l12, l13, l14], [], h) Q = Tr sc d 202 (127, [l0, l1, l2, l3, l4, cl2 l5, some (.int (x + (-1))), l7, l8, l9, l10, l11, l12, l13, l14], [], h) Q := t_inc k_202_124 rfl (Nat.le_of_ble_eq_true rfl)
theorem k_202_127 : lk 202 127 = some (.bipush 6, 129, 0, 0, .int 6) := by decide +kernel
theorem x_202_127 : Tr sc d 202 (127, [l0, l1, l2, l3, l4, l5, l6, l7, l8, l9, l10, l11, l12, l13, l14], [], h) Q = Tr sc d 202 (129, [l0, l1, l2, l3, l4, l5, l6, l7, l8, l9, l10, l11, l12, l13, l14], [.int 6], h) Q := t_go k_202_127 rfl
theorem k_202_129 : lk 202 129 = some (.iload_n 1, 130, 1, 0, .null) := by decide +kernel
theorem x_202_129 : Tr sc d 202 (129, [l0, some (.int x), l2, l3, l4, l5, l6, l7, l8, l9, l10, l11, l12, l13, l14], [.int i0], h) Q = Tr sc d 202 (130, [l0, some (.int x), l2, l3, l4, l5, l6, l7, l8, l9, l10, l11, l12, l13, l14], [.int x, .int i0], h) Q := t_iload_n k_202_129 rfl
theorem k_202_130 : lk 202 130 = some (.imul, 131, 0, 0, .null) := by decide +kernel
theorem x_202_130 : Tr sc d 202 (130, [l0, l1, l2, l3, l4, l5, l6, l7, l8, l9, l10, l11, l12, l13, l14], [.int i1, .int i0], h) Q = Tr sc d 202 (131, [l0, l1, l2, l3, l4, l5, l6, l7, l8, l9, l10, l11, l12, l13, l14], [.int (i0 * i1)], h) Q := t_go k_202_130 rfl
theorem k_202_131 : lk 202 131 = some (.iload 13, 133, 13, 0, .null) := by decide +kernel
theorem x_202_131 : Tr sc d 202 (131, [l0, l1, l2, l3, l4, l5, l6, l7, l8, l9, l10, l11, l12, some (.int x), l14], [.int i0], h) Q = Tr sc d 202 (133, [l0, l1, l2, l3, l4, l5, l6, l7, l8, l9, l10, l11, l12, some (.int x), l14], [.int x, .int i0], h) Q := t_iload k_202_131 rfl
theorem k_202_133 : lk 202 133 = some (.iadd, 134, 0, 0, .null) := by decide +kernel
theorem x_202_133 : Tr sc d 202 (133, [l0, l1, l2, l3, l4, l5, l6, l7, l8, l9, l10, l11, l12, l13, l14], [.int i1, .int i0], h) Q = Tr sc d 202 (134, [l0, l1, l2, l3, l4, l5, l6, l7, l8, l9, l10, l11, l12, l13, l14], [.int (i0 + i1)], h) Q := t_go k_202_133 rfl
theorem k_202_134 : lk 202 134 = some (.istore 14, 136, 14, 0, .null) := by decide +kernel
theorem x_202_134 : Tr sc d 202 (134, [l0, l1, l2, l3, l4, l5, l6, l7, l8, l9, l10, l11, l12, l13, l14], [.int i0], h) Q = Tr sc d 202 (136, [l0, l1, l2, l3, l4, l5, l6, l7, l8, l9, l10, l11, l12, cl2 l13, some (.int i0)], [], h) Q := t_istore k_202_134 (Nat.le_of_ble_eq_true rfl)
theorem k_202_136 : lk 202 136 = some (.aload_n 0, 137, 0, 0, .null) := by decide +kernel
theorem x_202_136 : Tr sc d 202 (136, [some (.ref xk), l1, l2, l3, l4, l5, l6, l7, l8, l9, l10, l11, l12, l13, l14], [], h) Q = Tr sc d 202 (137, [some (.ref xk), l1, l2, l3, l4, l5, l6, l7, l8, l9, l10, l11, l12, l13, l14], [.ref xk], h) Q := t_aload_n k_202_136 rfl
theorem k_202_137 : lk 202 137 = some (.getfield 63, 140, 10, 32, .null) := by decide +kernel
theorem x_202_137 : Tr sc d 202 (137, [l0, l1, l2, l3, l4, l5, l6, l7, l8, l9, l10, l11, l12, l13, l14], [.ref k0], h) Q = (okp h k0 10 = true ∧ ∃ q, hR h k0 32 = some q ∧ Tr sc d 202 (140, [l0, l1, l2, l3, l4, l5, l6, l7, l8, l9, l10, l11, l12, l13, l14], [.ref q], h) Q) := t_getr k_202_137
theorem k_202_140 : lk 202 140 = some (.iload 6, 142, 6, 0, .null) := by decide +kernel
theorem x_202_140 : Tr sc d 202 (140, [l0, l1, l2, l3, l4, l5, some (.int x), l7, l8, l9, l10, l11, l12, l13, l14], [.ref k0], h) Q = Tr sc d 202 (142, [l0, l1, l2, l3, l4, l5, some (.int x), l7, l8, l9, l10, l11, l12, l13, l14], [.int x, .ref k0], h) Q := t_iload k_202_140 rfl
theorem k_202_142 : lk 202 142 = some (.aload_n 0, 143, 0, 0, .null) := by decide +kernel
theorem x_202_142 : Tr sc d 202 (142, [some (.ref xk), l1, l2, l3, l4, l5, l6, l7, l8, l9, l10, l11, l12, l13, l14], [.int i1, .ref k0], h) Q = Tr sc d 202 (143, [some (.ref xk), l1, l2, l3, l4, l5, l6, l7, l8, l9, l10, l11, l12, l13, l14], [.ref xk, .int i1, .ref k0], h) Q := t_aload_n k_202_142 rfl
theorem k_202_143 : lk 202 143 = some (.getfield 44, 146, 10, 19, .null) := by decide +kernel
theorem x_202_143 : Tr sc d 202 (143, [l0, l1, l2, l3, l4, l5, l6, l7, l8, l9, l10, l11, l12, l13, l14], [.ref k2, .int i1, .ref k0], h) Q = (okp h k2 10 = true ∧ ∃ q, hR h k2 19 = some q ∧ Tr sc d 202 (146, [l0, l1, l2, l3, l4, l5, l6, l7, l8, l9, l10, l11, l12, l13, l14], [.ref q, .int i1, .ref k0], h) Q) := t_getr k_202_143
theorem k_202_146 : lk 202 146 = some (.iload 14, 148, 14, 0, .null) := by decide +kernel
theorem x_202_146 : Tr sc d 202 (146, [l0, l1, l2, l3, l4, l5, l6, l7, l8, l9, l10, l11, l12, l13, some (.int x)], [.ref k2, .int i1, .ref k0], h) Q = Tr sc d 202 (148, [l0, l1, l2, l3, l4, l5, l6, l7, l8, l9, l10, l11, l12, l13, some (.int x)], [.int x, .ref k2, .int i1, .ref k0], h) Q := t_iload k_202_146 rfl
theorem k_202_148 : lk 202 148 = some (.iaload, 149, 0, 0, .null) := by decide +kernel
theorem x_202_148 : Tr sc d 202 (148, [l0, l1, l2, l3, l4, l5, l6, l7, l8, l9, l10, l11, l12, l13, l14], [.int i3, .ref k2, .int i1, .ref k0], h) Q = (iOk sc h k2 i3 ∧ Tr sc d 202 (149, [l0, l1, l2, l3, l4, l5, l6, l7, l8, l9, l10, l11, l12, l13, l14], [.int (iRd sc h k2 i3), .int i1, .ref k0], h) Q) := t_iald k_202_148
theorem k_202_149 : lk 202 149 = some (.iload 8, 151, 8, 0, .null) := by decide +kernel
theorem x_202_149 : Tr sc d 202 (149, [l0, l1, l2, l3, l4, l5, l6, l7, some (.int x), l9, l10, l11, l12, l13, l14], [.int i2, .int i1, .ref k0], h) Q = Tr sc d 202 (151, [l0, l1, l2, l3, l4, l5, l6, l7, some (.int x), l9, l10, l11, l12, l13, l14], [.int x, .int i2, .int i1, .ref k0], h) Q := t_iload k_202_149 rfl
theorem k_202_151 : lk 202 151 = some (.iload 9, 153, 9, 0, .null) := by decide +kernel
theorem x_202_151 : Tr sc d 202 (151, [l0, l1, l2, l3, l4, l5, l6, l7, l8, some (.int x), l10, l11, l12, l13, l14], [.int i3, .int i2, .int i1, .ref k0], h) Q = Tr sc d 202 (153, [l0, l1, l2, l3, l4, l5, l6, l7, l8, some (.int x), l10, l11, l12, l13, l14], [.int x, .int i3, .int i2, .int i1, .ref k0], h) Q := t_iload k_202_151 rfl
theorem k_202_153 : lk 202 153 = some (.invokestatic 250, 156, 178, 3, .null) := by decide +kernel
theorem x_202_153 : Tr sc (d + 1) 202 (153, [l0, l1, l2, l3, l4, l5, l6, l7, l8, l9, l10, l11, l12, l13, l14], [.int i4, .int i3, .int i2, .int i1, .ref k0], h) Q = Tr sc d 178 (ent0 178 [.int i2, .int i3, .int i4] h) (fun z => Tr sc (d + 1) 202 (156, [l0, l1, l2, l3, l4, l5, l6, l7, l8, l9, l10, l11, l12, l13, l14], z.1.toList ++ [.int i1, .ref k0], z.2) Q) := t_cs (as := [.int i2, .int i3, .int i4]) (r := [.int i1, .ref k0]) k_202_153 (by decide) rfl rfl (Nat.le_of_ble_eq_true rfl) (Nat.le_of_ble_eq_true rfl)
theorem k_202_156 : lk 202 156 = some (.iload_n 3, 157, 3, 0, .null) := by decide +kernel
theorem x_202_156 : Tr sc d 202 (156, [l0, l1, l2, some (.int x), l4, l5, l6, l7, l8, l9, l10, l11, l12, l13, l14], [.int i2, .int i1, .ref k0], h) Q = Tr sc d 202 (157, [l0, l1, l2, some (.int x), l4, l5, l6, l7, l8, l9, l10, l11, l12, l13, l14], [.int x, .int i2, .int i1, .ref k0], h) Q := t_iload_n k_202_156 rfl
theorem k_202_157 : lk 202 157 = some (.aload_n 0, 158, 0, 0, .null) := by decide +kernel
theorem x_202_157 : Tr sc d 202 (157, [some (.ref xk), l1, l2, l3, l4, l5, l6, l7, l8, l9, l10, l11, l12, l13, l14], [.int i3, .int i2, .int i1, .ref k0], h) Q = Tr sc d 202 (158, [some (.ref xk), l1, l2, l3, l4, l5, l6, l7, l8, l9, l10, l11, l12, l13, l14], [.ref xk, .int i3, .int i2, .int i1, .ref k0], h) Q := t_aload_n k_202_157 rfl
theorem k_202_158 : lk 202 158 = some (.getfield 47, 161, 10, 20, .null) := by decide +kernel
theorem x_202_158 : Tr sc d 202 (158, [l0, l1, l2, l3, l4, l5, l6, l7, l8, l9, l10, l11, l12, l13, l14], [.ref k4, .int i3, .int i2, .int i1, .ref k0], h) Q = (okp h k4 10 = true ∧ ∃ q, hR h k4 20 = some q ∧ Tr sc d 202 (161, [l0, l1, l2, l3, l4, l5, l6, l7, l8, l9, l10, l11, l12, l13, l14], [.ref q, .int i3, .int i2, .int i1, .ref k0], h) Q) := t_getr k_202_158
theorem k_202_161 : lk 202 161 = some (.iload 14, 163, 14, 0, .null) := by decide +kernel
theorem x_202_161 : Tr sc d 202 (161, [l0, l1, l2, l3, l4, l5, l6, l7, l8, l9, l10, l11, l12, l13, some (.int x)], [.ref k4, .int i3, .int i2, .int i1, .ref k0], h) Q = Tr sc d 202 (163, [l0, l1, l2, l3, l4, l5, l6, l7, l8, l9, l10, l11, l12, l13, some (.int x)], [.int x, .ref k4, .int i3, .int i2, .int i1, .ref k0], h) Q := t_iload k_202_161 rfl
theorem k_202_163 : lk 202 163 = some (.iaload, 164, 0, 0, .null) := by decide +kernel
theorem x_202_163 : Tr sc d 202 (163, [l0, l1, l2, l3, l4, l5, l6, l7, l8, l9, l10, l11, l12, l13, l14], [.int i5, .ref k4, .int i3, .int i2, .int i1, .ref k0], h) Q = (iOk sc h k4 i5 ∧ Tr sc d 202 (164, [l0, l1, l2, l3, l4, l5, l6, l7, l8, l9, l10, l11, l12, l13, l14], [.int (iRd sc h k4 i5), .int i3, .int i2, .int i1, .ref k0], h) Q) := t_iald k_202_163
theorem k_202_164 : lk 202 164 = some (.imul, 165, 0, 0, .null) := by decide +kernel
theorem x_202_164 : Tr sc d 202 (164, [l0, l1, l2, l3, l4, l5, l6, l7, l8, l9, l10, l11, l12, l13, l14], [.int i4, .int i3, .int i2, .int i1, .ref k0], h) Q = Tr sc d 202 (165, [l0, l1, l2, l3, l4, l5, l6, l7, l8, l9, l10, l11, l12, l13, l14], [.int (i3 * i4), .int i2, .int i1, .ref k0], h) Q := t_go k_202_164 rfl
theorem k_202_165 : lk 202 165 = some (.iadd, 166, 0, 0, .null) := by decide +kernel
theorem x_202_165 : Tr sc d 202 (165, [l0, l1, l2, l3, l4, l5, l6, l7, l8, l9, l10, l11, l12, l13, l14], [.int i3, .int i2, .int i1, .ref k0], h) Q = Tr sc d 202 (166, [l0, l1, l2, l3, l4, l5, l6, l7, l8, l9, l10, l11, l12, l13, l14], [.int (i2 + i3), .int i1, .ref k0], h) Q := t_go k_202_165 rfl
theorem k_202_166 : lk 202 166 = some (.iastore, 167, 0, 0, .null) := by decide +kernel
theorem x_202_166 : Tr sc d 202 (166, [l0, l1, l2, l3, l4, l5, l6, l7, l8, l9, l10, l11, l12, l13, l14], [.int i2, .int i1, .ref k0], h) Q = ((okp h k0 11 && inb i1 (LN k0)) = true ∧ Tr sc d 202 (167, [l0, l1, l2, l3, l4, l5, l6, l7, l8, l9, l10, l11, l12, l13, l14], [], (sI h k0 i1.toNatClampNeg i2)) Q) := t_gd k_202_166 rfl
theorem k_202_167 : lk 202 167 = some (.aload_n 0, 168, 0, 0, .null) := by decide +kernel
theorem x_202_167 : Tr sc d 202 (167, [some (.ref xk), l1, l2, l3, l4, l5, l6, l7, l8, l9, l10, l11, l12, l13, l14], [], h) Q = Tr sc d 202 (168, [some (.ref xk), l1, l2, l3, l4, l5, l6, l7, l8, l9, l10, l11, l12, l13, l14], [.ref xk], h) Q := t_aload_n k_202_167 rfl
theorem k_202_168 : lk 202 168 = some (.getfield 66, 171, 10, 33, .null) := by decide +kernel
theorem x_202_168 : Tr sc d 202 (168, [l0, l1, l2, l3, l4, l5, l6, l7, l8, l9, l10, l11, l12, l13, l14], [.ref k0], h) Q = (okp h k0 10 = true ∧ ∃ q, hR h k0 33 = some q ∧ Tr sc d 202 (171, [l0, l1, l2, l3, l4, l5, l6, l7, l8, l9, l10, l11, l12, l13, l14], [.ref q], h) Q) := t_getr k_202_168
theorem k_202_171 : lk 202 171 = some (.iload 6, 173, 6, 0, .null) := by decide +kernel
theorem x_202_171 : Tr sc d 202 (171, [l0, l1, l2, l3, l4, l5, some (.int x), l7, l8, l9, l10, l11, l12, l13, l14], [.ref k0], h) Q = Tr sc d 202 (173, [l0, l1, l2, l3, l4, l5, some (.int x), l7, l8, l9, l10, l11, l12, l13, l14], [.int x, .ref k0], h) Q := t_iload k_202_171 rfl
theorem k_202_173 : lk 202 173 = some (.aload_n 0, 174, 0, 0, .null) := by decide +kernel
theorem x_202_173 : Tr sc d 202 (173, [some (.ref xk), l1, l2, l3, l4, l5, l6, l7, l8, l9, l10, l11, l12, l13, l14], [.int i1, .ref k0], h) Q = Tr sc d 202 (174, [some (.ref xk), l1, l2, l3, l4, l5, l6, l7, l8, l9, l10, l11, l12, l13, l14], [.ref xk, .int i1, .ref k0], h) Q := t_aload_n k_202_173 rfl
theorem k_202_174 : lk 202 174 = some (.getfield 44, 177, 10, 19, .null) := by decide +kernel
theorem x_202_174 : Tr sc d 202 (174, [l0, l1, l2, l3, l4, l5, l6, l7, l8, l9, l10, l11, l12, l13, l14], [.ref k2, .int i1, .ref k0], h) Q = (okp h k2 10 = true ∧ ∃ q, hR h k2 19 = some q ∧ Tr sc d 202 (177, [l0, l1, l2, l3, l4, l5, l6, l7, l8, l9, l10, l11, l12, l13, l14], [.ref q, .int i1, .ref k0], h) Q) := t_getr k_202_174
theorem k_202_177 : lk 202 177 = some (.iload 14, 179, 14, 0, .null) := by decide +kernel
theorem x_202_177 : Tr sc d 202 (177, [l0, l1, l2, l3, l4, l5, l6, l7, l8, l9, l10, l11, l12, l13, some (.int x)], [.ref k2, .int i1, .ref k0], h) Q = Tr sc d 202 (179, [l0, l1, l2, l3, l4, l5, l6, l7, l8, l9, l10, l11, l12, l13, some (.int x)], [.int x, .ref k2, .int i1, .ref k0], h) Q := t_iload k_202_177 rfl
theorem k_202_179 : lk 202 179 = some (.iaload, 180, 0, 0, .null) := by decide +kernel
theorem x_202_179 : Tr sc d 202 (179, [l0, l1, l2, l3, l4, l5, l6, l7, l8, l9, l10, l11, l12, l13, l14], [.int i3, .ref k2, .int i1, .ref k0], h) Q = (iOk sc h k2 i3 ∧ Tr sc d 202 (180, [l0, l1, l2, l3, l4, l5, l6, l7, l8, l9, l10, l11, l12, l13, l14], [.int (iRd sc h k2 i3), .int i1, .ref k0], h) Q) := t_iald k_202_179
theorem k_202_180 : lk 202 180 = some (.iload 8, 182, 8, 0, .null) := by decide +kernel
theorem x_202_180 : Tr sc d 202 (180, [l0, l1, l2, l3, l4, l5, l6, l7, some (.int x), l9, l10, l11, l12, l13, l14], [.int i2, .int i1, .ref k0], h) Q = Tr sc d 202 (182, [l0, l1, l2, l3, l4, l5, l6, l7, some (.int x), l9, l10, l11, l12, l13, l14], [.int x, .int i2, .int i1, .ref k0], h) Q := t_iload k_202_180 rfl
theorem k_202_182 : lk 202 182 = some (.iload 9, 184, 9, 0, .null) := by decide +kernel
theorem x_202_182 : Tr sc d 202 (182, [l0, l1, l2, l3, l4, l5, l6, l7, l8, some (.int x), l10, l11, l12, l13, l14], [.int i3, .int i2, .int i1, .ref k0], h) Q = Tr sc d 202 (184, [l0, l1, l2, l3, l4, l5, l6, l7, l8, some (.int x), l10, l11, l12, l13, l14], [.int x, .int i3, .int i2, .int i1, .ref k0], h) Q := t_iload k_202_182 rfl
theorem k_202_184 : lk 202 184 = some (.invokestatic 254, 187, 179, 3, .null) := by decide +kernel
theorem x_202_184 : Tr sc (d + 1) 202 (184, [l0, l1, l2, l3, l4, l5, l6, l7, l8, l9, l10, l11, l12, l13, l14], [.int i4, .int i3, .int i2, .int i1, .ref k0], h) Q = Tr sc d 179 (ent0 179 [.int i2, .int i3, .int i4] h) (fun z => Tr sc (d + 1) 202 (187, [l0, l1, l2, l3, l4, l5, l6, l7, l8, l9, l10, l11, l12, l13, l14], z.1.toList ++ [.int i1, .ref k0], z.2) Q) := t_cs (as := [.int i2, .int i3, .int i4]) (r := [.int i1, .ref k0]) k_202_184 (by decide) rfl rfl (Nat.le_of_ble_eq_true rfl) (Nat.le_of_ble_eq_true rfl)
theorem k_202_187 : lk 202 187 = some (.iload_n 3, 188, 3, 0, .null) := by decide +kernel
theorem x_202_187 : Tr sc d 202 (187, [l0, l1, l2, some (.int x), l4, l5, l6, l7, l8, l9, l10, l11, l12, l13, l14], [.int i2, .int i1, .ref k0], h) Q = Tr sc d 202 (188, [l0, l1, l2, some (.int x), l4, l5, l6, l7, l8, l9, l10, l11, l12, l13, l14], [.int x, .int i2, .int i1, .ref k0], h) Q := t_iload_n k_202_187 rfl
theorem k_202_188 : lk 202 188 = some (.aload_n 0, 189, 0, 0, .null) := by decide +kernel
theorem x_202_188 : Tr sc d 202 (188, [some (.ref xk), l1, l2, l3, l4, l5, l6, l7, l8, l9, l10, l11, l12, l13, l14], [.int i3, .int i2, .int i1, .ref k0], h) Q = Tr sc d 202 (189, [some (.ref xk), l1, l2, l3, l4, l5, l6, l7, l8, l9, l10, l11, l12, l13, l14], [.ref xk, .int i3, .int i2, .int i1, .ref k0], h) Q := t_aload_n k_202_188 rfl
theorem k_202_189 : lk 202 189 = some (.getfield 50, 192, 10, 21, .null) := by decide +kernel
theorem x_202_189 : Tr sc d 202 (189, [l0, l1, l2, l3, l4, l5, l6, l7, l8, l9, l10, l11, l12, l13, l14], [.ref k4, .int i3, .int i2, .int i1, .ref k0], h) Q = (okp h k4 10 = true ∧ ∃ q, hR h k4 21 = some q ∧ Tr sc d 202 (192, [l0, l1, l2, l3, l4, l5, l6, l7, l8, l9, l10, l11, l12, l13, l14], [.ref q, .int i3, .int i2, .int i1, .ref k0], h) Q) := t_getr k_202_189
theorem k_202_192 : lk 202 192 = some (.iload 14, 194, 14, 0, .null) := by decide +kernel
theorem x_202_192 : Tr sc d 202 (192, [l0, l1, l2, l3, l4, l5, l6, l7, l8, l9, l10, l11, l12, l13, some (.int x)], [.ref k4, .int i3, .int i2, .int i1, .ref k0], h) Q = Tr sc d 202 (194, [l0, l1, l2, l3, l4, l5, l6, l7, l8, l9, l10, l11, l12, l13, some (.int x)], [.int x, .ref k4, .int i3, .int i2, .int i1, .ref k0], h) Q := t_iload k_202_192 rfl
theorem k_202_194 : lk 202 194 = some (.iaload, 195, 0, 0, .null) := by decide +kernel
theorem x_202_194 : Tr sc d 202 (194, [l0, l1, l2, l3, l4, l5, l6, l7, l8, l9, l10, l11, l12, l13, l14], [.int i5, .ref k4, .int i3, .int i2, .int i1, .ref k0], h) Q = (iOk sc h k4 i5 ∧ Tr sc d 202 (195, [l0, l1, l2, l3, l4, l5, l6, l7, l8, l9, l10, l11, l12, l13, l14], [.int (iRd sc h k4 i5), .int i3, .int i2, .int i1, .ref k0], h) Q) := t_iald k_202_194
theorem k_202_195 : lk 202 195 = some (.imul, 196, 0, 0, .null) := by decide +kernel
theorem x_202_195 : Tr sc d 202 (195, [l0, l1, l2, l3, l4, l5, l6, l7, l8, l9, l10, l11, l12, l13, l14], [.int i4, .int i3, .int i2, .int i1, .ref k0], h) Q = Tr sc d 202 (196, [l0, l1, l2, l3, l4, l5, l6, l7, l8, l9, l10, l11, l12, l13, l14], [.int (i3 * i4), .int i2, .int i1, .ref k0], h) Q := t_go k_202_195 rfl
theorem k_202_196 : lk 202 196 = some (.iadd, 197, 0, 0, .null) := by decide +kernel
theorem x_202_196 : Tr sc d 202 (196, [l0, l1, l2, l3, l4, l5, l6, l7, l8, l9, l10, l11, l12, l13, l14], [.int i3, .int i2, .int i1, .ref k0], h) Q = Tr sc d 202 (197, [l0, l1, l2, l3, l4, l5, l6, l7, l8, l9, l10, l11, l12, l13, l14], [.int (i2 + i3), .int i1, .ref k0], h) Q := t_go k_202_196 rfl
theorem k_202_197 : lk 202 197 = some (.iastore, 198, 0, 0, .null) := by decide +kernel
theorem x_202_197 : Tr sc d 202 (197, [l0, l1, l2, l3, l4, l5, l6, l7, l8, l9, l10, l11, l12, l13, l14], [.int i2, .int i1, .ref k0], h) Q = ((okp h k0 11 && inb i1 (LN k0)) = true ∧ Tr sc d 202 (198, [l0, l1, l2, l3, l4, l5, l6, l7, l8, l9, l10, l11, l12, l13, l14], [], (sI h k0 i1.toNatClampNeg i2)) Q) := t_gd k_202_197 rfl
theorem k_202_198 : lk 202 198 = some (.aload_n 0, 199, 0, 0, .null) := by decide +kernel
theorem x_202_198 : Tr sc d 202 (198, [some (.ref xk), l1, l2, l3, l4, l5, l6, l7, l8, l9, l10, l11, l12, l13, l14], [], h) Q = Tr sc d 202 (199, [some (.ref xk), l1, l2, l3, l4, l5, l6, l7, l8, l9, l10, l11, l12, l13, l14], [.ref xk], h) Q := t_aload_n k_202_198 rfl
theorem k_202_199 : lk 202 199 = some (.getfield 69, 202, 10, 34, .null) := by decide +kernel
theorem x_202_199 : Tr sc d 202 (199, [l0, l1, l2, l3, l4, l5, l6, l7, l8, l9, l10, l11, l12, l13, l14], [.ref k0], h) Q = (okp h k0 10 = true ∧ ∃ q, hR h k0 34 = some q ∧ Tr sc d 202 (202, [l0, l1, l2, l3, l4, l5, l6, l7, l8, l9, l10, l11, l12, l13, l14], [.ref q], h) Q) := t_getr k_202_199
theorem k_202_202 : lk 202 202 = some (.iload 6, 204, 6, 0, .null) := by decide +kernel
theorem x_202_202 : Tr sc d 202 (202, [l0, l1, l2, l3, l4, l5, some (.int x), l7, l8, l9, l10, l11, l12, l13, l14], [.ref k0], h) Q = Tr sc d 202 (204, [l0, l1, l2, l3, l4, l5, some (.int x), l7, l8, l9, l10, l11, l12, l13, l14], [.int x, .ref k0], h) Q := t_iload k_202_202 rfl
theorem k_202_204 : lk 202 204 = some (.iload 10, 206, 10, 0, .null) := by decide +kernel
theorem x_202_204 : Tr sc d 202 (204, [l0, l1, l2, l3, l4, l5, l6, l7, l8, l9, some (.int x), l11, l12, l13, l14], [.int i1, .ref k0], h) Q = Tr sc d 202 (206, [l0, l1, l2, l3, l4, l5, l6, l7, l8, l9, some (.int x), l11, l12, l13, l14], [.int x, .int i1, .ref k0], h) Q := t_iload k_202_204 rfl
theorem k_202_206 : lk 202 206 = some (.ifCond .lt 20, 209, 226, 0, .null) := by decide +kernel
theorem x_202_206 : Tr sc d 202 (206, [l0, l1, l2, l3, l4, l5, l6, l7, l8, l9, l10, l11, l12, l13, l14], [.int i2, .int i1, .ref k0], h) Q = if i2 < 0 then Tr sc d 202 (226, [l0, l1, l2, l3, l4, l5, l6, l7, l8, l9, l10, l11, l12, l13, l14], [.int i1, .ref k0], h) Q else Tr sc d 202 (209, [l0, l1, l2, l3, l4, l5, l6, l7, l8, l9, l10, l11, l12, l13, l14], [.int i1, .ref k0], h) Q := t_if k_202_206 rfl
theorem k_202_209 : lk 202 209 = some (.aload_n 0, 210, 0, 0, .null) := by decide +kernel
theorem x_202_209 : Tr sc d 202 (209, [some (.ref xk), l1, l2, l3, l4, l5, l6, l7, l8, l9, l10, l11, l12, l13, l14], [.int i1, .ref k0], h) Q = Tr sc d 202 (210, [some (.ref xk), l1, l2, l3, l4, l5, l6, l7, l8, l9, l10, l11, l12, l13, l14], [.ref xk, .int i1, .ref k0], h) Q := t_aload_n k_202_209 rfl
theorem k_202_210 : lk 202 210 = some (.iload_n 1, 211, 1, 0, .null) := by decide +kernel
theorem x_202_210 : Tr sc d 202 (210, [l0, some (.int x), l2, l3, l4, l5, l6, l7, l8, l9, l10, l11, l12, l13, l14], [.ref k2, .int i1, .ref k0], h) Q = Tr sc d 202 (211, [l0, some (.int x), l2, l3, l4, l5, l6, l7, l8, l9, l10, l11, l12, l13, l14], [.int x, .ref k2, .int i1, .ref k0], h) Q := t_iload_n k_202_210 rfl
theorem k_202_211 : lk 202 211 = some (.iload 13, 213, 13, 0, .null) := by decide +kernel
theorem x_202_211 : Tr sc d 202 (211, [l0, l1, l2, l3, l4, l5, l6, l7, l8, l9, l10, l11, l12, some (.int x), l14], [.int i3, .ref k2, .int i1, .ref k0], h) Q = Tr sc d 202 (213, [l0, l1, l2, l3, l4, l5, l6, l7, l8, l9, l10, l11, l12, some (.int x), l14], [.int x, .int i3, .ref k2, .int i1, .ref k0], h) Q := t_iload k_202_211 rfl
theorem k_202_213 : lk 202 213 = some (.iload 10, 215, 10, 0, .null) := by decide +kernel
theorem x_202_213 : Tr sc d 202 (213, [l0, l1, l2, l3, l4, l5, l6, l7, l8, l9, some (.int x), l11, l12, l13, l14], [.int i4, .int i3, .ref k2, .int i1, .ref k0], h) Q = Tr sc d 202 (215, [l0, l1, l2, l3, l4, l5, l6, l7, l8, l9, some (.int x), l11, l12, l13, l14], [.int x, .int i4, .int i3, .ref k2, .int i1, .ref k0], h) Q := t_iload k_202_213 rfl
theorem k_202_215 : lk 202 215 = some (.invokevirtual 203, 218, 187, 3, .null) := by decide +kernel
theorem x_202_215 : Tr sc (d + 1) 202 (215, [l0, l1, l2, l3, l4, l5, l6, l7, l8, l9, l10, l11, l12, l13, l14], [.int i5, .int i4, .int i3, .ref k2, .int i1, .ref k0], h) Q = (okp h k2 10 = true ∧ Tr sc d 187 (ent0 187 [.ref k2, .int i3, .int i4, .int i5] h) (fun z => Tr sc (d + 1) 202 (218, [l0, l1, l2, l3, l4, l5, l6, l7, l8, l9, l10, l11, l12, l13, l14], z.1.toList ++ [.int i1, .ref k0], z.2) Q)) := t_cv (as := [.int i3, .int i4, .int i5]) (r := [.int i1, .ref k0]) k_202_215 rfl rfl (Nat.le_of_ble_eq_true rfl) (Nat.le_of_ble_eq_true rfl) (Nat.le_of_ble_eq_true rfl)
theorem k_202_218 : lk 202 218 = some (.ifCond .eq 8, 221, 226, 0, .null) := by decide +kernel
theorem x_202_218 : Tr sc d 202 (218, [l0, l1, l2, l3, l4, l5, l6, l7, l8, l9, l10, l11, l12, l13, l14], [.int i2, .int i1, .ref k0], h) Q = if i2 = 0 then Tr sc d 202 (226, [l0, l1, l2, l3, l4, l5, l6, l7, l8, l9, l10, l11, l12, l13, l14], [.int i1, .ref k0], h) Q else Tr sc d 202 (221, [l0, l1, l2, l3, l4, l5, l6, l7, l8, l9, l10, l11, l12, l13, l14], [.int i1, .ref k0], h) Q := t_if k_202_218 rfl
theorem k_202_221 : lk 202 221 = some (.bipush 6, 223, 0, 0, .int 6) := by decide +kernel
theorem x_202_221 : Tr sc d 202 (221, [l0, l1, l2, l3, l4, l5, l6, l7, l8, l9, l10, l11, l12, l13, l14], [.int i1, .ref k0], h) Q = Tr sc d 202 (223, [l0, l1, l2, l3, l4, l5, l6, l7, l8, l9, l10, l11, l12, l13, l14], [.int 6, .int i1, .ref k0], h) Q := t_go k_202_221 rfl
theorem k_202_223 : lk 202 223 = some (.goto 5, 226, 228, 0, .null) := by decide +kernel
theorem x_202_223 : Tr sc d 202 (223, [l0, l1, l2, l3, l4, l5, l6, l7, l8, l9, l10, l11, l12, l13, l14], [.int i2, .int i1, .ref k0], h) Q = Tr sc d 202 (228, [l0, l1, l2, l3, l4, l5, l6, l7, l8, l9, l10, l11, l12, l13, l14], [.int i2, .int i1, .ref k0], h) Q := t_go k_202_223 rfl
theorem k_202_226 : lk 202 226 = some (.iload 13, 228, 13, 0, .null) := by decide +kernel
theorem x_202_226 : Tr sc d 202 (226, [l0, l1, l2, l3, l4, l5, l6, l7, l8, l9, l10, l11, l12, some (.int x), l14], [.int i1, .ref k0], h) Q = Tr sc d 202 (228, [l0, l1, l2, l3, l4, l5, l6, l7, l8, l9, l10, l11, l12, some (.int x), l14], [.int x, .int i1, .ref k0], h) Q := t_iload k_202_226 rfl
theorem k_202_228 : lk 202 228 = some (.iastore, 229, 0, 0, .null) := by decide +kernel
theorem x_202_228 : Tr sc d 202 (228, [l0, l1, l2, l3, l4, l5, l6, l7, l8, l9, l10, l11, l12, l13, l14], [.int i2, .int i1, .ref k0], h) Q = ((okp h k0 11 && inb i1 (LN k0)) = true ∧ Tr sc d 202 (229, [l0, l1, l2, l3, l4, l5, l6, l7, l8, l9, l10, l11, l12, l13, l14], [], (sI h k0 i1.toNatClampNeg i2)) Q) := t_gd k_202_228 rfl
theorem k_202_229 : lk 202 229 = some (.aload_n 0, 230, 0, 0, .null) := by decide +kernel
theorem x_202_229 : Tr sc d 202 (229, [some (.ref xk), l1, l2, l3, l4, l5, l6, l7, l8, l9, l10, l11, l12, l13, l14], [], h) Q = Tr sc d 202 (230, [some (.ref xk), l1, l2, l3, l4, l5, l6, l7, l8, l9, l10, l11, l12, l13, l14], [.ref xk], h) Q := t_aload_n k_202_229 rfl
theorem k_202_230 : lk 202 230 = some (.getfield 72, 233, 10, 35, .null) := by decide +kernel
theorem x_202_230 : Tr sc d 202 (230, [l0, l1, l2, l3, l4, l5, l6, l7, l8, l9, l10, l11, l12, l13, l14], [.ref k0], h) Q = (okp h k0 10 = true ∧ ∃ q, hR h k0 35 = some q ∧ Tr sc d 202 (233, [l0, l1, l2, l3, l4, l5, l6, l7, l8, l9, l10, l11, l12, l13, l14], [.ref q], h) Q) := t_getr k_202_230
theorem k_202_233 : lk 202 233 = some (.iload 6, 235, 6, 0, .null) := by decide +kernel
theorem x_202_233 : Tr sc d 202 (233, [l0, l1, l2, l3, l4, l5, some (.int x), l7, l8, l9, l10, l11, l12, l13, l14], [.ref k0], h) Q = Tr sc d 202 (235, [l0, l1, l2, l3, l4, l5, some (.int x), l7, l8, l9, l10, l11, l12, l13, l14], [.int x, .ref k0], h) Q := t_iload k_202_233 rfl
theorem k_202_235 : lk 202 235 = some (.lload 11, 237, 11, 0, .null) := by decide +kernel
theorem x_202_235 : Tr sc d 202 (235, [l0, l1, l2, l3, l4, l5, l6, l7, l8, l9, l10, some (.long xl), l12, l13, l14], [.int i1, .ref k0], h) Q = Tr sc d 202 (237, [l0, l1, l2, l3, l4, l5, l6, l7, l8, l9, l10, some (.long xl), l12, l13, l14], [.long xl, .int i1, .ref k0], h) Q := t_lload k_202_235 rfl
theorem k_202_237 : lk 202 237 = some (.aload_n 0, 238, 0, 0, .null) := by decide +kernel
theorem x_202_237 : Tr sc d 202 (237, [some (.ref xk), l1, l2, l3, l4, l5, l6, l7, l8, l9, l10, l11, l12, l13, l14], [.long j2, .int i1, .ref k0], h) Q = Tr sc d 202 (238, [some (.ref xk), l1, l2, l3, l4, l5, l6, l7, l8, l9, l10, l11, l12, l13, l14], [.ref xk, .long j2, .int i1, .ref k0], h) Q := t_aload_n k_202_237 rfl
theorem k_202_238 : lk 202 238 = some (.getfield 35, 241, 10, 16, .null) := by decide +kernel
theorem x_202_238 : Tr sc d 202 (238, [l0, l1, l2, l3, l4, l5, l6, l7, l8, l9, l10, l11, l12, l13, l14], [.ref k3, .long j2, .int i1, .ref k0], h) Q = (okp h k3 10 = true ∧ ∃ q, hR h k3 16 = some q ∧ Tr sc d 202 (241, [l0, l1, l2, l3, l4, l5, l6, l7, l8, l9, l10, l11, l12, l13, l14], [.ref q, .long j2, .int i1, .ref k0], h) Q) := t_getr k_202_238
theorem k_202_241 : lk 202 241 = some (.iload_n 1, 242, 1, 0, .null) := by decide +kernel
theorem x_202_241 : Tr sc d 202 (241, [l0, some (.int x), l2, l3, l4, l5, l6, l7, l8, l9, l10, l11, l12, l13, l14], [.ref k3, .long j2, .int i1, .ref k0], h) Q = Tr sc d 202 (242, [l0, some (.int x), l2, l3, l4, l5, l6, l7, l8, l9, l10, l11, l12, l13, l14], [.int x, .ref k3, .long j2, .int i1, .ref k0], h) Q := t_iload_n k_202_241 rfl
theorem k_202_242 : lk 202 242 = some (.iaload, 243, 0, 0, .null) := by decide +kernel
theorem x_202_242 : Tr sc d 202 (242, [l0, l1, l2, l3, l4, l5, l6, l7, l8, l9, l10, l11, l12, l13, l14], [.int i4, .ref k3, .long j2, .int i1, .ref k0], h) Q = (iOk sc h k3 i4 ∧ Tr sc d 202 (243, [l0, l1, l2, l3, l4, l5, l6, l7, l8, l9, l10, l11, l12, l13, l14], [.int (iRd sc h k3 i4), .long j2, .int i1, .ref k0], h) Q) := t_iald k_202_242
theorem k_202_243 : lk 202 243 = some (.iconst 3, 244, 0, 0, .int 3) := by decide +kernel
theorem x_202_243 : Tr sc d 202 (243, [l0, l1, l2, l3, l4, l5, l6, l7, l8, l9, l10, l11, l12, l13, l14], [.int i3, .long j2, .int i1, .ref k0], h) Q = Tr sc d 202 (244, [l0, l1, l2, l3, l4, l5, l6, l7, l8, l9, l10, l11, l12, l13, l14], [.int 3, .int i3, .long j2, .int i1, .ref k0], h) Q := t_go k_202_243 rfl
theorem k_202_244 : lk 202 244 = some (.if_icmp .ne 13, 247, 257, 0, .null) := by decide +kernel
theorem x_202_244 : Tr sc d 202 (244, [l0, l1, l2, l3, l4, l5, l6, l7, l8, l9, l10, l11, l12, l13, l14], [.int i4, .int i3, .long j2, .int i1, .ref k0], h) Q = if i3 = i4 then Tr sc d 202 (247, [l0, l1, l2, l3, l4, l5, l6, l7, l8, l9, l10, l11, l12, l13, l14], [.long j2, .int i1, .ref k0], h) Q else Tr sc d 202 (257, [l0, l1, l2, l3, l4, l5, l6, l7, l8, l9, l10, l11, l12, l13, l14], [.long j2, .int i1, .ref k0], h) Q := t_if k_202_244 rfl
theorem k_202_247 : lk 202 247 = some (.aload_n 0, 248, 0, 0, .null) := by decide +kernel
theorem x_202_247 : Tr sc d 202 (247, [some (.ref xk), l1, l2, l3, l4, l5, l6, l7, l8, l9, l10, l11, l12, l13, l14], [.long j2, .int i1, .ref k0], h) Q = Tr sc d 202 (248, [some (.ref xk), l1, l2, l3, l4, l5, l6, l7, l8, l9, l10, l11, l12, l13, l14], [.ref xk, .long j2, .int i1, .ref k0], h) Q := t_aload_n k_202_247 rfl
theorem k_202_248 : lk 202 248 = some (.getfield 53, 251, 10, 22, .null) := by decide +kernel
theorem x_202_248 : Tr sc d 202 (248, [l0, l1, l2, l3, l4, l5, l6, l7, l8, l9, l10, l11, l12, l13, l14], [.ref k3, .long j2, .int i1, .ref k0], h) Q = (okp h k3 10 = true ∧ ∃ q, hR h k3 22 = some q ∧ Tr sc d 202 (251, [l0, l1, l2, l3, l4, l5, l6, l7, l8, l9, l10, l11, l12, l13, l14], [.ref q, .long j2, .int i1, .ref k0], h) Q) := t_getr k_202_248
theorem k_202_251 : lk 202 251 = some (.iload 14, 253, 14, 0, .null) := by decide +kernel
theorem x_202_251 : Tr sc d 202 (251, [l0, l1, l2, l3, l4, l5, l6, l7, l8, l9, l10, l11, l12, l13, some (.int x)], [.ref k3, .long j2, .int i1, .ref k0], h) Q = Tr sc d 202 (253, [l0, l1, l2, l3, l4, l5, l6, l7, l8, l9, l10, l11, l12, l13, some (.int x)], [.int x, .ref k3, .long j2, .int i1, .ref k0], h) Q := t_iload k_202_251 rfl
theorem k_202_253 : lk 202 253 = some (.iaload, 254, 0, 0, .null) := by decide +kernel
theorem x_202_253 : Tr sc d 202 (253, [l0, l1, l2, l3, l4, l5, l6, l7, l8, l9, l10, l11, l12, l13, l14], [.int i4, .ref k3, .long j2, .int i1, .ref k0], h) Q = (iOk sc h k3 i4 ∧ Tr sc d 202 (254, [l0, l1, l2, l3, l4, l5, l6, l7, l8, l9, l10, l11, l12, l13, l14], [.int (iRd sc h k3 i4), .long j2, .int i1, .ref k0], h) Q) := t_iald k_202_253
theorem k_202_254 : lk 202 254 = some (.goto 4, 257, 258, 0, .null) := by decide +kernel
theorem x_202_254 : Tr sc d 202 (254, [l0, l1, l2, l3, l4, l5, l6, l7, l8, l9, l10, l11, l12, l13, l14], [.int i3, .long j2, .int i1, .ref k0], h) Q = Tr sc d 202 (258, [l0, l1, l2, l3, l4, l5, l6, l7, l8, l9, l10, l11, l12, l13, l14], [.int i3, .long j2, .int i1, .ref k0], h) Q := t_go k_202_254 rfl
theorem k_202_257 : lk 202 257 = some (.iconst 1, 258, 0, 0, .int 1) := by decide +kernel
theorem x_202_257 : Tr sc d 202 (257, [l0, l1, l2, l3, l4, l5, l6, l7, l8, l9, l10, l11, l12, l13, l14], [.long j2, .int i1, .ref k0], h) Q = Tr sc d 202 (258, [l0, l1, l2, l3, l4, l5, l6, l7, l8, l9, l10, l11, l12, l13, l14], [.int 1, .long j2, .int i1, .ref k0], h) Q := t_go k_202_257 rfl
theorem k_202_258 : lk 202 258 = some (.i2l, 259, 0, 0, .null) := by decide +kernel
theorem x_202_258 : Tr sc d 202 (258, [l0, l1, l2, l3, l4, l5, l6, l7, l8, l9, l10, l11, l12, l13, l14], [.int i3, .long j2, .int i1, .ref k0], h) Q = Tr sc d 202 (259, [l0, l1, l2, l3, l4, l5, l6, l7, l8, l9, l10, l11, l12, l13, l14], [.long i3.toInt64, .long j2, .int i1, .ref k0], h) Q := t_go k_202_258 rfl
theorem k_202_259 : lk 202 259 = some (.lmul, 260, 0, 0, .null) := by decide +kernel
theorem x_202_259 : Tr sc d 202 (259, [l0, l1, l2, l3, l4, l5, l6, l7, l8, l9, l10, l11, l12, l13, l14], [.long j3, .long j2, .int i1, .ref k0], h) Q = Tr sc d 202 (260, [l0, l1, l2, l3, l4, l5, l6, l7, l8, l9, l10, l11, l12, l13, l14], [.long (j2 * j3), .int i1, .ref k0], h) Q := t_go k_202_259 rfl
theorem k_202_260 : lk 202 260 = some (.lastore, 261, 0, 0, .null) := by decide +kernel
theorem x_202_260 : Tr sc d 202 (260, [l0, l1, l2, l3, l4, l5, l6, l7, l8, l9, l10, l11, l12, l13, l14], [.long j2, .int i1, .ref k0], h) Q = ((okp h k0 12 && inb i1 (LN k0)) = true ∧ Tr sc d 202 (261, [l0, l1, l2, l3, l4, l5, l6, l7, l8, l9, l10, l11, l12, l13, l14], [], (sL h k0 i1.toNatClampNeg j2)) Q) := t_gd k_202_260 rfl
theorem k_202_261 : lk 202 261 = some (.iinc 13 (-1), 264, 13, 0, .int (-1)) := by decide +kernel
theorem x_202_261 : Tr sc d 202 (261, [l0, l1, l2, l3, l4, l5, l6, l7, l8, l9, l10, l11, l12, some (.int x), l14], [], h) Q = Tr sc d 202 (264, [l0, l1, l2, l3, l4, l5, l6, l7, l8, l9, l10, l11, cl2 l12, some (.int (x + (-1))), l14], [], h) Q := t_inc k_202_261 rfl (Nat.le_of_ble_eq_true rfl)
theorem k_202_264 : lk 202 264 = some (.goto (-145), 267, 119, 0, .null) := by decide +kernel
theorem x_202_264 : Tr sc d 202 (264, [l0, l1, l2, l3, l4, l5, l6, l7, l8, l9, l10, l11, l12, l13, l14], [], h) Q = Tr sc d 202 (119, [l0, l1, l2, l3, l4, l5, l6, l7, l8, l9, l10, l11, l12, l13, l14], [], h) Q := t_go k_202_264 rfl
theorem k_202_267 : lk 202 267 = some (.iinc 7 (-1), 270, 7, 0, .int (-1)) := by decide +kernel
theorem x_202_267 : Tr sc d 202 (267, [l0, l1, l2, l3, l4, l5, l6, some (.int x), l8, l9, l10, l11, l12, l13, l14], [], h) Q = Tr sc d 202 (270, [l0, l1, l2, l3, l4, l5, cl2 l6, some (.int (x + (-1))), l8, l9, l10, l11, l12, l13, l14], [], h) Q := t_inc k_202_267 rfl (Nat.le_of_ble_eq_true rfl)
theorem k_202_270 : lk 202 270 = some (.goto (-202), 273, 68, 0, .null) := by decide +kernel
theorem x_202_270 : Tr sc d 202 (270, [l0, l1, l2, l3, l4, l5, l6, l7, l8, l9, l10, l11, l12, l13, l14], [], h) Q = Tr sc d 202 (68, [l0, l1, l2, l3, l4, l5, l6, l7, l8, l9, l10, l11, l12, l13, l14], [], h) Q := t_go k_202_270 rfl
theorem k_202_273 : lk 202 273 = some (.aload_n 0, 274, 0, 0, .null) := by decide +kernel
theorem x_202_273 : Tr sc d 202 (273, [some (.ref xk), l1, l2, l3, l4, l5, l6, l7, l8, l9, l10, l11, l12, l13, l14], [], h) Q = Tr sc d 202 (274, [some (.ref xk), l1, l2, l3, l4, l5, l6, l7, l8, l9, l10, l11, l12, l13, l14], [.ref xk], h) Q := t_aload_n k_202_273 rfl
theorem k_202_274 : lk 202 274 = some (.iconst 0, 275, 0, 0, .int 0) := by decide +kernel
theorem x_202_274 : Tr sc d 202 (274, [l0, l1, l2, l3, l4, l5, l6, l7, l8, l9, l10, l11, l12, l13, l14], [.ref k0], h) Q = Tr sc d 202 (275, [l0, l1, l2, l3, l4, l5, l6, l7, l8, l9, l10, l11, l12, l13, l14], [.int 0, .ref k0], h) Q := t_go k_202_274 rfl
theorem k_202_275 : lk 202 275 = some (.putfield 270, 278, 10, 31, .int 0) := by decide +kernel
theorem x_202_275 : Tr sc d 202 (275, [l0, l1, l2, l3, l4, l5, l6, l7, l8, l9, l10, l11, l12, l13, l14], [.int i1, .ref k0], h) Q = (okp h k0 10 = true ∧ Tr sc d 202 (278, [l0, l1, l2, l3, l4, l5, l6, l7, l8, l9, l10, l11, l12, l13, l14], [], (sI h k0 31 i1)) Q) := t_gd k_202_275 rfl
theorem k_202_278 : lk 202 278 = some (.iconst 0, 279, 0, 0, .int 0) := by decide +kernel
theorem x_202_278 : Tr sc d 202 (278, [l0, l1, l2, l3, l4, l5, l6, l7, l8, l9, l10, l11, l12, l13, l14], [], h) Q = Tr sc d 202 (279, [l0, l1, l2, l3, l4, l5, l6, l7, l8, l9, l10, l11, l12, l13, l14], [.int 0], h) Q := t_go k_202_278 rfl
theorem k_202_279 : lk 202 279 = some (.istore 7, 281, 7, 0, .null) := by decide +kernel
theorem x_202_279 : Tr sc d 202 (279, [l0, l1, l2, l3, l4, l5, l6, l7, l8, l9, l10, l11, l12, l13, l14], [.int i0], h) Q = Tr sc d 202 (281, [l0, l1, l2, l3, l4, l5, cl2 l6, some (.int i0), l8, l9, l10, l11, l12, l13, l14], [], h) Q := t_istore k_202_279 (Nat.le_of_ble_eq_true rfl)
theorem k_202_281 : lk 202 281 = some (.iload 7, 283, 7, 0, .null) := by decide +kernel
theorem x_202_281 : Tr sc d 202 (281, [l0, l1, l2, l3, l4, l5, l6, some (.int x), l8, l9, l10, l11, l12, l13, l14], [], h) Q = Tr sc d 202 (283, [l0, l1, l2, l3, l4, l5, l6, some (.int x), l8, l9, l10, l11, l12, l13, l14], [.int x], h) Q := t_iload k_202_281 rfl
theorem k_202_283 : lk 202 283 = some (.iload 5, 285, 5, 0, .null) := by decide +kernel
theorem x_202_283 : Tr sc d 202 (283, [l0, l1, l2, l3, l4, some (.int x), l6, l7, l8, l9, l10, l11, l12, l13, l14], [.int i0], h) Q = Tr sc d 202 (285, [l0, l1, l2, l3, l4, some (.int x), l6, l7, l8, l9, l10, l11, l12, l13, l14], [.int x, .int i0], h) Q := t_iload k_202_283 rfl
theorem k_202_285 : lk 202 285 = some (.aload_n 0, 286, 0, 0, .null) := by decide +kernel
theorem x_202_285 : Tr sc d 202 (285, [some (.ref xk), l1, l2, l3, l4, l5, l6, l7, l8, l9, l10, l11, l12, l13, l14], [.int i1, .int i0], h) Q = Tr sc d 202 (286, [some (.ref xk), l1, l2, l3, l4, l5, l6, l7, l8, l9, l10, l11, l12, l13, l14], [.ref xk, .int i1, .int i0], h) Q := t_aload_n k_202_285 rfl
theorem k_202_286 : lk 202 286 = some (.getfield 41, 289, 10, 18, .null) := by decide +kernel
theorem x_202_286 : Tr sc d 202 (286, [l0, l1, l2, l3, l4, l5, l6, l7, l8, l9, l10, l11, l12, l13, l14], [.ref k2, .int i1, .int i0], h) Q = (okp h k2 10 = true ∧ ∃ q, hR h k2 18 = some q ∧ Tr sc d 202 (289, [l0, l1, l2, l3, l4, l5, l6, l7, l8, l9, l10, l11, l12, l13, l14], [.ref q, .int i1, .int i0], h) Q) := t_getr k_202_286
theorem k_202_289 : lk 202 289 = some (.iload_n 1, 290, 1, 0, .null) := by decide +kernel
theorem x_202_289 : Tr sc d 202 (289, [l0, some (.int x), l2, l3, l4, l5, l6, l7, l8, l9, l10, l11, l12, l13, l14], [.ref k2, .int i1, .int i0], h) Q = Tr sc d 202 (290, [l0, some (.int x), l2, l3, l4, l5, l6, l7, l8, l9, l10, l11, l12, l13, l14], [.int x, .ref k2, .int i1, .int i0], h) Q := t_iload_n k_202_289 rfl
theorem k_202_290 : lk 202 290 = some (.iaload, 291, 0, 0, .null) := by decide +kernel
theorem x_202_290 : Tr sc d 202 (290, [l0, l1, l2, l3, l4, l5, l6, l7, l8, l9, l10, l11, l12, l13, l14], [.int i3, .ref k2, .int i1, .int i0], h) Q = (iOk sc h k2 i3 ∧ Tr sc d 202 (291, [l0, l1, l2, l3, l4, l5, l6, l7, l8, l9, l10, l11, l12, l13, l14], [.int (iRd sc h k2 i3), .int i1, .int i0], h) Q) := t_iald k_202_290
theorem k_202_291 : lk 202 291 = some (.imul, 292, 0, 0, .null) := by decide +kernel
theorem x_202_291 : Tr sc d 202 (291, [l0, l1, l2, l3, l4, l5, l6, l7, l8, l9, l10, l11, l12, l13, l14], [.int i2, .int i1, .int i0], h) Q = Tr sc d 202 (292, [l0, l1, l2, l3, l4, l5, l6, l7, l8, l9, l10, l11, l12, l13, l14], [.int (i1 * i2), .int i0], h) Q := t_go k_202_291 rfl
theorem k_202_292 : lk 202 292 = some (.if_icmp .ge 95, 295, 387, 0, .null) := by decide +kernel
theorem x_202_292 : Tr sc d 202 (292, [l0, l1, l2, l3, l4, l5, l6, l7, l8, l9, l10, l11, l12, l13, l14], [.int i1, .int i0], h) Q = if i1 ≤ i0 then Tr sc d 202 (387, [l0, l1, l2, l3, l4, l5, l6, l7, l8, l9, l10, l11, l12, l13, l14], [], h) Q else Tr sc d 202 (295, [l0, l1, l2, l3, l4, l5, l6, l7, l8, l9, l10, l11, l12, l13, l14], [], h) Q := t_if k_202_292 rfl
theorem k_202_295 : lk 202 295 = some (.aload_n 0, 296, 0, 0, .null) := by decide +kernel
theorem x_202_295 : Tr sc d 202 (295, [some (.ref xk), l1, l2, l3, l4, l5, l6, l7, l8, l9, l10, l11, l12, l13, l14], [], h) Q = Tr sc d 202 (296, [some (.ref xk), l1, l2, l3, l4, l5, l6, l7, l8, l9, l10, l11, l12, l13, l14], [.ref xk], h) Q := t_aload_n k_202_295 rfl
theorem k_202_296 : lk 202 296 = some (.getfield 69, 299, 10, 34, .null) := by decide +kernel
theorem x_202_296 : Tr sc d 202 (296, [l0, l1, l2, l3, l4, l5, l6, l7, l8, l9, l10, l11, l12, l13, l14], [.ref k0], h) Q = (okp h k0 10 = true ∧ ∃ q, hR h k0 34 = some q ∧ Tr sc d 202 (299, [l0, l1, l2, l3, l4, l5, l6, l7, l8, l9, l10, l11, l12, l13, l14], [.ref q], h) Q) := t_getr k_202_296
theorem k_202_299 : lk 202 299 = some (.iload 7, 301, 7, 0, .null) := by decide +kernel
theorem x_202_299 : Tr sc d 202 (299, [l0, l1, l2, l3, l4, l5, l6, some (.int x), l8, l9, l10, l11, l12, l13, l14], [.ref k0], h) Q = Tr sc d 202 (301, [l0, l1, l2, l3, l4, l5, l6, some (.int x), l8, l9, l10, l11, l12, l13, l14], [.int x, .ref k0], h) Q := t_iload k_202_299 rfl
theorem k_202_301 : lk 202 301 = some (.iaload, 302, 0, 0, .null) := by decide +kernel
theorem x_202_301 : Tr sc d 202 (301, [l0, l1, l2, l3, l4, l5, l6, l7, l8, l9, l10, l11, l12, l13, l14], [.int i1, .ref k0], h) Q = (iOk sc h k0 i1 ∧ Tr sc d 202 (302, [l0, l1, l2, l3, l4, l5, l6, l7, l8, l9, l10, l11, l12, l13, l14], [.int (iRd sc h k0 i1)], h) Q) := t_iald k_202_301
theorem k_202_302 : lk 202 302 = some (.bipush 6, 304, 0, 0, .int 6) := by decide +kernel
theorem x_202_302 : Tr sc d 202 (302, [l0, l1, l2, l3, l4, l5, l6, l7, l8, l9, l10, l11, l12, l13, l14], [.int i0], h) Q = Tr sc d 202 (304, [l0, l1, l2, l3, l4, l5, l6, l7, l8, l9, l10, l11, l12, l13, l14], [.int 6, .int i0], h) Q := t_go k_202_302 rfl
theorem k_202_304 : lk 202 304 = some (.if_icmp .ge 77, 307, 381, 0, .null) := by decide +kernel
theorem x_202_304 : Tr sc d 202 (304, [l0, l1, l2, l3, l4, l5, l6, l7, l8, l9, l10, l11, l12, l13, l14], [.int i1, .int i0], h) Q = if i1 ≤ i0 then Tr sc d 202 (381, [l0, l1, l2, l3, l4, l5, l6, l7, l8, l9, l10, l11, l12, l13, l14], [], h) Q else Tr sc d 202 (307, [l0, l1, l2, l3, l4, l5, l6, l7, l8, l9, l10, l11, l12, l13, l14], [], h) Q := t_if k_202_304 rfl
theorem k_202_307 : lk 202 307 = some (.aload_n 0, 308, 0, 0, .null) := by decide +kernel
theorem x_202_307 : Tr sc d 202 (307, [some (.ref xk), l1, l2, l3, l4, l5, l6, l7, l8, l9, l10, l11, l12, l13, l14], [], h) Q = Tr sc d 202 (308, [some (.ref xk), l1, l2, l3, l4, l5, l6, l7, l8, l9, l10, l11, l12, l13, l14], [.ref xk], h) Q := t_aload_n k_202_307 rfl
theorem k_202_308 : lk 202 308 = some (.getfield 63, 311, 10, 32, .null) := by decide +kernel
theorem x_202_308 : Tr sc d 202 (308, [l0, l1, l2, l3, l4, l5, l6, l7, l8, l9, l10, l11, l12, l13, l14], [.ref k0], h) Q = (okp h k0 10 = true ∧ ∃ q, hR h k0 32 = some q ∧ Tr sc d 202 (311, [l0, l1, l2, l3, l4, l5, l6, l7, l8, l9, l10, l11, l12, l13, l14], [.ref q], h) Q) := t_getr k_202_308
theorem k_202_311 : lk 202 311 = some (.aload_n 0, 312, 0, 0, .null) := by decide +kernel
theorem x_202_311 : Tr sc d 202 (311, [some (.ref xk), l1, l2, l3, l4, l5, l6, l7, l8, l9, l10, l11, l12, l13, l14], [.ref k0], h) Q = Tr sc d 202 (312, [some (.ref xk), l1, l2, l3, l4, l5, l6, l7, l8, l9, l10, l11, l12, l13, l14], [.ref xk, .ref k0], h) Q := t_aload_n k_202_311 rfl
theorem k_202_312 : lk 202 312 = some (.getfield 270, 315, 10, 31, .int 0) := by decide +kernel
theorem x_202_312 : Tr sc d 202 (312, [l0, l1, l2, l3, l4, l5, l6, l7, l8, l9, l10, l11, l12, l13, l14], [.ref k1, .ref k0], h) Q = (okp h k1 10 = true ∧ Tr sc d 202 (315, [l0, l1, l2, l3, l4, l5, l6, l7, l8, l9, l10, l11, l12, l13, l14], [.int (hI h k1 31), .ref k0], h) Q) := t_gd k_202_312 rfl
theorem k_202_315 : lk 202 315 = some (.aload_n 0, 316, 0, 0, .null) := by decide +kernel
theorem x_202_315 : Tr sc d 202 (315, [some (.ref xk), l1, l2, l3, l4, l5, l6, l7, l8, l9, l10, l11, l12, l13, l14], [.int i1, .ref k0], h) Q = Tr sc d 202 (316, [some (.ref xk), l1, l2, l3, l4, l5, l6, l7, l8, l9, l10, l11, l12, l13, l14], [.ref xk, .int i1, .ref k0], h) Q := t_aload_n k_202_315 rfl
theorem k_202_316 : lk 202 316 = some (.getfield 63, 319, 10, 32, .null) := by decide +kernel
theorem x_202_316 : Tr sc d 202 (316, [l0, l1, l2, l3, l4, l5, l6, l7, l8, l9, l10, l11, l12, l13, l14], [.ref k2, .int i1, .ref k0], h) Q = (okp h k2 10 = true ∧ ∃ q, hR h k2 32 = some q ∧ Tr sc d 202 (319, [l0, l1, l2, l3, l4, l5, l6, l7, l8, l9, l10, l11, l12, l13, l14], [.ref q, .int i1, .ref k0], h) Q) := t_getr k_202_316
theorem k_202_319 : lk 202 319 = some (.iload 7, 321, 7, 0, .null) := by decide +kernel
theorem x_202_319 : Tr sc d 202 (319, [l0, l1, l2, l3, l4, l5, l6, some (.int x), l8, l9, l10, l11, l12, l13, l14], [.ref k2, .int i1, .ref k0], h) Q = Tr sc d 202 (321, [l0, l1, l2, l3, l4, l5, l6, some (.int x), l8, l9, l10, l11, l12, l13, l14], [.int x, .ref k2, .int i1, .ref k0], h) Q := t_iload k_202_319 rfl
theorem k_202_321 : lk 202 321 = some (.iaload, 322, 0, 0, .null) := by decide +kernel
theorem x_202_321 : Tr sc d 202 (321, [l0, l1, l2, l3, l4, l5, l6, l7, l8, l9, l10, l11, l12, l13, l14], [.int i3, .ref k2, .int i1, .ref k0], h) Q = (iOk sc h k2 i3 ∧ Tr sc d 202 (322, [l0, l1, l2, l3, l4, l5, l6, l7, l8, l9, l10, l11, l12, l13, l14], [.int (iRd sc h k2 i3), .int i1, .ref k0], h) Q) := t_iald k_202_321
theorem k_202_322 : lk 202 322 = some (.iastore, 323, 0, 0, .null) := by decide +kernel
theorem x_202_322 : Tr sc d 202 (322, [l0, l1, l2, l3, l4, l5, l6, l7, l8, l9, l10, l11, l12, l13, l14], [.int i2, .int i1, .ref k0], h) Q = ((okp h k0 11 && inb i1 (LN k0)) = true ∧ Tr sc d 202 (323, [l0, l1, l2, l3, l4, l5, l6, l7, l8, l9, l10, l11, l12, l13, l14], [], (sI h k0 i1.toNatClampNeg i2)) Q) := t_gd k_202_322 rfl
theorem k_202_323 : lk 202 323 = some (.aload_n 0, 324, 0, 0, .null) := by decide +kernel
theorem x_202_323 : Tr sc d 202 (323, [some (.ref xk), l1, l2, l3, l4, l5, l6, l7, l8, l9, l10, l11, l12, l13, l14], [], h) Q = Tr sc d 202 (324, [some (.ref xk), l1, l2, l3, l4, l5, l6, l7, l8, l9, l10, l11, l12, l13, l14], [.ref xk], h) Q := t_aload_n k_202_323 rfl
theorem k_202_324 : lk 202 324 = some (.getfield 66, 327, 10, 33, .null) := by decide +kernel
theorem x_202_324 : Tr sc d 202 (324, [l0, l1, l2, l3, l4, l5, l6, l7, l8, l9, l10, l11, l12, l13, l14], [.ref k0], h) Q = (okp h k0 10 = true ∧ ∃ q, hR h k0 33 = some q ∧ Tr sc d 202 (327, [l0, l1, l2, l3, l4, l5, l6, l7, l8, l9, l10, l11, l12, l13, l14], [.ref q], h) Q) := t_getr k_202_324
theorem k_202_327 : lk 202 327 = some (.aload_n 0, 328, 0, 0, .null) := by decide +kernel
theorem x_202_327 : Tr sc d 202 (327, [some (.ref xk), l1, l2, l3, l4, l5, l6, l7, l8, l9, l10, l11, l12, l13, l14], [.ref k0], h) Q = Tr sc d 202 (328, [some (.ref xk), l1, l2, l3, l4, l5, l6, l7, l8, l9, l10, l11, l12, l13, l14], [.ref xk, .ref k0], h) Q := t_aload_n k_202_327 rfl
theorem k_202_328 : lk 202 328 = some (.getfield 270, 331, 10, 31, .int 0) := by decide +kernel
theorem x_202_328 : Tr sc d 202 (328, [l0, l1, l2, l3, l4, l5, l6, l7, l8, l9, l10, l11, l12, l13, l14], [.ref k1, .ref k0], h) Q = (okp h k1 10 = true ∧ Tr sc d 202 (331, [l0, l1, l2, l3, l4, l5, l6, l7, l8, l9, l10, l11, l12, l13, l14], [.int (hI h k1 31), .ref k0], h) Q) := t_gd k_202_328 rfl
theorem k_202_331 : lk 202 331 = some (.aload_n 0, 332, 0, 0, .null) := by decide +kernel
theorem x_202_331 : Tr sc d 202 (331, [some (.ref xk), l1, l2, l3, l4, l5, l6, l7, l8, l9, l10, l11, l12, l13, l14], [.int i1, .ref k0], h) Q = Tr sc d 202 (332, [some (.ref xk), l1, l2, l3, l4, l5, l6, l7, l8, l9, l10, l11, l12, l13, l14], [.ref xk, .int i1, .ref k0], h) Q := t_aload_n k_202_331 rfl
theorem k_202_332 : lk 202 332 = some (.getfield 66, 335, 10, 33, .null) := by decide +kernel
theorem x_202_332 : Tr sc d 202 (332, [l0, l1, l2, l3, l4, l5, l6, l7, l8, l9, l10, l11, l12, l13, l14], [.ref k2, .int i1, .ref k0], h) Q = (okp h k2 10 = true ∧ ∃ q, hR h k2 33 = some q ∧ Tr sc d 202 (335, [l0, l1, l2, l3, l4, l5, l6, l7, l8, l9, l10, l11, l12, l13, l14], [.ref q, .int i1, .ref k0], h) Q) := t_getr k_202_332
theorem k_202_335 : lk 202 335 = some (.iload 7, 337, 7, 0, .null) := by decide +kernel
theorem x_202_335 : Tr sc d 202 (335, [l0, l1, l2, l3, l4, l5, l6, some (.int x), l8, l9, l10, l11, l12, l13, l14], [.ref k2, .int i1, .ref k0], h) Q = Tr sc d 202 (337, [l0, l1, l2, l3, l4, l5, l6, some (.int x), l8, l9, l10, l11, l12, l13, l14], [.int x, .ref k2, .int i1, .ref k0], h) Q := t_iload k_202_335 rfl
theorem k_202_337 : lk 202 337 = some (.iaload, 338, 0, 0, .null) := by decide +kernel
theorem x_202_337 : Tr sc d 202 (337, [l0, l1, l2, l3, l4, l5, l6, l7, l8, l9, l10, l11, l12, l13, l14], [.int i3, .ref k2, .int i1, .ref k0], h) Q = (iOk sc h k2 i3 ∧ Tr sc d 202 (338, [l0, l1, l2, l3, l4, l5, l6, l7, l8, l9, l10, l11, l12, l13, l14], [.int (iRd sc h k2 i3), .int i1, .ref k0], h) Q) := t_iald k_202_337
theorem k_202_338 : lk 202 338 = some (.iastore, 339, 0, 0, .null) := by decide +kernel
theorem x_202_338 : Tr sc d 202 (338, [l0, l1, l2, l3, l4, l5, l6, l7, l8, l9, l10, l11, l12, l13, l14], [.int i2, .int i1, .ref k0], h) Q = ((okp h k0 11 && inb i1 (LN k0)) = true ∧ Tr sc d 202 (339, [l0, l1, l2, l3, l4, l5, l6, l7, l8, l9, l10, l11, l12, l13, l14], [], (sI h k0 i1.toNatClampNeg i2)) Q) := t_gd k_202_338 rfl
theorem k_202_339 : lk 202 339 = some (.aload_n 0, 340, 0, 0, .null) := by decide +kernel
theorem x_202_339 : Tr sc d 202 (339, [some (.ref xk), l1, l2, l3, l4, l5, l6, l7, l8, l9, l10, l11, l12, l13, l14], [], h) Q = Tr sc d 202 (340, [some (.ref xk), l1, l2, l3, l4, l5, l6, l7, l8, l9, l10, l11, l12, l13, l14], [.ref xk], h) Q := t_aload_n k_202_339 rfl
theorem k_202_340 : lk 202 340 = some (.getfield 69, 343, 10, 34, .null) := by decide +kernel
theorem x_202_340 : Tr sc d 202 (340, [l0, l1, l2, l3, l4, l5, l6, l7, l8, l9, l10, l11, l12, l13, l14], [.ref k0], h) Q = (okp h k0 10 = true ∧ ∃ q, hR h k0 34 = some q ∧ Tr sc d 202 (343, [l0, l1, l2, l3, l4, l5, l6, l7, l8, l9, l10, l11, l12, l13, l14], [.ref q], h) Q) := t_getr k_202_340
theorem k_202_343 : lk 202 343 = some (.aload_n 0, 344, 0, 0, .null) := by decide +kernel
theorem x_202_343 : Tr sc d 202 (343, [some (.ref xk), l1, l2, l3, l4, l5, l6, l7, l8, l9, l10, l11, l12, l13, l14], [.ref k0], h) Q = Tr sc d 202 (344, [some (.ref xk), l1, l2, l3, l4, l5, l6, l7, l8, l9, l10, l11, l12, l13, l14], [.ref xk, .ref k0], h) Q := t_aload_n k_202_343 rfl
theorem k_202_344 : lk 202 344 = some (.getfield 270, 347, 10, 31, .int 0) := by decide +kernel
theorem x_202_344 : Tr sc d 202 (344, [l0, l1, l2, l3, l4, l5, l6, l7, l8, l9, l10, l11, l12, l13, l14], [.ref k1, .ref k0], h) Q = (okp h k1 10 = true ∧ Tr sc d 202 (347, [l0, l1, l2, l3, l4, l5, l6, l7, l8, l9, l10, l11, l12, l13, l14], [.int (hI h k1 31), .ref k0], h) Q) := t_gd k_202_344 rfl
theorem k_202_347 : lk 202 347 = some (.aload_n 0, 348, 0, 0, .null) := by decide +kernel
theorem x_202_347 : Tr sc d 202 (347, [some (.ref xk), l1, l2, l3, l4, l5, l6, l7, l8, l9, l10, l11, l12, l13, l14], [.int i1, .ref k0], h) Q = Tr sc d 202 (348, [some (.ref xk), l1, l2, l3, l4, l5, l6, l7, l8, l9, l10, l11, l12, l13, l14], [.ref xk, .int i1, .ref k0], h) Q := t_aload_n k_202_347 rfl
theorem k_202_348 : lk 202 348 = some (.getfield 69, 351, 10, 34, .null) := by decide +kernel
theorem x_202_348 : Tr sc d 202 (348, [l0, l1, l2, l3, l4, l5, l6, l7, l8, l9, l10, l11, l12, l13, l14], [.ref k2, .int i1, .ref k0], h) Q = (okp h k2 10 = true ∧ ∃ q, hR h k2 34 = some q ∧ Tr sc d 202 (351, [l0, l1, l2, l3, l4, l5, l6, l7, l8, l9, l10, l11, l12, l13, l14], [.ref q, .int i1, .ref k0], h) Q) := t_getr k_202_348
theorem k_202_351 : lk 202 351 = some (.iload 7, 353, 7, 0, .null) := by decide +kernel
theorem x_202_351 : Tr sc d 202 (351, [l0, l1, l2, l3, l4, l5, l6, some (.int x), l8, l9, l10, l11, l12, l13, l14], [.ref k2, .int i1, .ref k0], h) Q = Tr sc d 202 (353, [l0, l1, l2, l3, l4, l5, l6, some (.int x), l8, l9, l10, l11, l12, l13, l14], [.int x, .ref k2, .int i1, .ref k0], h) Q := t_iload k_202_351 rfl
theorem k_202_353 : lk 202 353 = some (.iaload, 354, 0, 0, .null) := by decide +kernel
theorem x_202_353 : Tr sc d 202 (353, [l0, l1, l2, l3, l4, l5, l6, l7, l8, l9, l10, l11, l12, l13, l14], [.int i3, .ref k2, .int i1, .ref k0], h) Q = (iOk sc h k2 i3 ∧ Tr sc d 202 (354, [l0, l1, l2, l3, l4, l5, l6, l7, l8, l9, l10, l11, l12, l13, l14], [.int (iRd sc h k2 i3), .int i1, .ref k0], h) Q) := t_iald k_202_353
theorem k_202_354 : lk 202 354 = some (.iastore, 355, 0, 0, .null) := by decide +kernel
theorem x_202_354 : Tr sc d 202 (354, [l0, l1, l2, l3, l4, l5, l6, l7, l8, l9, l10, l11, l12, l13, l14], [.int i2, .int i1, .ref k0], h) Q = ((okp h k0 11 && inb i1 (LN k0)) = true ∧ Tr sc d 202 (355, [l0, l1, l2, l3, l4, l5, l6, l7, l8, l9, l10, l11, l12, l13, l14], [], (sI h k0 i1.toNatClampNeg i2)) Q) := t_gd k_202_354 rfl
theorem k_202_355 : lk 202 355 = some (.aload_n 0, 356, 0, 0, .null) := by decide +kernel
theorem x_202_355 : Tr sc d 202 (355, [some (.ref xk), l1, l2, l3, l4, l5, l6, l7, l8, l9, l10, l11, l12, l13, l14], [], h) Q = Tr sc d 202 (356, [some (.ref xk), l1, l2, l3, l4, l5, l6, l7, l8, l9, l10, l11, l12, l13, l14], [.ref xk], h) Q := t_aload_n k_202_355 rfl
theorem k_202_356 : lk 202 356 = some (.getfield 72, 359, 10, 35, .null) := by decide +kernel
theorem x_202_356 : Tr sc d 202 (356, [l0, l1, l2, l3, l4, l5, l6, l7, l8, l9, l10, l11, l12, l13, l14], [.ref k0], h) Q = (okp h k0 10 = true ∧ ∃ q, hR h k0 35 = some q ∧ Tr sc d 202 (359, [l0, l1, l2, l3, l4, l5, l6, l7, l8, l9, l10, l11, l12, l13, l14], [.ref q], h) Q) := t_getr k_202_356
theorem k_202_359 : lk 202 359 = some (.aload_n 0, 360, 0, 0, .null) := by decide +kernel
theorem x_202_359 : Tr sc d 202 (359, [some (.ref xk), l1, l2, l3, l4, l5, l6, l7, l8, l9, l10, l11, l12, l13, l14], [.ref k0], h) Q = Tr sc d 202 (360, [some (.ref xk), l1, l2, l3, l4, l5, l6, l7, l8, l9, l10, l11, l12, l13, l14], [.ref xk, .ref k0], h) Q := t_aload_n k_202_359 rfl
theorem k_202_360 : lk 202 360 = some (.getfield 270, 363, 10, 31, .int 0) := by decide +kernel
theorem x_202_360 : Tr sc d 202 (360, [l0, l1, l2, l3, l4, l5, l6, l7, l8, l9, l10, l11, l12, l13, l14], [.ref k1, .ref k0], h) Q = (okp h k1 10 = true ∧ Tr sc d 202 (363, [l0, l1, l2, l3, l4, l5, l6, l7, l8, l9, l10, l11, l12, l13, l14], [.int (hI h k1 31), .ref k0], h) Q) := t_gd k_202_360 rfl
theorem k_202_363 : lk 202 363 = some (.aload_n 0, 364, 0, 0, .null) := by decide +kernel
theorem x_202_363 : Tr sc d 202 (363, [some (.ref xk), l1, l2, l3, l4, l5, l6, l7, l8, l9, l10, l11, l12, l13, l14], [.int i1, .ref k0], h) Q = Tr sc d 202 (364, [some (.ref xk), l1, l2, l3, l4, l5, l6, l7, l8, l9, l10, l11, l12, l13, l14], [.ref xk, .int i1, .ref k0], h) Q := t_aload_n k_202_363 rfl
theorem k_202_364 : lk 202 364 = some (.getfield 72, 367, 10, 35, .null) := by decide +kernel
theorem x_202_364 : Tr sc d 202 (364, [l0, l1, l2, l3, l4, l5, l6, l7, l8, l9, l10, l11, l12, l13, l14], [.ref k2, .int i1, .ref k0], h) Q = (okp h k2 10 = true ∧ ∃ q, hR h k2 35 = some q ∧ Tr sc d 202 (367, [l0, l1, l2, l3, l4, l5, l6, l7, l8, l9, l10, l11, l12, l13, l14], [.ref q, .int i1, .ref k0], h) Q) := t_getr k_202_364
theorem k_202_367 : lk 202 367 = some (.iload 7, 369, 7, 0, .null) := by decide +kernel
theorem x_202_367 : Tr sc d 202 (367, [l0, l1, l2, l3, l4, l5, l6, some (.int x), l8, l9, l10, l11, l12, l13, l14], [.ref k2, .int i1, .ref k0], h) Q = Tr sc d 202 (369, [l0, l1, l2, l3, l4, l5, l6, some (.int x), l8, l9, l10, l11, l12, l13, l14], [.int x, .ref k2, .int i1, .ref k0], h) Q := t_iload k_202_367 rfl
theorem k_202_369 : lk 202 369 = some (.laload, 370, 0, 0, .null) := by decide +kernel
theorem x_202_369 : Tr sc d 202 (369, [l0, l1, l2, l3, l4, l5, l6, l7, l8, l9, l10, l11, l12, l13, l14], [.int i3, .ref k2, .int i1, .ref k0], h) Q = ((okp h k2 12 && inb i3 (LN k2)) = true ∧ Tr sc d 202 (370, [l0, l1, l2, l3, l4, l5, l6, l7, l8, l9, l10, l11, l12, l13, l14], [.long (hL h k2 i3.toNatClampNeg), .int i1, .ref k0], h) Q) := t_gd k_202_369 rfl
theorem k_202_370 : lk 202 370 = some (.lastore, 371, 0, 0, .null) := by decide +kernel
theorem x_202_370 : Tr sc d 202 (370, [l0, l1, l2, l3, l4, l5, l6, l7, l8, l9, l10, l11, l12, l13, l14], [.long j2, .int i1, .ref k0], h) Q = ((okp h k0 12 && inb i1 (LN k0)) = true ∧ Tr sc d 202 (371, [l0, l1, l2, l3, l4, l5, l6, l7, l8, l9, l10, l11, l12, l13, l14], [], (sL h k0 i1.toNatClampNeg j2)) Q) := t_gd k_202_370 rfl
theorem k_202_371 : lk 202 371 = some (.aload_n 0, 372, 0, 0, .null) := by decide +kernel
theorem x_202_371 : Tr sc d 202 (371, [some (.ref xk), l1, l2, l3, l4, l5, l6, l7, l8, l9, l10, l11, l12, l13, l14], [], h) Q = Tr sc d 202 (372, [some (.ref xk), l1, l2, l3, l4, l5, l6, l7, l8, l9, l10, l11, l12, l13, l14], [.ref xk], h) Q := t_aload_n k_202_371 rfl
theorem k_202_372 : lk 202 372 = some (.dup, 373, 0, 0, .null) := by decide +kernel
theorem x_202_372 : Tr sc d 202 (372, [l0, l1, l2, l3, l4, l5, l6, l7, l8, l9, l10, l11, l12, l13, l14], [.ref k0], h) Q = Tr sc d 202 (373, [l0, l1, l2, l3, l4, l5, l6, l7, l8, l9, l10, l11, l12, l13, l14], [.ref k0, .ref k0], h) Q := t_go k_202_372 rfl
theorem k_202_373 : lk 202 373 = some (.getfield 270, 376, 10, 31, .int 0) := by decide +kernel
theorem x_202_373 : Tr sc d 202 (373, [l0, l1, l2, l3, l4, l5, l6, l7, l8, l9, l10, l11, l12, l13, l14], [.ref k1, .ref k0], h) Q = (okp h k1 10 = true ∧ Tr sc d 202 (376, [l0, l1, l2, l3, l4, l5, l6, l7, l8, l9, l10, l11, l12, l13, l14], [.int (hI h k1 31), .ref k0], h) Q) := t_gd k_202_373 rfl
theorem k_202_376 : lk 202 376 = some (.iconst 1, 377, 0, 0, .int 1) := by decide +kernel
theorem x_202_376 : Tr sc d 202 (376, [l0, l1, l2, l3, l4, l5, l6, l7, l8, l9, l10, l11, l12, l13, l14], [.int i1, .ref k0], h) Q = Tr sc d 202 (377, [l0, l1, l2, l3, l4, l5, l6, l7, l8, l9, l10, l11, l12, l13, l14], [.int 1, .int i1, .ref k0], h) Q := t_go k_202_376 rfl
theorem k_202_377 : lk 202 377 = some (.iadd, 378, 0, 0, .null) := by decide +kernel
theorem x_202_377 : Tr sc d 202 (377, [l0, l1, l2, l3, l4, l5, l6, l7, l8, l9, l10, l11, l12, l13, l14], [.int i2, .int i1, .ref k0], h) Q = Tr sc d 202 (378, [l0, l1, l2, l3, l4, l5, l6, l7, l8, l9, l10, l11, l12, l13, l14], [.int (i1 + i2), .ref k0], h) Q := t_go k_202_377 rfl
theorem k_202_378 : lk 202 378 = some (.putfield 270, 381, 10, 31, .int 0) := by decide +kernel
theorem x_202_378 : Tr sc d 202 (378, [l0, l1, l2, l3, l4, l5, l6, l7, l8, l9, l10, l11, l12, l13, l14], [.int i1, .ref k0], h) Q = (okp h k0 10 = true ∧ Tr sc d 202 (381, [l0, l1, l2, l3, l4, l5, l6, l7, l8, l9, l10, l11, l12, l13, l14], [], (sI h k0 31 i1)) Q) := t_gd k_202_378 rfl
theorem k_202_381 : lk 202 381 = some (.iinc 7 1, 384, 7, 0, .int 1) := by decide +kernel
theorem x_202_381 : Tr sc d 202 (381, [l0, l1, l2, l3, l4, l5, l6, some (.int x), l8, l9, l10, l11, l12, l13, l14], [], h) Q = Tr sc d 202 (384, [l0, l1, l2, l3, l4, l5, cl2 l6, some (.int (x + 1)), l8, l9, l10, l11, l12, l13, l14], [], h) Q := t_inc k_202_381 rfl (Nat.le_of_ble_eq_true rfl)
theorem k_202_384 : lk 202 384 = some (.goto (-103), 387, 281, 0, .null) := by decide +kernel
theorem x_202_384 : Tr sc d 202 (384, [l0, l1, l2, l3, l4, l5, l6, l7, l8, l9, l10, l11, l12, l13, l14], [], h) Q = Tr sc d 202 (281, [l0, l1, l2, l3, l4, l5, l6, l7, l8, l9, l10, l11, l12, l13, l14], [], h) Q := t_go k_202_384 rfl
theorem k_202_387 : lk 202 387 = some (.iload_n 3, 388, 3, 0, .null) := by decide +kernel
theorem x_202_387 : Tr sc d 202 (387, [l0, l1, l2, some (.int x), l4, l5, l6, l7, l8, l9, l10, l11, l12, l13, l14], [], h) Q = Tr sc d 202 (388, [l0, l1, l2, some (.int x), l4, l5, l6, l7, l8, l9, l10, l11, l12, l13, l14], [.int x], h) Q := t_iload_n k_202_387 rfl
theorem k_202_388 : lk 202 388 = some (.aload_n 0, 389, 0, 0, .null) := by decide +kernel
theorem x_202_388 : Tr sc d 202 (388, [some (.ref xk), l1, l2, l3, l4, l5, l6, l7, l8, l9, l10, l11, l12, l13, l14], [.int i0], h) Q = Tr sc d 202 (389, [some (.ref xk), l1, l2, l3, l4, l5, l6, l7, l8, l9, l10, l11, l12, l13, l14], [.ref xk, .int i0], h) Q := t_aload_n k_202_388 rfl
theorem k_202_389 : lk 202 389 = some (.getfield 38, 392, 10, 17, .null) := by decide +kernel
theorem x_202_389 : Tr sc d 202 (389, [l0, l1, l2, l3, l4, l5, l6, l7, l8, l9, l10, l11, l12, l13, l14], [.ref k1, .int i0], h) Q = (okp h k1 10 = true ∧ ∃ q, hR h k1 17 = some q ∧ Tr sc d 202 (392, [l0, l1, l2, l3, l4, l5, l6, l7, l8, l9, l10, l11, l12, l13, l14], [.ref q, .int i0], h) Q) := t_getr k_202_389
theorem k_202_392 : lk 202 392 = some (.iload_n 1, 393, 1, 0, .null) := by decide +kernel
theorem x_202_392 : Tr sc d 202 (392, [l0, some (.int x), l2, l3, l4, l5, l6, l7, l8, l9, l10, l11, l12, l13, l14], [.ref k1, .int i0], h) Q = Tr sc d 202 (393, [l0, some (.int x), l2, l3, l4, l5, l6, l7, l8, l9, l10, l11, l12, l13, l14], [.int x, .ref k1, .int i0], h) Q := t_iload_n k_202_392 rfl
theorem k_202_393 : lk 202 393 = some (.iaload, 394, 0, 0, .null) := by decide +kernel
theorem x_202_393 : Tr sc d 202 (393, [l0, l1, l2, l3, l4, l5, l6, l7, l8, l9, l10, l11, l12, l13, l14], [.int i2, .ref k1, .int i0], h) Q = (iOk sc h k1 i2 ∧ Tr sc d 202 (394, [l0, l1, l2, l3, l4, l5, l6, l7, l8, l9, l10, l11, l12, l13, l14], [.int (iRd sc h k1 i2), .int i0], h) Q) := t_iald k_202_393
theorem k_202_394 : lk 202 394 = some (.imul, 395, 0, 0, .null) := by decide +kernel
theorem x_202_394 : Tr sc d 202 (394, [l0, l1, l2, l3, l4, l5, l6, l7, l8, l9, l10, l11, l12, l13, l14], [.int i1, .int i0], h) Q = Tr sc d 202 (395, [l0, l1, l2, l3, l4, l5, l6, l7, l8, l9, l10, l11, l12, l13, l14], [.int (i0 * i1)], h) Q := t_go k_202_394 rfl
theorem k_202_395 : lk 202 395 = some (.istore_n 3, 396, 3, 0, .null) := by decide +kernel
theorem x_202_395 : Tr sc d 202 (395, [l0, l1, l2, l3, l4, l5, l6, l7, l8, l9, l10, l11, l12, l13, l14], [.int i0], h) Q = Tr sc d 202 (396, [l0, l1, cl2 l2, some (.int i0), l4, l5, l6, l7, l8, l9, l10, l11, l12, l13, l14], [], h) Q := t_istore_n k_202_395 (Nat.le_of_ble_eq_true rfl)
theorem k_202_396 : lk 202 396 = some (.iinc 4 1, 399, 4, 0, .int 1) := by decide +kernel
theorem x_202_396 : Tr sc d 202 (396, [l0, l1, l2, l3, some (.int x), l5, l6, l7, l8, l9, l10, l11, l12, l13, l14], [], h) Q = Tr sc d 202 (399, [l0, l1, l2, cl2 l3, some (.int (x + 1)), l5, l6, l7, l8, l9, l10, l11, l12, l13, l14], [], h) Q := t_inc k_202_396 rfl (Nat.le_of_ble_eq_true rfl)
theorem k_202_399 : lk 202 399 = some (.goto (-360), 402, 39, 0, .null) := by decide +kernel
theorem x_202_399 : Tr sc d 202 (399, [l0, l1, l2, l3, l4, l5, l6, l7, l8, l9, l10, l11, l12, l13, l14], [], h) Q = Tr sc d 202 (39, [l0, l1, l2, l3, l4, l5, l6, l7, l8, l9, l10, l11, l12, l13, l14], [], h) Q := t_go k_202_399 rfl
theorem k_202_402 : lk 202 402 = some (.return_, 403, 0, 0, .null) := by decide +kernel
theorem x_202_402 : Tr sc d 202 (402, [l0, l1, l2, l3, l4, l5, l6, l7, l8, l9, l10, l11, l12, l13, l14], [], h) Q = Q (none, h) := t_ret k_202_402 (by rw [r_202]; rfl)
theorem e_202 : Tr sc d 202 (ent0 202 [.ref k0, .int i1, .int i2] h) Q = Tr sc d 202 (0, [some (.ref k0), some (.int i1), some (.int i2), none, none, none, none, none, none, none, none, none, none, none, none], [], h) Q := by
  have e : mL 202 = 15 := by decide +kernel
  unfold ent0
  rw [e]
  rfl
theorem r_203 : mR 203 = none := by decide +kernel
theorem k_203_0 : lk 203 0 = some (.iload_n 1, 1, 1, 0, .null) := by decide +kernel
theorem x_203_0 : Tr sc d 203 (0, [l0, some (.int x), l2, l3, l4, l5, l6, l7], [], h) Q = Tr sc d 203 (1, [l0, some (.int x), l2, l3, l4, l5, l6, l7], [.int x], h) Q := t_iload_n k_203_0 rfl
theorem k_203_1 : lk 203 1 = some (.istore_n 3, 2, 3, 0, .null) := by decide +kernel
theorem x_203_1 : Tr sc d 203 (1, [l0, l1, l2, l3, l4, l5, l6, l7], [.int i0], h) Q = Tr sc d 203 (2, [l0, l1, cl2 l2, some (.int i0), l4, l5, l6, l7], [], h) Q := t_istore_n k_203_1 (Nat.le_of_ble_eq_true rfl)
theorem k_203_2 : lk 203 2 = some (.iconst 1, 3, 0, 0, .int 1) := by decide +kernel
theorem x_203_2 : Tr sc d 203 (2, [l0, l1, l2, l3, l4, l5, l6, l7], [], h) Q = Tr sc d 203 (3, [l0, l1, l2, l3, l4, l5, l6, l7], [.int 1], h) Q := t_go k_203_2 rfl
theorem k_203_3 : lk 203 3 = some (.istore 4, 5, 4, 0, .null) := by decide +kernel
theorem x_203_3 : Tr sc d 203 (3, [l0, l1, l2, l3, l4, l5, l6, l7], [.int i0], h) Q = Tr sc d 203 (5, [l0, l1, l2, cl2 l3, some (.int i0), l5, l6, l7], [], h) Q := t_istore k_203_3 (Nat.le_of_ble_eq_true rfl)
theorem k_203_5 : lk 203 5 = some (.iload 4, 7, 4, 0, .null) := by decide +kernel
theorem x_203_5 : Tr sc d 203 (5, [l0, l1, l2, l3, some (.int x), l5, l6, l7], [], h) Q = Tr sc d 203 (7, [l0, l1, l2, l3, some (.int x), l5, l6, l7], [.int x], h) Q := t_iload k_203_5 rfl
theorem k_203_7 : lk 203 7 = some (.ifCond .eq 123, 10, 130, 0, .null) := by decide +kernel
theorem x_203_7 : Tr sc d 203 (7, [l0, l1, l2, l3, l4, l5, l6, l7], [.int i0], h) Q = if i0 = 0 then Tr sc d 203 (130, [l0, l1, l2, l3, l4, l5, l6, l7], [], h) Q else Tr sc d 203 (10, [l0, l1, l2, l3, l4, l5, l6, l7], [], h) Q := t_if k_203_7 rfl
theorem k_203_10 : lk 203 10 = some (.iconst 2, 11, 0, 0, .int 2) := by decide +kernel
theorem x_203_10 : Tr sc d 203 (10, [l0, l1, l2, l3, l4, l5, l6, l7], [], h) Q = Tr sc d 203 (11, [l0, l1, l2, l3, l4, l5, l6, l7], [.int 2], h) Q := t_go k_203_10 rfl
theorem k_203_11 : lk 203 11 = some (.iload_n 3, 12, 3, 0, .null) := by decide +kernel
theorem x_203_11 : Tr sc d 203 (11, [l0, l1, l2, some (.int x), l4, l5, l6, l7], [.int i0], h) Q = Tr sc d 203 (12, [l0, l1, l2, some (.int x), l4, l5, l6, l7], [.int x, .int i0], h) Q := t_iload_n k_203_11 rfl
theorem k_203_12 : lk 203 12 = some (.imul, 13, 0, 0, .null) := by decide +kernel
theorem x_203_12 : Tr sc d 203 (12, [l0, l1, l2, l3, l4, l5, l6, l7], [.int i1, .int i0], h) Q = Tr sc d 203 (13, [l0, l1, l2, l3, l4, l5, l6, l7], [.int (i0 * i1)], h) Q := t_go k_203_12 rfl
theorem k_203_13 : lk 203 13 = some (.iconst 1, 14, 0, 0, .int 1) := by decide +kernel
theorem x_203_13 : Tr sc d 203 (13, [l0, l1, l2, l3, l4, l5, l6, l7], [.int i0], h) Q = Tr sc d 203 (14, [l0, l1, l2, l3, l4, l5, l6, l7], [.int 1, .int i0], h) Q := t_go k_203_13 rfl
theorem k_203_14 : lk 203 14 = some (.iadd, 15, 0, 0, .null) := by decide +kernel
theorem x_203_14 : Tr sc d 203 (14, [l0, l1, l2, l3, l4, l5, l6, l7], [.int i1, .int i0], h) Q = Tr sc d 203 (15, [l0, l1, l2, l3, l4, l5, l6, l7], [.int (i0 + i1)], h) Q := t_go k_203_14 rfl
theorem k_203_15 : lk 203 15 = some (.iload_n 2, 16, 2, 0, .null) := by decide +kernel
theorem x_203_15 : Tr sc d 203 (15, [l0, l1, some (.int x), l3, l4, l5, l6, l7], [.int i0], h) Q = Tr sc d 203 (16, [l0, l1, some (.int x), l3, l4, l5, l6, l7], [.int x, .int i0], h) Q := t_iload_n k_203_15 rfl
theorem k_203_16 : lk 203 16 = some (.if_icmp .ge 114, 19, 130, 0, .null) := by decide +kernel
theorem x_203_16 : Tr sc d 203 (16, [l0, l1, l2, l3, l4, l5, l6, l7], [.int i1, .int i0], h) Q = if i1 ≤ i0 then Tr sc d 203 (130, [l0, l1, l2, l3, l4, l5, l6, l7], [], h) Q else Tr sc d 203 (19, [l0, l1, l2, l3, l4, l5, l6, l7], [], h) Q := t_if k_203_16 rfl
theorem k_203_19 : lk 203 19 = some (.iconst 2, 20, 0, 0, .int 2) := by decide +kernel
theorem x_203_19 : Tr sc d 203 (19, [l0, l1, l2, l3, l4, l5, l6, l7], [], h) Q = Tr sc d 203 (20, [l0, l1, l2, l3, l4, l5, l6, l7], [.int 2], h) Q := t_go k_203_19 rfl
theorem k_203_20 : lk 203 20 = some (.iload_n 3, 21, 3, 0, .null) := by decide +kernel
theorem x_203_20 : Tr sc d 203 (20, [l0, l1, l2, some (.int x), l4, l5, l6, l7], [.int i0], h) Q = Tr sc d 203 (21, [l0, l1, l2, some (.int x), l4, l5, l6, l7], [.int x, .int i0], h) Q := t_iload_n k_203_20 rfl
theorem k_203_21 : lk 203 21 = some (.imul, 22, 0, 0, .null) := by decide +kernel
theorem x_203_21 : Tr sc d 203 (21, [l0, l1, l2, l3, l4, l5, l6, l7], [.int i1, .int i0], h) Q = Tr sc d 203 (22, [l0, l1, l2, l3, l4, l5, l6, l7], [.int (i0 * i1)], h) Q := t_go k_203_21 rfl
theorem k_203_22 : lk 203 22 = some (.iconst 1, 23, 0, 0, .int 1) := by decide +kernel
theorem x_203_22 : Tr sc d 203 (22, [l0, l1, l2, l3, l4, l5, l6, l7], [.int i0], h) Q = Tr sc d 203 (23, [l0, l1, l2, l3, l4, l5, l6, l7], [.int 1, .int i0], h) Q := t_go k_203_22 rfl
theorem k_203_23 : lk 203 23 = some (.iadd, 24, 0, 0, .null) := by decide +kernel
theorem x_203_23 : Tr sc d 203 (23, [l0, l1, l2, l3, l4, l5, l6, l7], [.int i1, .int i0], h) Q = Tr sc d 203 (24, [l0, l1, l2, l3, l4, l5, l6, l7], [.int (i0 + i1)], h) Q := t_go k_203_23 rfl
theorem k_203_24 : lk 203 24 = some (.istore 5, 26, 5, 0, .null) := by decide +kernel
theorem x_203_24 : Tr sc d 203 (24, [l0, l1, l2, l3, l4, l5, l6, l7], [.int i0], h) Q = Tr sc d 203 (26, [l0, l1, l2, l3, cl2 l4, some (.int i0), l6, l7], [], h) Q := t_istore k_203_24 (Nat.le_of_ble_eq_true rfl)
theorem k_203_26 : lk 203 26 = some (.iload 5, 28, 5, 0, .null) := by decide +kernel
theorem x_203_26 : Tr sc d 203 (26, [l0, l1, l2, l3, l4, some (.int x), l6, l7], [], h) Q = Tr sc d 203 (28, [l0, l1, l2, l3, l4, some (.int x), l6, l7], [.int x], h) Q := t_iload k_203_26 rfl
theorem k_203_28 : lk 203 28 = some (.iconst 1, 29, 0, 0, .int 1) := by decide +kernel
theorem x_203_28 : Tr sc d 203 (28, [l0, l1, l2, l3, l4, l5, l6, l7], [.int i0], h) Q = Tr sc d 203 (29, [l0, l1, l2, l3, l4, l5, l6, l7], [.int 1, .int i0], h) Q := t_go k_203_28 rfl
theorem k_203_29 : lk 203 29 = some (.iadd, 30, 0, 0, .null) := by decide +kernel
theorem x_203_29 : Tr sc d 203 (29, [l0, l1, l2, l3, l4, l5, l6, l7], [.int i1, .int i0], h) Q = Tr sc d 203 (30, [l0, l1, l2, l3, l4, l5, l6, l7], [.int (i0 + i1)], h) Q := t_go k_203_29 rfl
theorem k_203_30 : lk 203 30 = some (.iload_n 2, 31, 2, 0, .null) := by decide +kernel
theorem x_203_30 : Tr sc d 203 (30, [l0, l1, some (.int x), l3, l4, l5, l6, l7], [.int i0], h) Q = Tr sc d 203 (31, [l0, l1, some (.int x), l3, l4, l5, l6, l7], [.int x, .int i0], h) Q := t_iload_n k_203_30 rfl
theorem k_203_31 : lk 203 31 = some (.if_icmp .ge 30, 34, 61, 0, .null) := by decide +kernel
theorem x_203_31 : Tr sc d 203 (31, [l0, l1, l2, l3, l4, l5, l6, l7], [.int i1, .int i0], h) Q = if i1 ≤ i0 then Tr sc d 203 (61, [l0, l1, l2, l3, l4, l5, l6, l7], [], h) Q else Tr sc d 203 (34, [l0, l1, l2, l3, l4, l5, l6, l7], [], h) Q := t_if k_203_31 rfl
theorem k_203_34 : lk 203 34 = some (.aload_n 0, 35, 0, 0, .null) := by decide +kernel
theorem x_203_34 : Tr sc d 203 (34, [some (.ref xk), l1, l2, l3, l4, l5, l6, l7], [], h) Q = Tr sc d 203 (35, [some (.ref xk), l1, l2, l3, l4, l5, l6, l7], [.ref xk], h) Q := t_aload_n k_203_34 rfl
theorem k_203_35 : lk 203 35 = some (.getfield 75, 38, 10, 38, .null) := by decide +kernel
theorem x_203_35 : Tr sc d 203 (35, [l0, l1, l2, l3, l4, l5, l6, l7], [.ref k0], h) Q = (okp h k0 10 = true ∧ ∃ q, hR h k0 38 = some q ∧ Tr sc d 203 (38, [l0, l1, l2, l3, l4, l5, l6, l7], [.ref q], h) Q) := t_getr k_203_35
theorem k_203_38 : lk 203 38 = some (.iload 5, 40, 5, 0, .null) := by decide +kernel
theorem x_203_38 : Tr sc d 203 (38, [l0, l1, l2, l3, l4, some (.int x), l6, l7], [.ref k0], h) Q = Tr sc d 203 (40, [l0, l1, l2, l3, l4, some (.int x), l6, l7], [.int x, .ref k0], h) Q := t_iload k_203_38 rfl
theorem k_203_40 : lk 203 40 = some (.iconst 1, 41, 0, 0, .int 1) := by decide +kernel
theorem x_203_40 : Tr sc d 203 (40, [l0, l1, l2, l3, l4, l5, l6, l7], [.int i1, .ref k0], h) Q = Tr sc d 203 (41, [l0, l1, l2, l3, l4, l5, l6, l7], [.int 1, .int i1, .ref k0], h) Q := t_go k_203_40 rfl
theorem k_203_41 : lk 203 41 = some (.iadd, 42, 0, 0, .null) := by decide +kernel
theorem x_203_41 : Tr sc d 203 (41, [l0, l1, l2, l3, l4, l5, l6, l7], [.int i2, .int i1, .ref k0], h) Q = Tr sc d 203 (42, [l0, l1, l2, l3, l4, l5, l6, l7], [.int (i1 + i2), .ref k0], h) Q := t_go k_203_41 rfl
theorem k_203_42 : lk 203 42 = some (.laload, 43, 0, 0, .null) := by decide +kernel
theorem x_203_42 : Tr sc d 203 (42, [l0, l1, l2, l3, l4, l5, l6, l7], [.int i1, .ref k0], h) Q = ((okp h k0 12 && inb i1 (LN k0)) = true ∧ Tr sc d 203 (43, [l0, l1, l2, l3, l4, l5, l6, l7], [.long (hL h k0 i1.toNatClampNeg)], h) Q) := t_gd k_203_42 rfl
theorem k_203_43 : lk 203 43 = some (.aload_n 0, 44, 0, 0, .null) := by decide +kernel
theorem x_203_43 : Tr sc d 203 (43, [some (.ref xk), l1, l2, l3, l4, l5, l6, l7], [.long j0], h) Q = Tr sc d 203 (44, [some (.ref xk), l1, l2, l3, l4, l5, l6, l7], [.ref xk, .long j0], h) Q := t_aload_n k_203_43 rfl
theorem k_203_44 : lk 203 44 = some (.getfield 75, 47, 10, 38, .null) := by decide +kernel
theorem x_203_44 : Tr sc d 203 (44, [l0, l1, l2, l3, l4, l5, l6, l7], [.ref k1, .long j0], h) Q = (okp h k1 10 = true ∧ ∃ q, hR h k1 38 = some q ∧ Tr sc d 203 (47, [l0, l1, l2, l3, l4, l5, l6, l7], [.ref q, .long j0], h) Q) := t_getr k_203_44
theorem k_203_47 : lk 203 47 = some (.iload 5, 49, 5, 0, .null) := by decide +kernel
theorem x_203_47 : Tr sc d 203 (47, [l0, l1, l2, l3, l4, some (.int x), l6, l7], [.ref k1, .long j0], h) Q = Tr sc d 203 (49, [l0, l1, l2, l3, l4, some (.int x), l6, l7], [.int x, .ref k1, .long j0], h) Q := t_iload k_203_47 rfl
theorem k_203_49 : lk 203 49 = some (.laload, 50, 0, 0, .null) := by decide +kernel
theorem x_203_49 : Tr sc d 203 (49, [l0, l1, l2, l3, l4, l5, l6, l7], [.int i2, .ref k1, .long j0], h) Q = ((okp h k1 12 && inb i2 (LN k1)) = true ∧ Tr sc d 203 (50, [l0, l1, l2, l3, l4, l5, l6, l7], [.long (hL h k1 i2.toNatClampNeg), .long j0], h) Q) := t_gd k_203_49 rfl
theorem k_203_50 : lk 203 50 = some (.lcmp, 51, 0, 0, .null) := by decide +kernel
theorem x_203_50 : Tr sc d 203 (50, [l0, l1, l2, l3, l4, l5, l6, l7], [.long j1, .long j0], h) Q = Tr sc d 203 (51, [l0, l1, l2, l3, l4, l5, l6, l7], [.int (lg_cmp j0 j1)], h) Q := t_go k_203_50 rfl
theorem k_203_51 : lk 203 51 = some (.ifCond .le 10, 54, 61, 0, .null) := by decide +kernel
theorem x_203_51 : Tr sc d 203 (51, [l0, l1, l2, l3, l4, l5, l6, l7], [.int i0], h) Q = if i0 ≤ 0 then Tr sc d 203 (61, [l0, l1, l2, l3, l4, l5, l6, l7], [], h) Q else Tr sc d 203 (54, [l0, l1, l2, l3, l4, l5, l6, l7], [], h) Q := t_if k_203_51 rfl
theorem k_203_54 : lk 203 54 = some (.iload 5, 56, 5, 0, .null) := by decide +kernel
theorem x_203_54 : Tr sc d 203 (54, [l0, l1, l2, l3, l4, some (.int x), l6, l7], [], h) Q = Tr sc d 203 (56, [l0, l1, l2, l3, l4, some (.int x), l6, l7], [.int x], h) Q := t_iload k_203_54 rfl
theorem k_203_56 : lk 203 56 = some (.iconst 1, 57, 0, 0, .int 1) := by decide +kernel
theorem x_203_56 : Tr sc d 203 (56, [l0, l1, l2, l3, l4, l5, l6, l7], [.int i0], h) Q = Tr sc d 203 (57, [l0, l1, l2, l3, l4, l5, l6, l7], [.int 1, .int i0], h) Q := t_go k_203_56 rfl
theorem k_203_57 : lk 203 57 = some (.iadd, 58, 0, 0, .null) := by decide +kernel
theorem x_203_57 : Tr sc d 203 (57, [l0, l1, l2, l3, l4, l5, l6, l7], [.int i1, .int i0], h) Q = Tr sc d 203 (58, [l0, l1, l2, l3, l4, l5, l6, l7], [.int (i0 + i1)], h) Q := t_go k_203_57 rfl
theorem k_203_58 : lk 203 58 = some (.goto 5, 61, 63, 0, .null) := by decide +kernel
theorem x_203_58 : Tr sc d 203 (58, [l0, l1, l2, l3, l4, l5, l6, l7], [.int i0], h) Q = Tr sc d 203 (63, [l0, l1, l2, l3, l4, l5, l6, l7], [.int i0], h) Q := t_go k_203_58 rfl
theorem k_203_61 : lk 203 61 = some (.iload 5, 63, 5, 0, .null) := by decide +kernel
theorem x_203_61 : Tr sc d 203 (61, [l0, l1, l2, l3, l4, some (.int x), l6, l7], [], h) Q = Tr sc d 203 (63, [l0, l1, l2, l3, l4, some (.int x), l6, l7], [.int x], h) Q := t_iload k_203_61 rfl
theorem k_203_63 : lk 203 63 = some (.istore 5, 65, 5, 0, .null) := by decide +kernel
theorem x_203_63 : Tr sc d 203 (63, [l0, l1, l2, l3, l4, l5, l6, l7], [.int i0], h) Q = Tr sc d 203 (65, [l0, l1, l2, l3, cl2 l4, some (.int i0), l6, l7], [], h) Q := t_istore k_203_63 (Nat.le_of_ble_eq_true rfl)
theorem k_203_65 : lk 203 65 = some (.aload_n 0, 66, 0, 0, .null) := by decide +kernel
theorem x_203_65 : Tr sc d 203 (65, [some (.ref xk), l1, l2, l3, l4, l5, l6, l7], [], h) Q = Tr sc d 203 (66, [some (.ref xk), l1, l2, l3, l4, l5, l6, l7], [.ref xk], h) Q := t_aload_n k_203_65 rfl
theorem k_203_66 : lk 203 66 = some (.getfield 75, 69, 10, 38, .null) := by decide +kernel
theorem x_203_66 : Tr sc d 203 (66, [l0, l1, l2, l3, l4, l5, l6, l7], [.ref k0], h) Q = (okp h k0 10 = true ∧ ∃ q, hR h k0 38 = some q ∧ Tr sc d 203 (69, [l0, l1, l2, l3, l4, l5, l6, l7], [.ref q], h) Q) := t_getr k_203_66
theorem k_203_69 : lk 203 69 = some (.iload 5, 71, 5, 0, .null) := by decide +kernel
theorem x_203_69 : Tr sc d 203 (69, [l0, l1, l2, l3, l4, some (.int x), l6, l7], [.ref k0], h) Q = Tr sc d 203 (71, [l0, l1, l2, l3, l4, some (.int x), l6, l7], [.int x, .ref k0], h) Q := t_iload k_203_69 rfl
theorem k_203_71 : lk 203 71 = some (.laload, 72, 0, 0, .null) := by decide +kernel
theorem x_203_71 : Tr sc d 203 (71, [l0, l1, l2, l3, l4, l5, l6, l7], [.int i1, .ref k0], h) Q = ((okp h k0 12 && inb i1 (LN k0)) = true ∧ Tr sc d 203 (72, [l0, l1, l2, l3, l4, l5, l6, l7], [.long (hL h k0 i1.toNatClampNeg)], h) Q) := t_gd k_203_71 rfl
theorem k_203_72 : lk 203 72 = some (.aload_n 0, 73, 0, 0, .null) := by decide +kernel
theorem x_203_72 : Tr sc d 203 (72, [some (.ref xk), l1, l2, l3, l4, l5, l6, l7], [.long j0], h) Q = Tr sc d 203 (73, [some (.ref xk), l1, l2, l3, l4, l5, l6, l7], [.ref xk, .long j0], h) Q := t_aload_n k_203_72 rfl
theorem k_203_73 : lk 203 73 = some (.getfield 75, 76, 10, 38, .null) := by decide +kernel
theorem x_203_73 : Tr sc d 203 (73, [l0, l1, l2, l3, l4, l5, l6, l7], [.ref k1, .long j0], h) Q = (okp h k1 10 = true ∧ ∃ q, hR h k1 38 = some q ∧ Tr sc d 203 (76, [l0, l1, l2, l3, l4, l5, l6, l7], [.ref q, .long j0], h) Q) := t_getr k_203_73
theorem k_203_76 : lk 203 76 = some (.iload_n 3, 77, 3, 0, .null) := by decide +kernel
theorem x_203_76 : Tr sc d 203 (76, [l0, l1, l2, some (.int x), l4, l5, l6, l7], [.ref k1, .long j0], h) Q = Tr sc d 203 (77, [l0, l1, l2, some (.int x), l4, l5, l6, l7], [.int x, .ref k1, .long j0], h) Q := t_iload_n k_203_76 rfl
theorem k_203_77 : lk 203 77 = some (.laload, 78, 0, 0, .null) := by decide +kernel
theorem x_203_77 : Tr sc d 203 (77, [l0, l1, l2, l3, l4, l5, l6, l7], [.int i2, .ref k1, .long j0], h) Q = ((okp h k1 12 && inb i2 (LN k1)) = true ∧ Tr sc d 203 (78, [l0, l1, l2, l3, l4, l5, l6, l7], [.long (hL h k1 i2.toNatClampNeg), .long j0], h) Q) := t_gd k_203_77 rfl
theorem k_203_78 : lk 203 78 = some (.lcmp, 79, 0, 0, .null) := by decide +kernel
theorem x_203_78 : Tr sc d 203 (78, [l0, l1, l2, l3, l4, l5, l6, l7], [.long j1, .long j0], h) Q = Tr sc d 203 (79, [l0, l1, l2, l3, l4, l5, l6, l7], [.int (lg_cmp j0 j1)], h) Q := t_go k_203_78 rfl
theorem k_203_79 : lk 203 79 = some (.ifCond .le 7, 82, 86, 0, .null) := by decide +kernel
theorem x_203_79 : Tr sc d 203 (79, [l0, l1, l2, l3, l4, l5, l6, l7], [.int i0], h) Q = if i0 ≤ 0 then Tr sc d 203 (86, [l0, l1, l2, l3, l4, l5, l6, l7], [], h) Q else Tr sc d 203 (82, [l0, l1, l2, l3, l4, l5, l6, l7], [], h) Q := t_if k_203_79 rfl
theorem k_203_82 : lk 203 82 = some (.iconst 1, 83, 0, 0, .int 1) := by decide +kernel
theorem x_203_82 : Tr sc d 203 (82, [l0, l1, l2, l3, l4, l5, l6, l7], [], h) Q = Tr sc d 203 (83, [l0, l1, l2, l3, l4, l5, l6, l7], [.int 1], h) Q := t_go k_203_82 rfl
theorem k_203_83 : lk 203 83 = some (.goto 4, 86, 87, 0, .null) := by decide +kernel
theorem x_203_83 : Tr sc d 203 (83, [l0, l1, l2, l3, l4, l5, l6, l7], [.int i0], h) Q = Tr sc d 203 (87, [l0, l1, l2, l3, l4, l5, l6, l7], [.int i0], h) Q := t_go k_203_83 rfl
theorem k_203_86 : lk 203 86 = some (.iconst 0, 87, 0, 0, .int 0) := by decide +kernel
theorem x_203_86 : Tr sc d 203 (86, [l0, l1, l2, l3, l4, l5, l6, l7], [], h) Q = Tr sc d 203 (87, [l0, l1, l2, l3, l4, l5, l6, l7], [.int 0], h) Q := t_go k_203_86 rfl
theorem k_203_87 : lk 203 87 = some (.istore 4, 89, 4, 0, .null) := by decide +kernel
theorem x_203_87 : Tr sc d 203 (87, [l0, l1, l2, l3, l4, l5, l6, l7], [.int i0], h) Q = Tr sc d 203 (89, [l0, l1, l2, cl2 l3, some (.int i0), l5, l6, l7], [], h) Q := t_istore k_203_87 (Nat.le_of_ble_eq_true rfl)
theorem k_203_89 : lk 203 89 = some (.iload 4, 91, 4, 0, .null) := by decide +kernel
theorem x_203_89 : Tr sc d 203 (89, [l0, l1, l2, l3, some (.int x), l5, l6, l7], [], h) Q = Tr sc d 203 (91, [l0, l1, l2, l3, some (.int x), l5, l6, l7], [.int x], h) Q := t_iload k_203_89 rfl
theorem k_203_91 : lk 203 91 = some (.ifCond .eq 36, 94, 127, 0, .null) := by decide +kernel
theorem x_203_91 : Tr sc d 203 (91, [l0, l1, l2, l3, l4, l5, l6, l7], [.int i0], h) Q = if i0 = 0 then Tr sc d 203 (127, [l0, l1, l2, l3, l4, l5, l6, l7], [], h) Q else Tr sc d 203 (94, [l0, l1, l2, l3, l4, l5, l6, l7], [], h) Q := t_if k_203_91 rfl
theorem k_203_94 : lk 203 94 = some (.aload_n 0, 95, 0, 0, .null) := by decide +kernel
theorem x_203_94 : Tr sc d 203 (94, [some (.ref xk), l1, l2, l3, l4, l5, l6, l7], [], h) Q = Tr sc d 203 (95, [some (.ref xk), l1, l2, l3, l4, l5, l6, l7], [.ref xk], h) Q := t_aload_n k_203_94 rfl
theorem k_203_95 : lk 203 95 = some (.getfield 75, 98, 10, 38, .null) := by decide +kernel
theorem x_203_95 : Tr sc d 203 (95, [l0, l1, l2, l3, l4, l5, l6, l7], [.ref k0], h) Q = (okp h k0 10 = true ∧ ∃ q, hR h k0 38 = some q ∧ Tr sc d 203 (98, [l0, l1, l2, l3, l4, l5, l6, l7], [.ref q], h) Q) := t_getr k_203_95
theorem k_203_98 : lk 203 98 = some (.iload_n 3, 99, 3, 0, .null) := by decide +kernel
theorem x_203_98 : Tr sc d 203 (98, [l0, l1, l2, some (.int x), l4, l5, l6, l7], [.ref k0], h) Q = Tr sc d 203 (99, [l0, l1, l2, some (.int x), l4, l5, l6, l7], [.int x, .ref k0], h) Q := t_iload_n k_203_98 rfl
theorem k_203_99 : lk 203 99 = some (.laload, 100, 0, 0, .null) := by decide +kernel
theorem x_203_99 : Tr sc d 203 (99, [l0, l1, l2, l3, l4, l5, l6, l7], [.int i1, .ref k0], h) Q = ((okp h k0 12 && inb i1 (LN k0)) = true ∧ Tr sc d 203 (100, [l0, l1, l2, l3, l4, l5, l6, l7], [.long (hL h k0 i1.toNatClampNeg)], h) Q) := t_gd k_203_99 rfl
theorem k_203_100 : lk 203 100 = some (.lstore 6, 102, 6, 0, .null) := by decide +kernel
theorem x_203_100 : Tr sc d 203 (100, [l0, l1, l2, l3, l4, l5, l6, l7], [.long j0], h) Q = Tr sc d 203 (102, [l0, l1, l2, l3, l4, cl2 l5, some (.long j0), none], [], h) Q := t_lstore k_203_100 (Nat.le_of_ble_eq_true rfl)
theorem k_203_102 : lk 203 102 = some (.aload_n 0, 103, 0, 0, .null) := by decide +kernel
theorem x_203_102 : Tr sc d 203 (102, [some (.ref xk), l1, l2, l3, l4, l5, l6, l7], [], h) Q = Tr sc d 203 (103, [some (.ref xk), l1, l2, l3, l4, l5, l6, l7], [.ref xk], h) Q := t_aload_n k_203_102 rfl
theorem k_203_103 : lk 203 103 = some (.getfield 75, 106, 10, 38, .null) := by decide +kernel
theorem x_203_103 : Tr sc d 203 (103, [l0, l1, l2, l3, l4, l5, l6, l7], [.ref k0], h) Q = (okp h k0 10 = true ∧ ∃ q, hR h k0 38 = some q ∧ Tr sc d 203 (106, [l0, l1, l2, l3, l4, l5, l6, l7], [.ref q], h) Q) := t_getr k_203_103
theorem k_203_106 : lk 203 106 = some (.iload_n 3, 107, 3, 0, .null) := by decide +kernel
theorem x_203_106 : Tr sc d 203 (106, [l0, l1, l2, some (.int x), l4, l5, l6, l7], [.ref k0], h) Q = Tr sc d 203 (107, [l0, l1, l2, some (.int x), l4, l5, l6, l7], [.int x, .ref k0], h) Q := t_iload_n k_203_106 rfl
theorem k_203_107 : lk 203 107 = some (.aload_n 0, 108, 0, 0, .null) := by decide +kernel
theorem x_203_107 : Tr sc d 203 (107, [some (.ref xk), l1, l2, l3, l4, l5, l6, l7], [.int i1, .ref k0], h) Q = Tr sc d 203 (108, [some (.ref xk), l1, l2, l3, l4, l5, l6, l7], [.ref xk, .int i1, .ref k0], h) Q := t_aload_n k_203_107 rfl
theorem k_203_108 : lk 203 108 = some (.getfield 75, 111, 10, 38, .null) := by decide +kernel
theorem x_203_108 : Tr sc d 203 (108, [l0, l1, l2, l3, l4, l5, l6, l7], [.ref k2, .int i1, .ref k0], h) Q = (okp h k2 10 = true ∧ ∃ q, hR h k2 38 = some q ∧ Tr sc d 203 (111, [l0, l1, l2, l3, l4, l5, l6, l7], [.ref q, .int i1, .ref k0], h) Q) := t_getr k_203_108
theorem k_203_111 : lk 203 111 = some (.iload 5, 113, 5, 0, .null) := by decide +kernel
theorem x_203_111 : Tr sc d 203 (111, [l0, l1, l2, l3, l4, some (.int x), l6, l7], [.ref k2, .int i1, .ref k0], h) Q = Tr sc d 203 (113, [l0, l1, l2, l3, l4, some (.int x), l6, l7], [.int x, .ref k2, .int i1, .ref k0], h) Q := t_iload k_203_111 rfl
theorem k_203_113 : lk 203 113 = some (.laload, 114, 0, 0, .null) := by decide +kernel
theorem x_203_113 : Tr sc d 203 (113, [l0, l1, l2, l3, l4, l5, l6, l7], [.int i3, .ref k2, .int i1, .ref k0], h) Q = ((okp h k2 12 && inb i3 (LN k2)) = true ∧ Tr sc d 203 (114, [l0, l1, l2, l3, l4, l5, l6, l7], [.long (hL h k2 i3.toNatClampNeg), .int i1, .ref k0], h) Q) := t_gd k_203_113 rfl
theorem k_203_114 : lk 203 114 = some (.lastore, 115, 0, 0, .null) := by decide +kernel
theorem x_203_114 : Tr sc d 203 (114, [l0, l1, l2, l3, l4, l5, l6, l7], [.long j2, .int i1, .ref k0], h) Q = ((okp h k0 12 && inb i1 (LN k0)) = true ∧ Tr sc d 203 (115, [l0, l1, l2, l3, l4, l5, l6, l7], [], (sL h k0 i1.toNatClampNeg j2)) Q) := t_gd k_203_114 rfl
theorem k_203_115 : lk 203 115 = some (.aload_n 0, 116, 0, 0, .null) := by decide +kernel
theorem x_203_115 : Tr sc d 203 (115, [some (.ref xk), l1, l2, l3, l4, l5, l6, l7], [], h) Q = Tr sc d 203 (116, [some (.ref xk), l1, l2, l3, l4, l5, l6, l7], [.ref xk], h) Q := t_aload_n k_203_115 rfl
theorem k_203_116 : lk 203 116 = some (.getfield 75, 119, 10, 38, .null) := by decide +kernel
theorem x_203_116 : Tr sc d 203 (116, [l0, l1, l2, l3, l4, l5, l6, l7], [.ref k0], h) Q = (okp h k0 10 = true ∧ ∃ q, hR h k0 38 = some q ∧ Tr sc d 203 (119, [l0, l1, l2, l3, l4, l5, l6, l7], [.ref q], h) Q) := t_getr k_203_116
theorem k_203_119 : lk 203 119 = some (.iload 5, 121, 5, 0, .null) := by decide +kernel
theorem x_203_119 : Tr sc d 203 (119, [l0, l1, l2, l3, l4, some (.int x), l6, l7], [.ref k0], h) Q = Tr sc d 203 (121, [l0, l1, l2, l3, l4, some (.int x), l6, l7], [.int x, .ref k0], h) Q := t_iload k_203_119 rfl
theorem k_203_121 : lk 203 121 = some (.lload 6, 123, 6, 0, .null) := by decide +kernel
theorem x_203_121 : Tr sc d 203 (121, [l0, l1, l2, l3, l4, l5, some (.long xl), l7], [.int i1, .ref k0], h) Q = Tr sc d 203 (123, [l0, l1, l2, l3, l4, l5, some (.long xl), l7], [.long xl, .int i1, .ref k0], h) Q := t_lload k_203_121 rfl
theorem k_203_123 : lk 203 123 = some (.lastore, 124, 0, 0, .null) := by decide +kernel
theorem x_203_123 : Tr sc d 203 (123, [l0, l1, l2, l3, l4, l5, l6, l7], [.long j2, .int i1, .ref k0], h) Q = ((okp h k0 12 && inb i1 (LN k0)) = true ∧ Tr sc d 203 (124, [l0, l1, l2, l3, l4, l5, l6, l7], [], (sL h k0 i1.toNatClampNeg j2)) Q) := t_gd k_203_123 rfl
theorem k_203_124 : lk 203 124 = some (.iload 5, 126, 5, 0, .null) := by decide +kernel
theorem x_203_124 : Tr sc d 203 (124, [l0, l1, l2, l3, l4, some (.int x), l6, l7], [], h) Q = Tr sc d 203 (126, [l0, l1, l2, l3, l4, some (.int x), l6, l7], [.int x], h) Q := t_iload k_203_124 rfl
theorem k_203_126 : lk 203 126 = some (.istore_n 3, 127, 3, 0, .null) := by decide +kernel
theorem x_203_126 : Tr sc d 203 (126, [l0, l1, l2, l3, l4, l5, l6, l7], [.int i0], h) Q = Tr sc d 203 (127, [l0, l1, cl2 l2, some (.int i0), l4, l5, l6, l7], [], h) Q := t_istore_n k_203_126 (Nat.le_of_ble_eq_true rfl)
theorem k_203_127 : lk 203 127 = some (.goto (-122), 130, 5, 0, .null) := by decide +kernel
theorem x_203_127 : Tr sc d 203 (127, [l0, l1, l2, l3, l4, l5, l6, l7], [], h) Q = Tr sc d 203 (5, [l0, l1, l2, l3, l4, l5, l6, l7], [], h) Q := t_go k_203_127 rfl
theorem k_203_130 : lk 203 130 = some (.return_, 131, 0, 0, .null) := by decide +kernel
theorem x_203_130 : Tr sc d 203 (130, [l0, l1, l2, l3, l4, l5, l6, l7], [], h) Q = Q (none, h) := t_ret k_203_130 (by rw [r_203]; rfl)
theorem e_203 : Tr sc d 203 (ent0 203 [.ref k0, .int i1, .int i2] h) Q = Tr sc d 203 (0, [some (.ref k0), some (.int i1), some (.int i2), none, none, none, none, none], [], h) Q := by
  have e : mL 203 = 8 := by decide +kernel
  unfold ent0
  rw [e]
  rfl
theorem r_204 : mR 204 = none := by decide +kernel
theorem k_204_0 : lk 204 0 = some (.aload_n 0, 1, 0, 0, .null) := by decide +kernel
theorem x_204_0 : Tr sc d 204 (0, [some (.ref xk), l1, l2, l3, l4, l5], [], h) Q = Tr sc d 204 (1, [some (.ref xk), l1, l2, l3, l4, l5], [.ref xk], h) Q := t_aload_n k_204_0 rfl
theorem k_204_1 : lk 204 1 = some (.iload_n 1, 2, 1, 0, .null) := by decide +kernel
theorem x_204_1 : Tr sc d 204 (1, [l0, some (.int x), l2, l3, l4, l5], [.ref k0], h) Q = Tr sc d 204 (2, [l0, some (.int x), l2, l3, l4, l5], [.int x, .ref k0], h) Q := t_iload_n k_204_1 rfl
theorem k_204_2 : lk 204 2 = some (.iload_n 2, 3, 2, 0, .null) := by decide +kernel
theorem x_204_2 : Tr sc d 204 (2, [l0, l1, some (.int x), l3, l4, l5], [.int i1, .ref k0], h) Q = Tr sc d 204 (3, [l0, l1, some (.int x), l3, l4, l5], [.int x, .int i1, .ref k0], h) Q := t_iload_n k_204_2 rfl
theorem k_204_3 : lk 204 3 = some (.invokevirtual 273, 6, 202, 2, .null) := by decide +kernel
theorem x_204_3 : Tr sc (d + 1) 204 (3, [l0, l1, l2, l3, l4, l5], [.int i2, .int i1, .ref k0], h) Q = (okp h k0 10 = true ∧ Tr sc d 202 (ent0 202 [.ref k0, .int i1, .int i2] h) (fun z => Tr sc (d + 1) 204 (6, [l0, l1, l2, l3, l4, l5], z.1.toList ++ [], z.2) Q)) := t_cv (as := [.int i1, .int i2]) (r := []) k_204_3 rfl rfl (Nat.le_of_ble_eq_true rfl) (Nat.le_of_ble_eq_true rfl) (Nat.le_of_ble_eq_true rfl)
theorem k_204_6 : lk 204 6 = some (.iconst 0, 7, 0, 0, .int 0) := by decide +kernel
theorem x_204_6 : Tr sc d 204 (6, [l0, l1, l2, l3, l4, l5], [], h) Q = Tr sc d 204 (7, [l0, l1, l2, l3, l4, l5], [.int 0], h) Q := t_go k_204_6 rfl
theorem k_204_7 : lk 204 7 = some (.istore_n 3, 8, 3, 0, .null) := by decide +kernel
theorem x_204_7 : Tr sc d 204 (7, [l0, l1, l2, l3, l4, l5], [.int i0], h) Q = Tr sc d 204 (8, [l0, l1, cl2 l2, some (.int i0), l4, l5], [], h) Q := t_istore_n k_204_7 (Nat.le_of_ble_eq_true rfl)
theorem k_204_8 : lk 204 8 = some (.iload_n 3, 9, 3, 0, .null) := by decide +kernel
theorem x_204_8 : Tr sc d 204 (8, [l0, l1, l2, some (.int x), l4, l5], [], h) Q = Tr sc d 204 (9, [l0, l1, l2, some (.int x), l4, l5], [.int x], h) Q := t_iload_n k_204_8 rfl
theorem k_204_9 : lk 204 9 = some (.aload_n 0, 10, 0, 0, .null) := by decide +kernel
theorem x_204_9 : Tr sc d 204 (9, [some (.ref xk), l1, l2, l3, l4, l5], [.int i0], h) Q = Tr sc d 204 (10, [some (.ref xk), l1, l2, l3, l4, l5], [.ref xk, .int i0], h) Q := t_aload_n k_204_9 rfl
theorem k_204_10 : lk 204 10 = some (.getfield 270, 13, 10, 31, .int 0) := by decide +kernel
theorem x_204_10 : Tr sc d 204 (10, [l0, l1, l2, l3, l4, l5], [.ref k1, .int i0], h) Q = (okp h k1 10 = true ∧ Tr sc d 204 (13, [l0, l1, l2, l3, l4, l5], [.int (hI h k1 31), .int i0], h) Q) := t_gd k_204_10 rfl
theorem k_204_13 : lk 204 13 = some (.if_icmp .ge 42, 16, 55, 0, .null) := by decide +kernel
theorem x_204_13 : Tr sc d 204 (13, [l0, l1, l2, l3, l4, l5], [.int i1, .int i0], h) Q = if i1 ≤ i0 then Tr sc d 204 (55, [l0, l1, l2, l3, l4, l5], [], h) Q else Tr sc d 204 (16, [l0, l1, l2, l3, l4, l5], [], h) Q := t_if k_204_13 rfl
theorem k_204_16 : lk 204 16 = some (.aload_n 0, 17, 0, 0, .null) := by decide +kernel
theorem x_204_16 : Tr sc d 204 (16, [some (.ref xk), l1, l2, l3, l4, l5], [], h) Q = Tr sc d 204 (17, [some (.ref xk), l1, l2, l3, l4, l5], [.ref xk], h) Q := t_aload_n k_204_16 rfl
theorem k_204_17 : lk 204 17 = some (.getfield 75, 20, 10, 38, .null) := by decide +kernel
theorem x_204_17 : Tr sc d 204 (17, [l0, l1, l2, l3, l4, l5], [.ref k0], h) Q = (okp h k0 10 = true ∧ ∃ q, hR h k0 38 = some q ∧ Tr sc d 204 (20, [l0, l1, l2, l3, l4, l5], [.ref q], h) Q) := t_getr k_204_17
theorem k_204_20 : lk 204 20 = some (.iload_n 3, 21, 3, 0, .null) := by decide +kernel
theorem x_204_20 : Tr sc d 204 (20, [l0, l1, l2, some (.int x), l4, l5], [.ref k0], h) Q = Tr sc d 204 (21, [l0, l1, l2, some (.int x), l4, l5], [.int x, .ref k0], h) Q := t_iload_n k_204_20 rfl
theorem k_204_21 : lk 204 21 = some (.aload_n 0, 22, 0, 0, .null) := by decide +kernel
theorem x_204_21 : Tr sc d 204 (21, [some (.ref xk), l1, l2, l3, l4, l5], [.int i1, .ref k0], h) Q = Tr sc d 204 (22, [some (.ref xk), l1, l2, l3, l4, l5], [.ref xk, .int i1, .ref k0], h) Q := t_aload_n k_204_21 rfl
theorem k_204_22 : lk 204 22 = some (.getfield 66, 25, 10, 33, .null) := by decide +kernel
theorem x_204_22 : Tr sc d 204 (22, [l0, l1, l2, l3, l4, l5], [.ref k2, .int i1, .ref k0], h) Q = (okp h k2 10 = true ∧ ∃ q, hR h k2 33 = some q ∧ Tr sc d 204 (25, [l0, l1, l2, l3, l4, l5], [.ref q, .int i1, .ref k0], h) Q) := t_getr k_204_22
theorem k_204_25 : lk 204 25 = some (.iload_n 3, 26, 3, 0, .null) := by decide +kernel
theorem x_204_25 : Tr sc d 204 (25, [l0, l1, l2, some (.int x), l4, l5], [.ref k2, .int i1, .ref k0], h) Q = Tr sc d 204 (26, [l0, l1, l2, some (.int x), l4, l5], [.int x, .ref k2, .int i1, .ref k0], h) Q := t_iload_n k_204_25 rfl
theorem k_204_26 : lk 204 26 = some (.iaload, 27, 0, 0, .null) := by decide +kernel
theorem x_204_26 : Tr sc d 204 (26, [l0, l1, l2, l3, l4, l5], [.int i3, .ref k2, .int i1, .ref k0], h) Q = (iOk sc h k2 i3 ∧ Tr sc d 204 (27, [l0, l1, l2, l3, l4, l5], [.int (iRd sc h k2 i3), .int i1, .ref k0], h) Q) := t_iald k_204_26
theorem k_204_27 : lk 204 27 = some (.i2l, 28, 0, 0, .null) := by decide +kernel
theorem x_204_27 : Tr sc d 204 (27, [l0, l1, l2, l3, l4, l5], [.int i2, .int i1, .ref k0], h) Q = Tr sc d 204 (28, [l0, l1, l2, l3, l4, l5], [.long i2.toInt64, .int i1, .ref k0], h) Q := t_go k_204_27 rfl
theorem k_204_28 : lk 204 28 = some (.ldc2_w 276, 31, 0, 1586, .long 1000000) := by decide +kernel
theorem x_204_28 : Tr sc d 204 (28, [l0, l1, l2, l3, l4, l5], [.long j2, .int i1, .ref k0], h) Q = Tr sc d 204 (31, [l0, l1, l2, l3, l4, l5], [.long 1000000, .long j2, .int i1, .ref k0], h) Q := t_go k_204_28 rfl
theorem k_204_31 : lk 204 31 = some (.ladd, 32, 0, 0, .null) := by decide +kernel
theorem x_204_31 : Tr sc d 204 (31, [l0, l1, l2, l3, l4, l5], [.long j3, .long j2, .int i1, .ref k0], h) Q = Tr sc d 204 (32, [l0, l1, l2, l3, l4, l5], [.long (j2 + j3), .int i1, .ref k0], h) Q := t_go k_204_31 rfl
theorem k_204_32 : lk 204 32 = some (.ldc2_w 278, 35, 0, 1587, .long 4000000) := by decide +kernel
theorem x_204_32 : Tr sc d 204 (32, [l0, l1, l2, l3, l4, l5], [.long j2, .int i1, .ref k0], h) Q = Tr sc d 204 (35, [l0, l1, l2, l3, l4, l5], [.long 4000000, .long j2, .int i1, .ref k0], h) Q := t_go k_204_32 rfl
theorem k_204_35 : lk 204 35 = some (.lmul, 36, 0, 0, .null) := by decide +kernel
theorem x_204_35 : Tr sc d 204 (35, [l0, l1, l2, l3, l4, l5], [.long j3, .long j2, .int i1, .ref k0], h) Q = Tr sc d 204 (36, [l0, l1, l2, l3, l4, l5], [.long (j2 * j3), .int i1, .ref k0], h) Q := t_go k_204_35 rfl
theorem k_204_36 : lk 204 36 = some (.aload_n 0, 37, 0, 0, .null) := by decide +kernel
theorem x_204_36 : Tr sc d 204 (36, [some (.ref xk), l1, l2, l3, l4, l5], [.long j2, .int i1, .ref k0], h) Q = Tr sc d 204 (37, [some (.ref xk), l1, l2, l3, l4, l5], [.ref xk, .long j2, .int i1, .ref k0], h) Q := t_aload_n k_204_36 rfl
theorem k_204_37 : lk 204 37 = some (.getfield 63, 40, 10, 32, .null) := by decide +kernel
theorem x_204_37 : Tr sc d 204 (37, [l0, l1, l2, l3, l4, l5], [.ref k3, .long j2, .int i1, .ref k0], h) Q = (okp h k3 10 = true ∧ ∃ q, hR h k3 32 = some q ∧ Tr sc d 204 (40, [l0, l1, l2, l3, l4, l5], [.ref q, .long j2, .int i1, .ref k0], h) Q) := t_getr k_204_37
theorem k_204_40 : lk 204 40 = some (.iload_n 3, 41, 3, 0, .null) := by decide +kernel
theorem x_204_40 : Tr sc d 204 (40, [l0, l1, l2, some (.int x), l4, l5], [.ref k3, .long j2, .int i1, .ref k0], h) Q = Tr sc d 204 (41, [l0, l1, l2, some (.int x), l4, l5], [.int x, .ref k3, .long j2, .int i1, .ref k0], h) Q := t_iload_n k_204_40 rfl
theorem k_204_41 : lk 204 41 = some (.iaload, 42, 0, 0, .null) := by decide +kernel
theorem x_204_41 : Tr sc d 204 (41, [l0, l1, l2, l3, l4, l5], [.int i4, .ref k3, .long j2, .int i1, .ref k0], h) Q = (iOk sc h k3 i4 ∧ Tr sc d 204 (42, [l0, l1, l2, l3, l4, l5], [.int (iRd sc h k3 i4), .long j2, .int i1, .ref k0], h) Q) := t_iald k_204_41
theorem k_204_42 : lk 204 42 = some (.i2l, 43, 0, 0, .null) := by decide +kernel
theorem x_204_42 : Tr sc d 204 (42, [l0, l1, l2, l3, l4, l5], [.int i3, .long j2, .int i1, .ref k0], h) Q = Tr sc d 204 (43, [l0, l1, l2, l3, l4, l5], [.long i3.toInt64, .long j2, .int i1, .ref k0], h) Q := t_go k_204_42 rfl
theorem k_204_43 : lk 204 43 = some (.ladd, 44, 0, 0, .null) := by decide +kernel
theorem x_204_43 : Tr sc d 204 (43, [l0, l1, l2, l3, l4, l5], [.long j3, .long j2, .int i1, .ref k0], h) Q = Tr sc d 204 (44, [l0, l1, l2, l3, l4, l5], [.long (j2 + j3), .int i1, .ref k0], h) Q := t_go k_204_43 rfl
theorem k_204_44 : lk 204 44 = some (.ldc2_w 276, 47, 0, 1586, .long 1000000) := by decide +kernel
theorem x_204_44 : Tr sc d 204 (44, [l0, l1, l2, l3, l4, l5], [.long j2, .int i1, .ref k0], h) Q = Tr sc d 204 (47, [l0, l1, l2, l3, l4, l5], [.long 1000000, .long j2, .int i1, .ref k0], h) Q := t_go k_204_44 rfl
theorem k_204_47 : lk 204 47 = some (.ladd, 48, 0, 0, .null) := by decide +kernel
theorem x_204_47 : Tr sc d 204 (47, [l0, l1, l2, l3, l4, l5], [.long j3, .long j2, .int i1, .ref k0], h) Q = Tr sc d 204 (48, [l0, l1, l2, l3, l4, l5], [.long (j2 + j3), .int i1, .ref k0], h) Q := t_go k_204_47 rfl
theorem k_204_48 : lk 204 48 = some (.lastore, 49, 0, 0, .null) := by decide +kernel
theorem x_204_48 : Tr sc d 204 (48, [l0, l1, l2, l3, l4, l5], [.long j2, .int i1, .ref k0], h) Q = ((okp h k0 12 && inb i1 (LN k0)) = true ∧ Tr sc d 204 (49, [l0, l1, l2, l3, l4, l5], [], (sL h k0 i1.toNatClampNeg j2)) Q) := t_gd k_204_48 rfl
theorem k_204_49 : lk 204 49 = some (.iinc 3 1, 52, 3, 0, .int 1) := by decide +kernel
theorem x_204_49 : Tr sc d 204 (49, [l0, l1, l2, some (.int x), l4, l5], [], h) Q = Tr sc d 204 (52, [l0, l1, cl2 l2, some (.int (x + 1)), l4, l5], [], h) Q := t_inc k_204_49 rfl (Nat.le_of_ble_eq_true rfl)
theorem k_204_52 : lk 204 52 = some (.goto (-44), 55, 8, 0, .null) := by decide +kernel
theorem x_204_52 : Tr sc d 204 (52, [l0, l1, l2, l3, l4, l5], [], h) Q = Tr sc d 204 (8, [l0, l1, l2, l3, l4, l5], [], h) Q := t_go k_204_52 rfl
theorem k_204_55 : lk 204 55 = some (.aload_n 0, 56, 0, 0, .null) := by decide +kernel
theorem x_204_55 : Tr sc d 204 (55, [some (.ref xk), l1, l2, l3, l4, l5], [], h) Q = Tr sc d 204 (56, [some (.ref xk), l1, l2, l3, l4, l5], [.ref xk], h) Q := t_aload_n k_204_55 rfl
theorem k_204_56 : lk 204 56 = some (.getfield 270, 59, 10, 31, .int 0) := by decide +kernel
theorem x_204_56 : Tr sc d 204 (56, [l0, l1, l2, l3, l4, l5], [.ref k0], h) Q = (okp h k0 10 = true ∧ Tr sc d 204 (59, [l0, l1, l2, l3, l4, l5], [.int (hI h k0 31)], h) Q) := t_gd k_204_56 rfl
theorem k_204_59 : lk 204 59 = some (.iconst 2, 60, 0, 0, .int 2) := by decide +kernel
theorem x_204_59 : Tr sc d 204 (59, [l0, l1, l2, l3, l4, l5], [.int i0], h) Q = Tr sc d 204 (60, [l0, l1, l2, l3, l4, l5], [.int 2, .int i0], h) Q := t_go k_204_59 rfl
theorem k_204_60 : lk 204 60 = some (.idiv, 61, 0, 0, .null) := by decide +kernel
theorem x_204_60 : Tr sc d 204 (60, [l0, l1, l2, l3, l4, l5], [.int i1, .int i0], h) Q = (¬ i1 = 0 ∧ Tr sc d 204 (61, [l0, l1, l2, l3, l4, l5], [.int (i0 / i1)], h) Q) := t_ng k_204_60 rfl
theorem k_204_61 : lk 204 61 = some (.istore_n 3, 62, 3, 0, .null) := by decide +kernel
theorem x_204_61 : Tr sc d 204 (61, [l0, l1, l2, l3, l4, l5], [.int i0], h) Q = Tr sc d 204 (62, [l0, l1, cl2 l2, some (.int i0), l4, l5], [], h) Q := t_istore_n k_204_61 (Nat.le_of_ble_eq_true rfl)
theorem k_204_62 : lk 204 62 = some (.iload_n 3, 63, 3, 0, .null) := by decide +kernel
theorem x_204_62 : Tr sc d 204 (62, [l0, l1, l2, some (.int x), l4, l5], [], h) Q = Tr sc d 204 (63, [l0, l1, l2, some (.int x), l4, l5], [.int x], h) Q := t_iload_n k_204_62 rfl
theorem k_204_63 : lk 204 63 = some (.ifCond .lt 18, 66, 81, 0, .null) := by decide +kernel
theorem x_204_63 : Tr sc d 204 (63, [l0, l1, l2, l3, l4, l5], [.int i0], h) Q = if i0 < 0 then Tr sc d 204 (81, [l0, l1, l2, l3, l4, l5], [], h) Q else Tr sc d 204 (66, [l0, l1, l2, l3, l4, l5], [], h) Q := t_if k_204_63 rfl
theorem k_204_66 : lk 204 66 = some (.aload_n 0, 67, 0, 0, .null) := by decide +kernel
theorem x_204_66 : Tr sc d 204 (66, [some (.ref xk), l1, l2, l3, l4, l5], [], h) Q = Tr sc d 204 (67, [some (.ref xk), l1, l2, l3, l4, l5], [.ref xk], h) Q := t_aload_n k_204_66 rfl
theorem k_204_67 : lk 204 67 = some (.iload_n 3, 68, 3, 0, .null) := by decide +kernel
theorem x_204_67 : Tr sc d 204 (67, [l0, l1, l2, some (.int x), l4, l5], [.ref k0], h) Q = Tr sc d 204 (68, [l0, l1, l2, some (.int x), l4, l5], [.int x, .ref k0], h) Q := t_iload_n k_204_67 rfl
theorem k_204_68 : lk 204 68 = some (.aload_n 0, 69, 0, 0, .null) := by decide +kernel
theorem x_204_68 : Tr sc d 204 (68, [some (.ref xk), l1, l2, l3, l4, l5], [.int i1, .ref k0], h) Q = Tr sc d 204 (69, [some (.ref xk), l1, l2, l3, l4, l5], [.ref xk, .int i1, .ref k0], h) Q := t_aload_n k_204_68 rfl
theorem k_204_69 : lk 204 69 = some (.getfield 270, 72, 10, 31, .int 0) := by decide +kernel
theorem x_204_69 : Tr sc d 204 (69, [l0, l1, l2, l3, l4, l5], [.ref k2, .int i1, .ref k0], h) Q = (okp h k2 10 = true ∧ Tr sc d 204 (72, [l0, l1, l2, l3, l4, l5], [.int (hI h k2 31), .int i1, .ref k0], h) Q) := t_gd k_204_69 rfl
theorem k_204_72 : lk 204 72 = some (.invokevirtual 280, 75, 203, 2, .null) := by decide +kernel
theorem x_204_72 : Tr sc (d + 1) 204 (72, [l0, l1, l2, l3, l4, l5], [.int i2, .int i1, .ref k0], h) Q = (okp h k0 10 = true ∧ Tr sc d 203 (ent0 203 [.ref k0, .int i1, .int i2] h) (fun z => Tr sc (d + 1) 204 (75, [l0, l1, l2, l3, l4, l5], z.1.toList ++ [], z.2) Q)) := t_cv (as := [.int i1, .int i2]) (r := []) k_204_72 rfl rfl (Nat.le_of_ble_eq_true rfl) (Nat.le_of_ble_eq_true rfl) (Nat.le_of_ble_eq_true rfl)
theorem k_204_75 : lk 204 75 = some (.iinc 3 (-1), 78, 3, 0, .int (-1)) := by decide +kernel
theorem x_204_75 : Tr sc d 204 (75, [l0, l1, l2, some (.int x), l4, l5], [], h) Q = Tr sc d 204 (78, [l0, l1, cl2 l2, some (.int (x + (-1))), l4, l5], [], h) Q := t_inc k_204_75 rfl (Nat.le_of_ble_eq_true rfl)
theorem k_204_78 : lk 204 78 = some (.goto (-16), 81, 62, 0, .null) := by decide +kernel
theorem x_204_78 : Tr sc d 204 (78, [l0, l1, l2, l3, l4, l5], [], h) Q = Tr sc d 204 (62, [l0, l1, l2, l3, l4, l5], [], h) Q := t_go k_204_78 rfl
theorem k_204_81 : lk 204 81 = some (.aload_n 0, 82, 0, 0, .null) := by decide +kernel
theorem x_204_81 : Tr sc d 204 (81, [some (.ref xk), l1, l2, l3, l4, l5], [], h) Q = Tr sc d 204 (82, [some (.ref xk), l1, l2, l3, l4, l5], [.ref xk], h) Q := t_aload_n k_204_81 rfl
theorem k_204_82 : lk 204 82 = some (.getfield 270, 85, 10, 31, .int 0) := by decide +kernel
theorem x_204_82 : Tr sc d 204 (82, [l0, l1, l2, l3, l4, l5], [.ref k0], h) Q = (okp h k0 10 = true ∧ Tr sc d 204 (85, [l0, l1, l2, l3, l4, l5], [.int (hI h k0 31)], h) Q) := t_gd k_204_82 rfl
theorem k_204_85 : lk 204 85 = some (.iconst 1, 86, 0, 0, .int 1) := by decide +kernel
theorem x_204_85 : Tr sc d 204 (85, [l0, l1, l2, l3, l4, l5], [.int i0], h) Q = Tr sc d 204 (86, [l0, l1, l2, l3, l4, l5], [.int 1, .int i0], h) Q := t_go k_204_85 rfl
theorem k_204_86 : lk 204 86 = some (.isub, 87, 0, 0, .null) := by decide +kernel
theorem x_204_86 : Tr sc d 204 (86, [l0, l1, l2, l3, l4, l5], [.int i1, .int i0], h) Q = Tr sc d 204 (87, [l0, l1, l2, l3, l4, l5], [.int (i0 - i1)], h) Q := t_go k_204_86 rfl
theorem k_204_87 : lk 204 87 = some (.istore_n 3, 88, 3, 0, .null) := by decide +kernel
theorem x_204_87 : Tr sc d 204 (87, [l0, l1, l2, l3, l4, l5], [.int i0], h) Q = Tr sc d 204 (88, [l0, l1, cl2 l2, some (.int i0), l4, l5], [], h) Q := t_istore_n k_204_87 (Nat.le_of_ble_eq_true rfl)
theorem k_204_88 : lk 204 88 = some (.iload_n 3, 89, 3, 0, .null) := by decide +kernel
theorem x_204_88 : Tr sc d 204 (88, [l0, l1, l2, some (.int x), l4, l5], [], h) Q = Tr sc d 204 (89, [l0, l1, l2, some (.int x), l4, l5], [.int x], h) Q := t_iload_n k_204_88 rfl
theorem k_204_89 : lk 204 89 = some (.ifCond .le 43, 92, 132, 0, .null) := by decide +kernel
theorem x_204_89 : Tr sc d 204 (89, [l0, l1, l2, l3, l4, l5], [.int i0], h) Q = if i0 ≤ 0 then Tr sc d 204 (132, [l0, l1, l2, l3, l4, l5], [], h) Q else Tr sc d 204 (92, [l0, l1, l2, l3, l4, l5], [], h) Q := t_if k_204_89 rfl
theorem k_204_92 : lk 204 92 = some (.aload_n 0, 93, 0, 0, .null) := by decide +kernel
theorem x_204_92 : Tr sc d 204 (92, [some (.ref xk), l1, l2, l3, l4, l5], [], h) Q = Tr sc d 204 (93, [some (.ref xk), l1, l2, l3, l4, l5], [.ref xk], h) Q := t_aload_n k_204_92 rfl
theorem k_204_93 : lk 204 93 = some (.getfield 75, 96, 10, 38, .null) := by decide +kernel
theorem x_204_93 : Tr sc d 204 (93, [l0, l1, l2, l3, l4, l5], [.ref k0], h) Q = (okp h k0 10 = true ∧ ∃ q, hR h k0 38 = some q ∧ Tr sc d 204 (96, [l0, l1, l2, l3, l4, l5], [.ref q], h) Q) := t_getr k_204_93
theorem k_204_96 : lk 204 96 = some (.iconst 0, 97, 0, 0, .int 0) := by decide +kernel
theorem x_204_96 : Tr sc d 204 (96, [l0, l1, l2, l3, l4, l5], [.ref k0], h) Q = Tr sc d 204 (97, [l0, l1, l2, l3, l4, l5], [.int 0, .ref k0], h) Q := t_go k_204_96 rfl
theorem k_204_97 : lk 204 97 = some (.laload, 98, 0, 0, .null) := by decide +kernel
theorem x_204_97 : Tr sc d 204 (97, [l0, l1, l2, l3, l4, l5], [.int i1, .ref k0], h) Q = ((okp h k0 12 && inb i1 (LN k0)) = true ∧ Tr sc d 204 (98, [l0, l1, l2, l3, l4, l5], [.long (hL h k0 i1.toNatClampNeg)], h) Q) := t_gd k_204_97 rfl
theorem k_204_98 : lk 204 98 = some (.lstore 4, 100, 4, 0, .null) := by decide +kernel
theorem x_204_98 : Tr sc d 204 (98, [l0, l1, l2, l3, l4, l5], [.long j0], h) Q = Tr sc d 204 (100, [l0, l1, l2, cl2 l3, some (.long j0), none], [], h) Q := t_lstore k_204_98 (Nat.le_of_ble_eq_true rfl)
theorem k_204_100 : lk 204 100 = some (.aload_n 0, 101, 0, 0, .null) := by decide +kernel
theorem x_204_100 : Tr sc d 204 (100, [some (.ref xk), l1, l2, l3, l4, l5], [], h) Q = Tr sc d 204 (101, [some (.ref xk), l1, l2, l3, l4, l5], [.ref xk], h) Q := t_aload_n k_204_100 rfl
theorem k_204_101 : lk 204 101 = some (.getfield 75, 104, 10, 38, .null) := by decide +kernel
theorem x_204_101 : Tr sc d 204 (101, [l0, l1, l2, l3, l4, l5], [.ref k0], h) Q = (okp h k0 10 = true ∧ ∃ q, hR h k0 38 = some q ∧ Tr sc d 204 (104, [l0, l1, l2, l3, l4, l5], [.ref q], h) Q) := t_getr k_204_101
theorem k_204_104 : lk 204 104 = some (.iconst 0, 105, 0, 0, .int 0) := by decide +kernel
theorem x_204_104 : Tr sc d 204 (104, [l0, l1, l2, l3, l4, l5], [.ref k0], h) Q = Tr sc d 204 (105, [l0, l1, l2, l3, l4, l5], [.int 0, .ref k0], h) Q := t_go k_204_104 rfl
theorem k_204_105 : lk 204 105 = some (.aload_n 0, 106, 0, 0, .null) := by decide +kernel
theorem x_204_105 : Tr sc d 204 (105, [some (.ref xk), l1, l2, l3, l4, l5], [.int i1, .ref k0], h) Q = Tr sc d 204 (106, [some (.ref xk), l1, l2, l3, l4, l5], [.ref xk, .int i1, .ref k0], h) Q := t_aload_n k_204_105 rfl
theorem k_204_106 : lk 204 106 = some (.getfield 75, 109, 10, 38, .null) := by decide +kernel
theorem x_204_106 : Tr sc d 204 (106, [l0, l1, l2, l3, l4, l5], [.ref k2, .int i1, .ref k0], h) Q = (okp h k2 10 = true ∧ ∃ q, hR h k2 38 = some q ∧ Tr sc d 204 (109, [l0, l1, l2, l3, l4, l5], [.ref q, .int i1, .ref k0], h) Q) := t_getr k_204_106
theorem k_204_109 : lk 204 109 = some (.iload_n 3, 110, 3, 0, .null) := by decide +kernel
theorem x_204_109 : Tr sc d 204 (109, [l0, l1, l2, some (.int x), l4, l5], [.ref k2, .int i1, .ref k0], h) Q = Tr sc d 204 (110, [l0, l1, l2, some (.int x), l4, l5], [.int x, .ref k2, .int i1, .ref k0], h) Q := t_iload_n k_204_109 rfl
theorem k_204_110 : lk 204 110 = some (.laload, 111, 0, 0, .null) := by decide +kernel
theorem x_204_110 : Tr sc d 204 (110, [l0, l1, l2, l3, l4, l5], [.int i3, .ref k2, .int i1, .ref k0], h) Q = ((okp h k2 12 && inb i3 (LN k2)) = true ∧ Tr sc d 204 (111, [l0, l1, l2, l3, l4, l5], [.long (hL h k2 i3.toNatClampNeg), .int i1, .ref k0], h) Q) := t_gd k_204_110 rfl
theorem k_204_111 : lk 204 111 = some (.lastore, 112, 0, 0, .null) := by decide +kernel
theorem x_204_111 : Tr sc d 204 (111, [l0, l1, l2, l3, l4, l5], [.long j2, .int i1, .ref k0], h) Q = ((okp h k0 12 && inb i1 (LN k0)) = true ∧ Tr sc d 204 (112, [l0, l1, l2, l3, l4, l5], [], (sL h k0 i1.toNatClampNeg j2)) Q) := t_gd k_204_111 rfl
theorem k_204_112 : lk 204 112 = some (.aload_n 0, 113, 0, 0, .null) := by decide +kernel
theorem x_204_112 : Tr sc d 204 (112, [some (.ref xk), l1, l2, l3, l4, l5], [], h) Q = Tr sc d 204 (113, [some (.ref xk), l1, l2, l3, l4, l5], [.ref xk], h) Q := t_aload_n k_204_112 rfl
theorem k_204_113 : lk 204 113 = some (.getfield 75, 116, 10, 38, .null) := by decide +kernel
theorem x_204_113 : Tr sc d 204 (113, [l0, l1, l2, l3, l4, l5], [.ref k0], h) Q = (okp h k0 10 = true ∧ ∃ q, hR h k0 38 = some q ∧ Tr sc d 204 (116, [l0, l1, l2, l3, l4, l5], [.ref q], h) Q) := t_getr k_204_113
theorem k_204_116 : lk 204 116 = some (.iload_n 3, 117, 3, 0, .null) := by decide +kernel
theorem x_204_116 : Tr sc d 204 (116, [l0, l1, l2, some (.int x), l4, l5], [.ref k0], h) Q = Tr sc d 204 (117, [l0, l1, l2, some (.int x), l4, l5], [.int x, .ref k0], h) Q := t_iload_n k_204_116 rfl
theorem k_204_117 : lk 204 117 = some (.lload 4, 119, 4, 0, .null) := by decide +kernel
theorem x_204_117 : Tr sc d 204 (117, [l0, l1, l2, l3, some (.long xl), l5], [.int i1, .ref k0], h) Q = Tr sc d 204 (119, [l0, l1, l2, l3, some (.long xl), l5], [.long xl, .int i1, .ref k0], h) Q := t_lload k_204_117 rfl
theorem k_204_119 : lk 204 119 = some (.lastore, 120, 0, 0, .null) := by decide +kernel
theorem x_204_119 : Tr sc d 204 (119, [l0, l1, l2, l3, l4, l5], [.long j2, .int i1, .ref k0], h) Q = ((okp h k0 12 && inb i1 (LN k0)) = true ∧ Tr sc d 204 (120, [l0, l1, l2, l3, l4, l5], [], (sL h k0 i1.toNatClampNeg j2)) Q) := t_gd k_204_119 rfl
theorem k_204_120 : lk 204 120 = some (.aload_n 0, 121, 0, 0, .null) := by decide +kernel
theorem x_204_120 : Tr sc d 204 (120, [some (.ref xk), l1, l2, l3, l4, l5], [], h) Q = Tr sc d 204 (121, [some (.ref xk), l1, l2, l3, l4, l5], [.ref xk], h) Q := t_aload_n k_204_120 rfl
theorem k_204_121 : lk 204 121 = some (.iconst 0, 122, 0, 0, .int 0) := by decide +kernel
theorem x_204_121 : Tr sc d 204 (121, [l0, l1, l2, l3, l4, l5], [.ref k0], h) Q = Tr sc d 204 (122, [l0, l1, l2, l3, l4, l5], [.int 0, .ref k0], h) Q := t_go k_204_121 rfl
theorem k_204_122 : lk 204 122 = some (.iload_n 3, 123, 3, 0, .null) := by decide +kernel
theorem x_204_122 : Tr sc d 204 (122, [l0, l1, l2, some (.int x), l4, l5], [.int i1, .ref k0], h) Q = Tr sc d 204 (123, [l0, l1, l2, some (.int x), l4, l5], [.int x, .int i1, .ref k0], h) Q := t_iload_n k_204_122 rfl
theorem k_204_123 : lk 204 123 = some (.invokevirtual 280, 126, 203, 2, .null) := by decide +kernel
theorem x_204_123 : Tr sc (d + 1) 204 (123, [l0, l1, l2, l3, l4, l5], [.int i2, .int i1, .ref k0], h) Q = (okp h k0 10 = true ∧ Tr sc d 203 (ent0 203 [.ref k0, .int i1, .int i2] h) (fun z => Tr sc (d + 1) 204 (126, [l0, l1, l2, l3, l4, l5], z.1.toList ++ [], z.2) Q)) := t_cv (as := [.int i1, .int i2]) (r := []) k_204_123 rfl rfl (Nat.le_of_ble_eq_true rfl) (Nat.le_of_ble_eq_true rfl) (Nat.le_of_ble_eq_true rfl)
theorem k_204_126 : lk 204 126 = some (.iinc 3 (-1), 129, 3, 0, .int (-1)) := by decide +kernel
theorem x_204_126 : Tr sc d 204 (126, [l0, l1, l2, some (.int x), l4, l5], [], h) Q = Tr sc d 204 (129, [l0, l1, cl2 l2, some (.int (x + (-1))), l4, l5], [], h) Q := t_inc k_204_126 rfl (Nat.le_of_ble_eq_true rfl)
theorem k_204_129 : lk 204 129 = some (.goto (-41), 132, 88, 0, .null) := by decide +kernel
theorem x_204_129 : Tr sc d 204 (129, [l0, l1, l2, l3, l4, l5], [], h) Q = Tr sc d 204 (88, [l0, l1, l2, l3, l4, l5], [], h) Q := t_go k_204_129 rfl
theorem k_204_132 : lk 204 132 = some (.aload_n 0, 133, 0, 0, .null) := by decide +kernel
theorem x_204_132 : Tr sc d 204 (132, [some (.ref xk), l1, l2, l3, l4, l5], [], h) Q = Tr sc d 204 (133, [some (.ref xk), l1, l2, l3, l4, l5], [.ref xk], h) Q := t_aload_n k_204_132 rfl
theorem k_204_133 : lk 204 133 = some (.iconst 0, 134, 0, 0, .int 0) := by decide +kernel
theorem x_204_133 : Tr sc d 204 (133, [l0, l1, l2, l3, l4, l5], [.ref k0], h) Q = Tr sc d 204 (134, [l0, l1, l2, l3, l4, l5], [.int 0, .ref k0], h) Q := t_go k_204_133 rfl
theorem k_204_134 : lk 204 134 = some (.putfield 283, 137, 10, 36, .int 0) := by decide +kernel
theorem x_204_134 : Tr sc d 204 (134, [l0, l1, l2, l3, l4, l5], [.int i1, .ref k0], h) Q = (okp h k0 10 = true ∧ Tr sc d 204 (137, [l0, l1, l2, l3, l4, l5], [], (sI h k0 36 i1)) Q) := t_gd k_204_134 rfl
theorem k_204_137 : lk 204 137 = some (.aload_n 0, 138, 0, 0, .null) := by decide +kernel
theorem x_204_137 : Tr sc d 204 (137, [some (.ref xk), l1, l2, l3, l4, l5], [], h) Q = Tr sc d 204 (138, [some (.ref xk), l1, l2, l3, l4, l5], [.ref xk], h) Q := t_aload_n k_204_137 rfl
theorem k_204_138 : lk 204 138 = some (.iconst 0, 139, 0, 0, .int 0) := by decide +kernel
theorem x_204_138 : Tr sc d 204 (138, [l0, l1, l2, l3, l4, l5], [.ref k0], h) Q = Tr sc d 204 (139, [l0, l1, l2, l3, l4, l5], [.int 0, .ref k0], h) Q := t_go k_204_138 rfl
theorem k_204_139 : lk 204 139 = some (.putfield 286, 142, 10, 37, .int 0) := by decide +kernel
theorem x_204_139 : Tr sc d 204 (139, [l0, l1, l2, l3, l4, l5], [.int i1, .ref k0], h) Q = (okp h k0 10 = true ∧ Tr sc d 204 (142, [l0, l1, l2, l3, l4, l5], [], (sI h k0 37 i1)) Q) := t_gd k_204_139 rfl
theorem k_204_142 : lk 204 142 = some (.iconst 0, 143, 0, 0, .int 0) := by decide +kernel
theorem x_204_142 : Tr sc d 204 (142, [l0, l1, l2, l3, l4, l5], [], h) Q = Tr sc d 204 (143, [l0, l1, l2, l3, l4, l5], [.int 0], h) Q := t_go k_204_142 rfl
theorem k_204_143 : lk 204 143 = some (.istore_n 3, 144, 3, 0, .null) := by decide +kernel
theorem x_204_143 : Tr sc d 204 (143, [l0, l1, l2, l3, l4, l5], [.int i0], h) Q = Tr sc d 204 (144, [l0, l1, cl2 l2, some (.int i0), l4, l5], [], h) Q := t_istore_n k_204_143 (Nat.le_of_ble_eq_true rfl)
theorem k_204_144 : lk 204 144 = some (.iconst 0, 145, 0, 0, .int 0) := by decide +kernel
theorem x_204_144 : Tr sc d 204 (144, [l0, l1, l2, l3, l4, l5], [], h) Q = Tr sc d 204 (145, [l0, l1, l2, l3, l4, l5], [.int 0], h) Q := t_go k_204_144 rfl
theorem k_204_145 : lk 204 145 = some (.istore 4, 147, 4, 0, .null) := by decide +kernel
theorem x_204_145 : Tr sc d 204 (145, [l0, l1, l2, l3, l4, l5], [.int i0], h) Q = Tr sc d 204 (147, [l0, l1, l2, cl2 l3, some (.int i0), l5], [], h) Q := t_istore k_204_145 (Nat.le_of_ble_eq_true rfl)
theorem k_204_147 : lk 204 147 = some (.iload 4, 149, 4, 0, .null) := by decide +kernel
theorem x_204_147 : Tr sc d 204 (147, [l0, l1, l2, l3, some (.int x), l5], [], h) Q = Tr sc d 204 (149, [l0, l1, l2, l3, some (.int x), l5], [.int x], h) Q := t_iload k_204_147 rfl
theorem k_204_149 : lk 204 149 = some (.aload_n 0, 150, 0, 0, .null) := by decide +kernel
theorem x_204_149 : Tr sc d 204 (149, [some (.ref xk), l1, l2, l3, l4, l5], [.int i0], h) Q = Tr sc d 204 (150, [some (.ref xk), l1, l2, l3, l4, l5], [.ref xk, .int i0], h) Q := t_aload_n k_204_149 rfl
theorem k_204_150 : lk 204 150 = some (.getfield 270, 153, 10, 31, .int 0) := by decide +kernel
theorem x_204_150 : Tr sc d 204 (150, [l0, l1, l2, l3, l4, l5], [.ref k1, .int i0], h) Q = (okp h k1 10 = true ∧ Tr sc d 204 (153, [l0, l1, l2, l3, l4, l5], [.int (hI h k1 31), .int i0], h) Q) := t_gd k_204_150 rfl
theorem k_204_153 : lk 204 153 = some (.if_icmp .ge 149, 156, 302, 0, .null) := by decide +kernel
theorem x_204_153 : Tr sc d 204 (153, [l0, l1, l2, l3, l4, l5], [.int i1, .int i0], h) Q = if i1 ≤ i0 then Tr sc d 204 (302, [l0, l1, l2, l3, l4, l5], [], h) Q else Tr sc d 204 (156, [l0, l1, l2, l3, l4, l5], [], h) Q := t_if k_204_153 rfl
theorem k_204_156 : lk 204 156 = some (.iload 4, 158, 4, 0, .null) := by decide +kernel
theorem x_204_156 : Tr sc d 204 (156, [l0, l1, l2, l3, some (.int x), l5], [], h) Q = Tr sc d 204 (158, [l0, l1, l2, l3, some (.int x), l5], [.int x], h) Q := t_iload k_204_156 rfl
theorem k_204_158 : lk 204 158 = some (.ifCond .le 29, 161, 187, 0, .null) := by decide +kernel
theorem x_204_158 : Tr sc d 204 (158, [l0, l1, l2, l3, l4, l5], [.int i0], h) Q = if i0 ≤ 0 then Tr sc d 204 (187, [l0, l1, l2, l3, l4, l5], [], h) Q else Tr sc d 204 (161, [l0, l1, l2, l3, l4, l5], [], h) Q := t_if k_204_158 rfl
theorem k_204_161 : lk 204 161 = some (.aload_n 0, 162, 0, 0, .null) := by decide +kernel
theorem x_204_161 : Tr sc d 204 (161, [some (.ref xk), l1, l2, l3, l4, l5], [], h) Q = Tr sc d 204 (162, [some (.ref xk), l1, l2, l3, l4, l5], [.ref xk], h) Q := t_aload_n k_204_161 rfl
theorem k_204_162 : lk 204 162 = some (.getfield 75, 165, 10, 38, .null) := by decide +kernel
theorem x_204_162 : Tr sc d 204 (162, [l0, l1, l2, l3, l4, l5], [.ref k0], h) Q = (okp h k0 10 = true ∧ ∃ q, hR h k0 38 = some q ∧ Tr sc d 204 (165, [l0, l1, l2, l3, l4, l5], [.ref q], h) Q) := t_getr k_204_162
theorem k_204_165 : lk 204 165 = some (.iload 4, 167, 4, 0, .null) := by decide +kernel
theorem x_204_165 : Tr sc d 204 (165, [l0, l1, l2, l3, some (.int x), l5], [.ref k0], h) Q = Tr sc d 204 (167, [l0, l1, l2, l3, some (.int x), l5], [.int x, .ref k0], h) Q := t_iload k_204_165 rfl
theorem k_204_167 : lk 204 167 = some (.laload, 168, 0, 0, .null) := by decide +kernel
theorem x_204_167 : Tr sc d 204 (167, [l0, l1, l2, l3, l4, l5], [.int i1, .ref k0], h) Q = ((okp h k0 12 && inb i1 (LN k0)) = true ∧ Tr sc d 204 (168, [l0, l1, l2, l3, l4, l5], [.long (hL h k0 i1.toNatClampNeg)], h) Q) := t_gd k_204_167 rfl
theorem k_204_168 : lk 204 168 = some (.aload_n 0, 169, 0, 0, .null) := by decide +kernel
theorem x_204_168 : Tr sc d 204 (168, [some (.ref xk), l1, l2, l3, l4, l5], [.long j0], h) Q = Tr sc d 204 (169, [some (.ref xk), l1, l2, l3, l4, l5], [.ref xk, .long j0], h) Q := t_aload_n k_204_168 rfl
theorem k_204_169 : lk 204 169 = some (.getfield 75, 172, 10, 38, .null) := by decide +kernel
theorem x_204_169 : Tr sc d 204 (169, [l0, l1, l2, l3, l4, l5], [.ref k1, .long j0], h) Q = (okp h k1 10 = true ∧ ∃ q, hR h k1 38 = some q ∧ Tr sc d 204 (172, [l0, l1, l2, l3, l4, l5], [.ref q, .long j0], h) Q) := t_getr k_204_169
theorem k_204_172 : lk 204 172 = some (.iload 4, 174, 4, 0, .null) := by decide +kernel
theorem x_204_172 : Tr sc d 204 (172, [l0, l1, l2, l3, some (.int x), l5], [.ref k1, .long j0], h) Q = Tr sc d 204 (174, [l0, l1, l2, l3, some (.int x), l5], [.int x, .ref k1, .long j0], h) Q := t_iload k_204_172 rfl
theorem k_204_174 : lk 204 174 = some (.iconst 1, 175, 0, 0, .int 1) := by decide +kernel
theorem x_204_174 : Tr sc d 204 (174, [l0, l1, l2, l3, l4, l5], [.int i2, .ref k1, .long j0], h) Q = Tr sc d 204 (175, [l0, l1, l2, l3, l4, l5], [.int 1, .int i2, .ref k1, .long j0], h) Q := t_go k_204_174 rfl
theorem k_204_175 : lk 204 175 = some (.isub, 176, 0, 0, .null) := by decide +kernel
theorem x_204_175 : Tr sc d 204 (175, [l0, l1, l2, l3, l4, l5], [.int i3, .int i2, .ref k1, .long j0], h) Q = Tr sc d 204 (176, [l0, l1, l2, l3, l4, l5], [.int (i2 - i3), .ref k1, .long j0], h) Q := t_go k_204_175 rfl
theorem k_204_176 : lk 204 176 = some (.laload, 177, 0, 0, .null) := by decide +kernel
theorem x_204_176 : Tr sc d 204 (176, [l0, l1, l2, l3, l4, l5], [.int i2, .ref k1, .long j0], h) Q = ((okp h k1 12 && inb i2 (LN k1)) = true ∧ Tr sc d 204 (177, [l0, l1, l2, l3, l4, l5], [.long (hL h k1 i2.toNatClampNeg), .long j0], h) Q) := t_gd k_204_176 rfl
theorem k_204_177 : lk 204 177 = some (.lcmp, 178, 0, 0, .null) := by decide +kernel
theorem x_204_177 : Tr sc d 204 (177, [l0, l1, l2, l3, l4, l5], [.long j1, .long j0], h) Q = Tr sc d 204 (178, [l0, l1, l2, l3, l4, l5], [.int (lg_cmp j0 j1)], h) Q := t_go k_204_177 rfl
theorem k_204_178 : lk 204 178 = some (.ifCond .ne 9, 181, 187, 0, .null) := by decide +kernel
theorem x_204_178 : Tr sc d 204 (178, [l0, l1, l2, l3, l4, l5], [.int i0], h) Q = if i0 = 0 then Tr sc d 204 (181, [l0, l1, l2, l3, l4, l5], [], h) Q else Tr sc d 204 (187, [l0, l1, l2, l3, l4, l5], [], h) Q := t_if k_204_178 rfl
theorem k_204_181 : lk 204 181 = some (.iload_n 3, 182, 3, 0, .null) := by decide +kernel
theorem x_204_181 : Tr sc d 204 (181, [l0, l1, l2, some (.int x), l4, l5], [], h) Q = Tr sc d 204 (182, [l0, l1, l2, some (.int x), l4, l5], [.int x], h) Q := t_iload_n k_204_181 rfl
theorem k_204_182 : lk 204 182 = some (.iconst 1, 183, 0, 0, .int 1) := by decide +kernel
theorem x_204_182 : Tr sc d 204 (182, [l0, l1, l2, l3, l4, l5], [.int i0], h) Q = Tr sc d 204 (183, [l0, l1, l2, l3, l4, l5], [.int 1, .int i0], h) Q := t_go k_204_182 rfl
theorem k_204_183 : lk 204 183 = some (.iadd, 184, 0, 0, .null) := by decide +kernel
theorem x_204_183 : Tr sc d 204 (183, [l0, l1, l2, l3, l4, l5], [.int i1, .int i0], h) Q = Tr sc d 204 (184, [l0, l1, l2, l3, l4, l5], [.int (i0 + i1)], h) Q := t_go k_204_183 rfl
theorem k_204_184 : lk 204 184 = some (.goto 4, 187, 188, 0, .null) := by decide +kernel
theorem x_204_184 : Tr sc d 204 (184, [l0, l1, l2, l3, l4, l5], [.int i0], h) Q = Tr sc d 204 (188, [l0, l1, l2, l3, l4, l5], [.int i0], h) Q := t_go k_204_184 rfl
theorem k_204_187 : lk 204 187 = some (.iconst 1, 188, 0, 0, .int 1) := by decide +kernel
theorem x_204_187 : Tr sc d 204 (187, [l0, l1, l2, l3, l4, l5], [], h) Q = Tr sc d 204 (188, [l0, l1, l2, l3, l4, l5], [.int 1], h) Q := t_go k_204_187 rfl
theorem k_204_188 : lk 204 188 = some (.istore_n 3, 189, 3, 0, .null) := by decide +kernel
theorem x_204_188 : Tr sc d 204 (188, [l0, l1, l2, l3, l4, l5], [.int i0], h) Q = Tr sc d 204 (189, [l0, l1, cl2 l2, some (.int i0), l4, l5], [], h) Q := t_istore_n k_204_188 (Nat.le_of_ble_eq_true rfl)
theorem k_204_189 : lk 204 189 = some (.aload_n 0, 190, 0, 0, .null) := by decide +kernel
theorem x_204_189 : Tr sc d 204 (189, [some (.ref xk), l1, l2, l3, l4, l5], [], h) Q = Tr sc d 204 (190, [some (.ref xk), l1, l2, l3, l4, l5], [.ref xk], h) Q := t_aload_n k_204_189 rfl
theorem k_204_190 : lk 204 190 = some (.iload_n 3, 191, 3, 0, .null) := by decide +kernel
theorem x_204_190 : Tr sc d 204 (190, [l0, l1, l2, some (.int x), l4, l5], [.ref k0], h) Q = Tr sc d 204 (191, [l0, l1, l2, some (.int x), l4, l5], [.int x, .ref k0], h) Q := t_iload_n k_204_190 rfl
theorem k_204_191 : lk 204 191 = some (.aload_n 0, 192, 0, 0, .null) := by decide +kernel
theorem x_204_191 : Tr sc d 204 (191, [some (.ref xk), l1, l2, l3, l4, l5], [.int i1, .ref k0], h) Q = Tr sc d 204 (192, [some (.ref xk), l1, l2, l3, l4, l5], [.ref xk, .int i1, .ref k0], h) Q := t_aload_n k_204_191 rfl
theorem k_204_192 : lk 204 192 = some (.getfield 286, 195, 10, 37, .int 0) := by decide +kernel
theorem x_204_192 : Tr sc d 204 (192, [l0, l1, l2, l3, l4, l5], [.ref k2, .int i1, .ref k0], h) Q = (okp h k2 10 = true ∧ Tr sc d 204 (195, [l0, l1, l2, l3, l4, l5], [.int (hI h k2 37), .int i1, .ref k0], h) Q) := t_gd k_204_192 rfl
theorem k_204_195 : lk 204 195 = some (.if_icmp .le 7, 198, 202, 0, .null) := by decide +kernel
theorem x_204_195 : Tr sc d 204 (195, [l0, l1, l2, l3, l4, l5], [.int i2, .int i1, .ref k0], h) Q = if i1 ≤ i2 then Tr sc d 204 (202, [l0, l1, l2, l3, l4, l5], [.ref k0], h) Q else Tr sc d 204 (198, [l0, l1, l2, l3, l4, l5], [.ref k0], h) Q := t_if k_204_195 rfl
theorem k_204_198 : lk 204 198 = some (.iload_n 3, 199, 3, 0, .null) := by decide +kernel
theorem x_204_198 : Tr sc d 204 (198, [l0, l1, l2, some (.int x), l4, l5], [.ref k0], h) Q = Tr sc d 204 (199, [l0, l1, l2, some (.int x), l4, l5], [.int x, .ref k0], h) Q := t_iload_n k_204_198 rfl
theorem k_204_199 : lk 204 199 = some (.goto 7, 202, 206, 0, .null) := by decide +kernel
theorem x_204_199 : Tr sc d 204 (199, [l0, l1, l2, l3, l4, l5], [.int i1, .ref k0], h) Q = Tr sc d 204 (206, [l0, l1, l2, l3, l4, l5], [.int i1, .ref k0], h) Q := t_go k_204_199 rfl
theorem k_204_202 : lk 204 202 = some (.aload_n 0, 203, 0, 0, .null) := by decide +kernel
theorem x_204_202 : Tr sc d 204 (202, [some (.ref xk), l1, l2, l3, l4, l5], [.ref k0], h) Q = Tr sc d 204 (203, [some (.ref xk), l1, l2, l3, l4, l5], [.ref xk, .ref k0], h) Q := t_aload_n k_204_202 rfl
theorem k_204_203 : lk 204 203 = some (.getfield 286, 206, 10, 37, .int 0) := by decide +kernel
theorem x_204_203 : Tr sc d 204 (203, [l0, l1, l2, l3, l4, l5], [.ref k1, .ref k0], h) Q = (okp h k1 10 = true ∧ Tr sc d 204 (206, [l0, l1, l2, l3, l4, l5], [.int (hI h k1 37), .ref k0], h) Q) := t_gd k_204_203 rfl
theorem k_204_206 : lk 204 206 = some (.putfield 286, 209, 10, 37, .int 0) := by decide +kernel
theorem x_204_206 : Tr sc d 204 (206, [l0, l1, l2, l3, l4, l5], [.int i1, .ref k0], h) Q = (okp h k0 10 = true ∧ Tr sc d 204 (209, [l0, l1, l2, l3, l4, l5], [], (sI h k0 37 i1)) Q) := t_gd k_204_206 rfl
theorem k_204_209 : lk 204 209 = some (.iload_n 3, 210, 3, 0, .null) := by decide +kernel
theorem x_204_209 : Tr sc d 204 (209, [l0, l1, l2, some (.int x), l4, l5], [], h) Q = Tr sc d 204 (210, [l0, l1, l2, some (.int x), l4, l5], [.int x], h) Q := t_iload_n k_204_209 rfl
theorem k_204_210 : lk 204 210 = some (.iconst 1, 211, 0, 0, .int 1) := by decide +kernel
theorem x_204_210 : Tr sc d 204 (210, [l0, l1, l2, l3, l4, l5], [.int i0], h) Q = Tr sc d 204 (211, [l0, l1, l2, l3, l4, l5], [.int 1, .int i0], h) Q := t_go k_204_210 rfl
theorem k_204_211 : lk 204 211 = some (.if_icmp .ne 85, 214, 296, 0, .null) := by decide +kernel
theorem x_204_211 : Tr sc d 204 (211, [l0, l1, l2, l3, l4, l5], [.int i1, .int i0], h) Q = if i0 = i1 then Tr sc d 204 (214, [l0, l1, l2, l3, l4, l5], [], h) Q else Tr sc d 204 (296, [l0, l1, l2, l3, l4, l5], [], h) Q := t_if k_204_211 rfl
theorem k_204_214 : lk 204 214 = some (.aload_n 0, 215, 0, 0, .null) := by decide +kernel
theorem x_204_214 : Tr sc d 204 (214, [some (.ref xk), l1, l2, l3, l4, l5], [], h) Q = Tr sc d 204 (215, [some (.ref xk), l1, l2, l3, l4, l5], [.ref xk], h) Q := t_aload_n k_204_214 rfl
theorem k_204_215 : lk 204 215 = some (.getfield 78, 218, 10, 39, .null) := by decide +kernel
theorem x_204_215 : Tr sc d 204 (215, [l0, l1, l2, l3, l4, l5], [.ref k0], h) Q = (okp h k0 10 = true ∧ ∃ q, hR h k0 39 = some q ∧ Tr sc d 204 (218, [l0, l1, l2, l3, l4, l5], [.ref q], h) Q) := t_getr k_204_215
theorem k_204_218 : lk 204 218 = some (.aload_n 0, 219, 0, 0, .null) := by decide +kernel
theorem x_204_218 : Tr sc d 204 (218, [some (.ref xk), l1, l2, l3, l4, l5], [.ref k0], h) Q = Tr sc d 204 (219, [some (.ref xk), l1, l2, l3, l4, l5], [.ref xk, .ref k0], h) Q := t_aload_n k_204_218 rfl
theorem k_204_219 : lk 204 219 = some (.getfield 283, 222, 10, 36, .int 0) := by decide +kernel
theorem x_204_219 : Tr sc d 204 (219, [l0, l1, l2, l3, l4, l5], [.ref k1, .ref k0], h) Q = (okp h k1 10 = true ∧ Tr sc d 204 (222, [l0, l1, l2, l3, l4, l5], [.int (hI h k1 36), .ref k0], h) Q) := t_gd k_204_219 rfl
theorem k_204_222 : lk 204 222 = some (.aload_n 0, 223, 0, 0, .null) := by decide +kernel
theorem x_204_222 : Tr sc d 204 (222, [some (.ref xk), l1, l2, l3, l4, l5], [.int i1, .ref k0], h) Q = Tr sc d 204 (223, [some (.ref xk), l1, l2, l3, l4, l5], [.ref xk, .int i1, .ref k0], h) Q := t_aload_n k_204_222 rfl
theorem k_204_223 : lk 204 223 = some (.getfield 75, 226, 10, 38, .null) := by decide +kernel
theorem x_204_223 : Tr sc d 204 (223, [l0, l1, l2, l3, l4, l5], [.ref k2, .int i1, .ref k0], h) Q = (okp h k2 10 = true ∧ ∃ q, hR h k2 38 = some q ∧ Tr sc d 204 (226, [l0, l1, l2, l3, l4, l5], [.ref q, .int i1, .ref k0], h) Q) := t_getr k_204_223
theorem k_204_226 : lk 204 226 = some (.iload 4, 228, 4, 0, .null) := by decide +kernel
theorem x_204_226 : Tr sc d 204 (226, [l0, l1, l2, l3, some (.int x), l5], [.ref k2, .int i1, .ref k0], h) Q = Tr sc d 204 (228, [l0, l1, l2, l3, some (.int x), l5], [.int x, .ref k2, .int i1, .ref k0], h) Q := t_iload k_204_226 rfl
theorem k_204_228 : lk 204 228 = some (.laload, 229, 0, 0, .null) := by decide +kernel
theorem x_204_228 : Tr sc d 204 (228, [l0, l1, l2, l3, l4, l5], [.int i3, .ref k2, .int i1, .ref k0], h) Q = ((okp h k2 12 && inb i3 (LN k2)) = true ∧ Tr sc d 204 (229, [l0, l1, l2, l3, l4, l5], [.long (hL h k2 i3.toNatClampNeg), .int i1, .ref k0], h) Q) := t_gd k_204_228 rfl
theorem k_204_229 : lk 204 229 = some (.ldc2_w 278, 232, 0, 1587, .long 4000000) := by decide +kernel
theorem x_204_229 : Tr sc d 204 (229, [l0, l1, l2, l3, l4, l5], [.long j2, .int i1, .ref k0], h) Q = Tr sc d 204 (232, [l0, l1, l2, l3, l4, l5], [.long 4000000, .long j2, .int i1, .ref k0], h) Q := t_go k_204_229 rfl
theorem k_204_232 : lk 204 232 = some (.lrem, 233, 0, 0, .null) := by decide +kernel
theorem x_204_232 : Tr sc d 204 (232, [l0, l1, l2, l3, l4, l5], [.long j3, .long j2, .int i1, .ref k0], h) Q = (¬ j3 = 0 ∧ Tr sc d 204 (233, [l0, l1, l2, l3, l4, l5], [.long (j2 - j2 / j3 * j3), .int i1, .ref k0], h) Q) := t_ng k_204_232 rfl
theorem k_204_233 : lk 204 233 = some (.ldc2_w 276, 236, 0, 1586, .long 1000000) := by decide +kernel
theorem x_204_233 : Tr sc d 204 (233, [l0, l1, l2, l3, l4, l5], [.long j2, .int i1, .ref k0], h) Q = Tr sc d 204 (236, [l0, l1, l2, l3, l4, l5], [.long 1000000, .long j2, .int i1, .ref k0], h) Q := t_go k_204_233 rfl
theorem k_204_236 : lk 204 236 = some (.lsub, 237, 0, 0, .null) := by decide +kernel
theorem x_204_236 : Tr sc d 204 (236, [l0, l1, l2, l3, l4, l5], [.long j3, .long j2, .int i1, .ref k0], h) Q = Tr sc d 204 (237, [l0, l1, l2, l3, l4, l5], [.long (j2 - j3), .int i1, .ref k0], h) Q := t_go k_204_236 rfl
theorem k_204_237 : lk 204 237 = some (.l2i, 238, 0, 0, .null) := by decide +kernel
theorem x_204_237 : Tr sc d 204 (237, [l0, l1, l2, l3, l4, l5], [.long j2, .int i1, .ref k0], h) Q = Tr sc d 204 (238, [l0, l1, l2, l3, l4, l5], [.int j2.toInt32, .int i1, .ref k0], h) Q := t_go k_204_237 rfl
theorem k_204_238 : lk 204 238 = some (.iastore, 239, 0, 0, .null) := by decide +kernel
theorem x_204_238 : Tr sc d 204 (238, [l0, l1, l2, l3, l4, l5], [.int i2, .int i1, .ref k0], h) Q = ((okp h k0 11 && inb i1 (LN k0)) = true ∧ Tr sc d 204 (239, [l0, l1, l2, l3, l4, l5], [], (sI h k0 i1.toNatClampNeg i2)) Q) := t_gd k_204_238 rfl
theorem k_204_239 : lk 204 239 = some (.aload_n 0, 240, 0, 0, .null) := by decide +kernel
theorem x_204_239 : Tr sc d 204 (239, [some (.ref xk), l1, l2, l3, l4, l5], [], h) Q = Tr sc d 204 (240, [some (.ref xk), l1, l2, l3, l4, l5], [.ref xk], h) Q := t_aload_n k_204_239 rfl
theorem k_204_240 : lk 204 240 = some (.getfield 81, 243, 10, 40, .null) := by decide +kernel
theorem x_204_240 : Tr sc d 204 (240, [l0, l1, l2, l3, l4, l5], [.ref k0], h) Q = (okp h k0 10 = true ∧ ∃ q, hR h k0 40 = some q ∧ Tr sc d 204 (243, [l0, l1, l2, l3, l4, l5], [.ref q], h) Q) := t_getr k_204_240
theorem k_204_243 : lk 204 243 = some (.aload_n 0, 244, 0, 0, .null) := by decide +kernel
theorem x_204_243 : Tr sc d 204 (243, [some (.ref xk), l1, l2, l3, l4, l5], [.ref k0], h) Q = Tr sc d 204 (244, [some (.ref xk), l1, l2, l3, l4, l5], [.ref xk, .ref k0], h) Q := t_aload_n k_204_243 rfl
theorem k_204_244 : lk 204 244 = some (.getfield 283, 247, 10, 36, .int 0) := by decide +kernel
theorem x_204_244 : Tr sc d 204 (244, [l0, l1, l2, l3, l4, l5], [.ref k1, .ref k0], h) Q = (okp h k1 10 = true ∧ Tr sc d 204 (247, [l0, l1, l2, l3, l4, l5], [.int (hI h k1 36), .ref k0], h) Q) := t_gd k_204_244 rfl
theorem k_204_247 : lk 204 247 = some (.aload_n 0, 248, 0, 0, .null) := by decide +kernel
theorem x_204_247 : Tr sc d 204 (247, [some (.ref xk), l1, l2, l3, l4, l5], [.int i1, .ref k0], h) Q = Tr sc d 204 (248, [some (.ref xk), l1, l2, l3, l4, l5], [.ref xk, .int i1, .ref k0], h) Q := t_aload_n k_204_247 rfl
theorem k_204_248 : lk 204 248 = some (.getfield 75, 251, 10, 38, .null) := by decide +kernel
theorem x_204_248 : Tr sc d 204 (248, [l0, l1, l2, l3, l4, l5], [.ref k2, .int i1, .ref k0], h) Q = (okp h k2 10 = true ∧ ∃ q, hR h k2 38 = some q ∧ Tr sc d 204 (251, [l0, l1, l2, l3, l4, l5], [.ref q, .int i1, .ref k0], h) Q) := t_getr k_204_248
theorem k_204_251 : lk 204 251 = some (.iload 4, 253, 4, 0, .null) := by decide +kernel
theorem x_204_251 : Tr sc d 204 (251, [l0, l1, l2, l3, some (.int x), l5], [.ref k2, .int i1, .ref k0], h) Q = Tr sc d 204 (253, [l0, l1, l2, l3, some (.int x), l5], [.int x, .ref k2, .int i1, .ref k0], h) Q := t_iload k_204_251 rfl
theorem k_204_253 : lk 204 253 = some (.laload, 254, 0, 0, .null) := by decide +kernel
theorem x_204_253 : Tr sc d 204 (253, [l0, l1, l2, l3, l4, l5], [.int i3, .ref k2, .int i1, .ref k0], h) Q = ((okp h k2 12 && inb i3 (LN k2)) = true ∧ Tr sc d 204 (254, [l0, l1, l2, l3, l4, l5], [.long (hL h k2 i3.toNatClampNeg), .int i1, .ref k0], h) Q) := t_gd k_204_253 rfl
theorem k_204_254 : lk 204 254 = some (.ldc2_w 278, 257, 0, 1587, .long 4000000) := by decide +kernel
theorem x_204_254 : Tr sc d 204 (254, [l0, l1, l2, l3, l4, l5], [.long j2, .int i1, .ref k0], h) Q = Tr sc d 204 (257, [l0, l1, l2, l3, l4, l5], [.long 4000000, .long j2, .int i1, .ref k0], h) Q := t_go k_204_254 rfl
theorem k_204_257 : lk 204 257 = some (.ldiv, 258, 0, 0, .null) := by decide +kernel
theorem x_204_257 : Tr sc d 204 (257, [l0, l1, l2, l3, l4, l5], [.long j3, .long j2, .int i1, .ref k0], h) Q = (¬ j3 = 0 ∧ Tr sc d 204 (258, [l0, l1, l2, l3, l4, l5], [.long (j2 / j3), .int i1, .ref k0], h) Q) := t_ng k_204_257 rfl
theorem k_204_258 : lk 204 258 = some (.ldc2_w 276, 261, 0, 1586, .long 1000000) := by decide +kernel
theorem x_204_258 : Tr sc d 204 (258, [l0, l1, l2, l3, l4, l5], [.long j2, .int i1, .ref k0], h) Q = Tr sc d 204 (261, [l0, l1, l2, l3, l4, l5], [.long 1000000, .long j2, .int i1, .ref k0], h) Q := t_go k_204_258 rfl
theorem k_204_261 : lk 204 261 = some (.lsub, 262, 0, 0, .null) := by decide +kernel
theorem x_204_261 : Tr sc d 204 (261, [l0, l1, l2, l3, l4, l5], [.long j3, .long j2, .int i1, .ref k0], h) Q = Tr sc d 204 (262, [l0, l1, l2, l3, l4, l5], [.long (j2 - j3), .int i1, .ref k0], h) Q := t_go k_204_261 rfl
theorem k_204_262 : lk 204 262 = some (.l2i, 263, 0, 0, .null) := by decide +kernel
theorem x_204_262 : Tr sc d 204 (262, [l0, l1, l2, l3, l4, l5], [.long j2, .int i1, .ref k0], h) Q = Tr sc d 204 (263, [l0, l1, l2, l3, l4, l5], [.int j2.toInt32, .int i1, .ref k0], h) Q := t_go k_204_262 rfl
theorem k_204_263 : lk 204 263 = some (.iastore, 264, 0, 0, .null) := by decide +kernel
theorem x_204_263 : Tr sc d 204 (263, [l0, l1, l2, l3, l4, l5], [.int i2, .int i1, .ref k0], h) Q = ((okp h k0 11 && inb i1 (LN k0)) = true ∧ Tr sc d 204 (264, [l0, l1, l2, l3, l4, l5], [], (sI h k0 i1.toNatClampNeg i2)) Q) := t_gd k_204_263 rfl
theorem k_204_264 : lk 204 264 = some (.aload_n 0, 265, 0, 0, .null) := by decide +kernel
theorem x_204_264 : Tr sc d 204 (264, [some (.ref xk), l1, l2, l3, l4, l5], [], h) Q = Tr sc d 204 (265, [some (.ref xk), l1, l2, l3, l4, l5], [.ref xk], h) Q := t_aload_n k_204_264 rfl
theorem k_204_265 : lk 204 265 = some (.aload_n 0, 266, 0, 0, .null) := by decide +kernel
theorem x_204_265 : Tr sc d 204 (265, [some (.ref xk), l1, l2, l3, l4, l5], [.ref k0], h) Q = Tr sc d 204 (266, [some (.ref xk), l1, l2, l3, l4, l5], [.ref xk, .ref k0], h) Q := t_aload_n k_204_265 rfl
theorem k_204_266 : lk 204 266 = some (.getfield 78, 269, 10, 39, .null) := by decide +kernel
theorem x_204_266 : Tr sc d 204 (266, [l0, l1, l2, l3, l4, l5], [.ref k1, .ref k0], h) Q = (okp h k1 10 = true ∧ ∃ q, hR h k1 39 = some q ∧ Tr sc d 204 (269, [l0, l1, l2, l3, l4, l5], [.ref q, .ref k0], h) Q) := t_getr k_204_266
theorem k_204_269 : lk 204 269 = some (.aload_n 0, 270, 0, 0, .null) := by decide +kernel
theorem x_204_269 : Tr sc d 204 (269, [some (.ref xk), l1, l2, l3, l4, l5], [.ref k1, .ref k0], h) Q = Tr sc d 204 (270, [some (.ref xk), l1, l2, l3, l4, l5], [.ref xk, .ref k1, .ref k0], h) Q := t_aload_n k_204_269 rfl
theorem k_204_270 : lk 204 270 = some (.getfield 283, 273, 10, 36, .int 0) := by decide +kernel
theorem x_204_270 : Tr sc d 204 (270, [l0, l1, l2, l3, l4, l5], [.ref k2, .ref k1, .ref k0], h) Q = (okp h k2 10 = true ∧ Tr sc d 204 (273, [l0, l1, l2, l3, l4, l5], [.int (hI h k2 36), .ref k1, .ref k0], h) Q) := t_gd k_204_270 rfl
theorem k_204_273 : lk 204 273 = some (.iaload, 274, 0, 0, .null) := by decide +kernel
theorem x_204_273 : Tr sc d 204 (273, [l0, l1, l2, l3, l4, l5], [.int i2, .ref k1, .ref k0], h) Q = (iOk sc h k1 i2 ∧ Tr sc d 204 (274, [l0, l1, l2, l3, l4, l5], [.int (iRd sc h k1 i2), .ref k0], h) Q) := t_iald k_204_273
theorem k_204_274 : lk 204 274 = some (.aload_n 0, 275, 0, 0, .null) := by decide +kernel
theorem x_204_274 : Tr sc d 204 (274, [some (.ref xk), l1, l2, l3, l4, l5], [.int i1, .ref k0], h) Q = Tr sc d 204 (275, [some (.ref xk), l1, l2, l3, l4, l5], [.ref xk, .int i1, .ref k0], h) Q := t_aload_n k_204_274 rfl
theorem k_204_275 : lk 204 275 = some (.getfield 81, 278, 10, 40, .null) := by decide +kernel
theorem x_204_275 : Tr sc d 204 (275, [l0, l1, l2, l3, l4, l5], [.ref k2, .int i1, .ref k0], h) Q = (okp h k2 10 = true ∧ ∃ q, hR h k2 40 = some q ∧ Tr sc d 204 (278, [l0, l1, l2, l3, l4, l5], [.ref q, .int i1, .ref k0], h) Q) := t_getr k_204_275
theorem k_204_278 : lk 204 278 = some (.aload_n 0, 279, 0, 0, .null) := by decide +kernel
theorem x_204_278 : Tr sc d 204 (278, [some (.ref xk), l1, l2, l3, l4, l5], [.ref k2, .int i1, .ref k0], h) Q = Tr sc d 204 (279, [some (.ref xk), l1, l2, l3, l4, l5], [.ref xk, .ref k2, .int i1, .ref k0], h) Q := t_aload_n k_204_278 rfl
theorem k_204_279 : lk 204 279 = some (.getfield 283, 282, 10, 36, .int 0) := by decide +kernel
theorem x_204_279 : Tr sc d 204 (279, [l0, l1, l2, l3, l4, l5], [.ref k3, .ref k2, .int i1, .ref k0], h) Q = (okp h k3 10 = true ∧ Tr sc d 204 (282, [l0, l1, l2, l3, l4, l5], [.int (hI h k3 36), .ref k2, .int i1, .ref k0], h) Q) := t_gd k_204_279 rfl
theorem k_204_282 : lk 204 282 = some (.iaload, 283, 0, 0, .null) := by decide +kernel
theorem x_204_282 : Tr sc d 204 (282, [l0, l1, l2, l3, l4, l5], [.int i3, .ref k2, .int i1, .ref k0], h) Q = (iOk sc h k2 i3 ∧ Tr sc d 204 (283, [l0, l1, l2, l3, l4, l5], [.int (iRd sc h k2 i3), .int i1, .ref k0], h) Q) := t_iald k_204_282
theorem k_204_283 : lk 204 283 = some (.invokevirtual 289, 286, 205, 2, .null) := by decide +kernel
theorem x_204_283 : Tr sc (d + 1) 204 (283, [l0, l1, l2, l3, l4, l5], [.int i2, .int i1, .ref k0], h) Q = (okp h k0 10 = true ∧ Tr sc d 205 (ent0 205 [.ref k0, .int i1, .int i2] h) (fun z => Tr sc (d + 1) 204 (286, [l0, l1, l2, l3, l4, l5], z.1.toList ++ [], z.2) Q)) := t_cv (as := [.int i1, .int i2]) (r := []) k_204_283 rfl rfl (Nat.le_of_ble_eq_true rfl) (Nat.le_of_ble_eq_true rfl) (Nat.le_of_ble_eq_true rfl)
theorem k_204_286 : lk 204 286 = some (.aload_n 0, 287, 0, 0, .null) := by decide +kernel
theorem x_204_286 : Tr sc d 204 (286, [some (.ref xk), l1, l2, l3, l4, l5], [], h) Q = Tr sc d 204 (287, [some (.ref xk), l1, l2, l3, l4, l5], [.ref xk], h) Q := t_aload_n k_204_286 rfl
theorem k_204_287 : lk 204 287 = some (.dup, 288, 0, 0, .null) := by decide +kernel
theorem x_204_287 : Tr sc d 204 (287, [l0, l1, l2, l3, l4, l5], [.ref k0], h) Q = Tr sc d 204 (288, [l0, l1, l2, l3, l4, l5], [.ref k0, .ref k0], h) Q := t_go k_204_287 rfl
theorem k_204_288 : lk 204 288 = some (.getfield 283, 291, 10, 36, .int 0) := by decide +kernel
theorem x_204_288 : Tr sc d 204 (288, [l0, l1, l2, l3, l4, l5], [.ref k1, .ref k0], h) Q = (okp h k1 10 = true ∧ Tr sc d 204 (291, [l0, l1, l2, l3, l4, l5], [.int (hI h k1 36), .ref k0], h) Q) := t_gd k_204_288 rfl
theorem k_204_291 : lk 204 291 = some (.iconst 1, 292, 0, 0, .int 1) := by decide +kernel
theorem x_204_291 : Tr sc d 204 (291, [l0, l1, l2, l3, l4, l5], [.int i1, .ref k0], h) Q = Tr sc d 204 (292, [l0, l1, l2, l3, l4, l5], [.int 1, .int i1, .ref k0], h) Q := t_go k_204_291 rfl
theorem k_204_292 : lk 204 292 = some (.iadd, 293, 0, 0, .null) := by decide +kernel
theorem x_204_292 : Tr sc d 204 (292, [l0, l1, l2, l3, l4, l5], [.int i2, .int i1, .ref k0], h) Q = Tr sc d 204 (293, [l0, l1, l2, l3, l4, l5], [.int (i1 + i2), .ref k0], h) Q := t_go k_204_292 rfl
theorem k_204_293 : lk 204 293 = some (.putfield 283, 296, 10, 36, .int 0) := by decide +kernel
theorem x_204_293 : Tr sc d 204 (293, [l0, l1, l2, l3, l4, l5], [.int i1, .ref k0], h) Q = (okp h k0 10 = true ∧ Tr sc d 204 (296, [l0, l1, l2, l3, l4, l5], [], (sI h k0 36 i1)) Q) := t_gd k_204_293 rfl
theorem k_204_296 : lk 204 296 = some (.iinc 4 1, 299, 4, 0, .int 1) := by decide +kernel
theorem x_204_296 : Tr sc d 204 (296, [l0, l1, l2, l3, some (.int x), l5], [], h) Q = Tr sc d 204 (299, [l0, l1, l2, cl2 l3, some (.int (x + 1)), l5], [], h) Q := t_inc k_204_296 rfl (Nat.le_of_ble_eq_true rfl)
theorem k_204_299 : lk 204 299 = some (.goto (-152), 302, 147, 0, .null) := by decide +kernel
theorem x_204_299 : Tr sc d 204 (299, [l0, l1, l2, l3, l4, l5], [], h) Q = Tr sc d 204 (147, [l0, l1, l2, l3, l4, l5], [], h) Q := t_go k_204_299 rfl
theorem k_204_302 : lk 204 302 = some (.return_, 303, 0, 0, .null) := by decide +kernel
theorem x_204_302 : Tr sc d 204 (302, [l0, l1, l2, l3, l4, l5], [], h) Q = Q (none, h) := t_ret k_204_302 (by rw [r_204]; rfl)
theorem e_204 : Tr sc d 204 (ent0 204 [.ref k0, .int i1, .int i2] h) Q = Tr sc d 204 (0, [some (.ref k0), some (.int i1), some (.int i2), none, none, none], [], h) Q := by
  have e : mL 204 = 6 := by decide +kernel
  unfold ent0
  rw [e]
  rfl
theorem r_205 : mR 205 = none := by decide +kernel
theorem k_205_0 : lk 205 0 = some (.aload_n 0, 1, 0, 0, .null) := by decide +kernel
theorem x_205_0 : Tr sc d 205 (0, [some (.ref xk), l1, l2, l3], [], h) Q = Tr sc d 205 (1, [some (.ref xk), l1, l2, l3], [.ref xk], h) Q := t_aload_n k_205_0 rfl
theorem k_205_1 : lk 205 1 = some (.getfield 283, 4, 10, 36, .int 0) := by decide +kernel
theorem x_205_1 : Tr sc d 205 (1, [l0, l1, l2, l3], [.ref k0], h) Q = (okp h k0 10 = true ∧ Tr sc d 205 (4, [l0, l1, l2, l3], [.int (hI h k0 36)], h) Q) := t_gd k_205_1 rfl
theorem k_205_4 : lk 205 4 = some (.ifCond .ne 7, 7, 11, 0, .null) := by decide +kernel
theorem x_205_4 : Tr sc d 205 (4, [l0, l1, l2, l3], [.int i0], h) Q = if i0 = 0 then Tr sc d 205 (7, [l0, l1, l2, l3], [], h) Q else Tr sc d 205 (11, [l0, l1, l2, l3], [], h) Q := t_if k_205_4 rfl
theorem k_205_7 : lk 205 7 = some (.iconst 1, 8, 0, 0, .int 1) := by decide +kernel
theorem x_205_7 : Tr sc d 205 (7, [l0, l1, l2, l3], [], h) Q = Tr sc d 205 (8, [l0, l1, l2, l3], [.int 1], h) Q := t_go k_205_7 rfl
theorem k_205_8 : lk 205 8 = some (.goto 4, 11, 12, 0, .null) := by decide +kernel
theorem x_205_8 : Tr sc d 205 (8, [l0, l1, l2, l3], [.int i0], h) Q = Tr sc d 205 (12, [l0, l1, l2, l3], [.int i0], h) Q := t_go k_205_8 rfl
theorem k_205_11 : lk 205 11 = some (.iconst 0, 12, 0, 0, .int 0) := by decide +kernel
theorem x_205_11 : Tr sc d 205 (11, [l0, l1, l2, l3], [], h) Q = Tr sc d 205 (12, [l0, l1, l2, l3], [.int 0], h) Q := t_go k_205_11 rfl
theorem k_205_12 : lk 205 12 = some (.istore_n 3, 13, 3, 0, .null) := by decide +kernel
theorem x_205_12 : Tr sc d 205 (12, [l0, l1, l2, l3], [.int i0], h) Q = Tr sc d 205 (13, [l0, l1, cl2 l2, some (.int i0)], [], h) Q := t_istore_n k_205_12 (Nat.le_of_ble_eq_true rfl)
theorem k_205_13 : lk 205 13 = some (.aload_n 0, 14, 0, 0, .null) := by decide +kernel
theorem x_205_13 : Tr sc d 205 (13, [some (.ref xk), l1, l2, l3], [], h) Q = Tr sc d 205 (14, [some (.ref xk), l1, l2, l3], [.ref xk], h) Q := t_aload_n k_205_13 rfl
theorem k_205_14 : lk 205 14 = some (.iload_n 3, 15, 3, 0, .null) := by decide +kernel
theorem x_205_14 : Tr sc d 205 (14, [l0, l1, l2, some (.int x)], [.ref k0], h) Q = Tr sc d 205 (15, [l0, l1, l2, some (.int x)], [.int x, .ref k0], h) Q := t_iload_n k_205_14 rfl
theorem k_205_15 : lk 205 15 = some (.ifCond .ne 11, 18, 26, 0, .null) := by decide +kernel
theorem x_205_15 : Tr sc d 205 (15, [l0, l1, l2, l3], [.int i1, .ref k0], h) Q = if i1 = 0 then Tr sc d 205 (18, [l0, l1, l2, l3], [.ref k0], h) Q else Tr sc d 205 (26, [l0, l1, l2, l3], [.ref k0], h) Q := t_if k_205_15 rfl
theorem k_205_18 : lk 205 18 = some (.iload_n 1, 19, 1, 0, .null) := by decide +kernel
theorem x_205_18 : Tr sc d 205 (18, [l0, some (.int x), l2, l3], [.ref k0], h) Q = Tr sc d 205 (19, [l0, some (.int x), l2, l3], [.int x, .ref k0], h) Q := t_iload_n k_205_18 rfl
theorem k_205_19 : lk 205 19 = some (.aload_n 0, 20, 0, 0, .null) := by decide +kernel
theorem x_205_19 : Tr sc d 205 (19, [some (.ref xk), l1, l2, l3], [.int i1, .ref k0], h) Q = Tr sc d 205 (20, [some (.ref xk), l1, l2, l3], [.ref xk, .int i1, .ref k0], h) Q := t_aload_n k_205_19 rfl
theorem k_205_20 : lk 205 20 = some (.getfield 292, 23, 10, 41, .int 0) := by decide +kernel
theorem x_205_20 : Tr sc d 205 (20, [l0, l1, l2, l3], [.ref k2, .int i1, .ref k0], h) Q = (okp h k2 10 = true ∧ Tr sc d 205 (23, [l0, l1, l2, l3], [.int (hI h k2 41), .int i1, .ref k0], h) Q) := t_gd k_205_20 rfl
theorem k_205_23 : lk 205 23 = some (.if_icmp .ge 7, 26, 30, 0, .null) := by decide +kernel
theorem x_205_23 : Tr sc d 205 (23, [l0, l1, l2, l3], [.int i2, .int i1, .ref k0], h) Q = if i2 ≤ i1 then Tr sc d 205 (30, [l0, l1, l2, l3], [.ref k0], h) Q else Tr sc d 205 (26, [l0, l1, l2, l3], [.ref k0], h) Q := t_if k_205_23 rfl
theorem k_205_26 : lk 205 26 = some (.iload_n 1, 27, 1, 0, .null) := by decide +kernel
theorem x_205_26 : Tr sc d 205 (26, [l0, some (.int x), l2, l3], [.ref k0], h) Q = Tr sc d 205 (27, [l0, some (.int x), l2, l3], [.int x, .ref k0], h) Q := t_iload_n k_205_26 rfl
theorem k_205_27 : lk 205 27 = some (.goto 7, 30, 34, 0, .null) := by decide +kernel
theorem x_205_27 : Tr sc d 205 (27, [l0, l1, l2, l3], [.int i1, .ref k0], h) Q = Tr sc d 205 (34, [l0, l1, l2, l3], [.int i1, .ref k0], h) Q := t_go k_205_27 rfl
theorem k_205_30 : lk 205 30 = some (.aload_n 0, 31, 0, 0, .null) := by decide +kernel
theorem x_205_30 : Tr sc d 205 (30, [some (.ref xk), l1, l2, l3], [.ref k0], h) Q = Tr sc d 205 (31, [some (.ref xk), l1, l2, l3], [.ref xk, .ref k0], h) Q := t_aload_n k_205_30 rfl
theorem k_205_31 : lk 205 31 = some (.getfield 292, 34, 10, 41, .int 0) := by decide +kernel
theorem x_205_31 : Tr sc d 205 (31, [l0, l1, l2, l3], [.ref k1, .ref k0], h) Q = (okp h k1 10 = true ∧ Tr sc d 205 (34, [l0, l1, l2, l3], [.int (hI h k1 41), .ref k0], h) Q) := t_gd k_205_31 rfl
theorem k_205_34 : lk 205 34 = some (.putfield 292, 37, 10, 41, .int 0) := by decide +kernel
theorem x_205_34 : Tr sc d 205 (34, [l0, l1, l2, l3], [.int i1, .ref k0], h) Q = (okp h k0 10 = true ∧ Tr sc d 205 (37, [l0, l1, l2, l3], [], (sI h k0 41 i1)) Q) := t_gd k_205_34 rfl
theorem k_205_37 : lk 205 37 = some (.aload_n 0, 38, 0, 0, .null) := by decide +kernel
theorem x_205_37 : Tr sc d 205 (37, [some (.ref xk), l1, l2, l3], [], h) Q = Tr sc d 205 (38, [some (.ref xk), l1, l2, l3], [.ref xk], h) Q := t_aload_n k_205_37 rfl
theorem k_205_38 : lk 205 38 = some (.iload_n 3, 39, 3, 0, .null) := by decide +kernel
theorem x_205_38 : Tr sc d 205 (38, [l0, l1, l2, some (.int x)], [.ref k0], h) Q = Tr sc d 205 (39, [l0, l1, l2, some (.int x)], [.int x, .ref k0], h) Q := t_iload_n k_205_38 rfl
theorem k_205_39 : lk 205 39 = some (.ifCond .ne 11, 42, 50, 0, .null) := by decide +kernel
theorem x_205_39 : Tr sc d 205 (39, [l0, l1, l2, l3], [.int i1, .ref k0], h) Q = if i1 = 0 then Tr sc d 205 (42, [l0, l1, l2, l3], [.ref k0], h) Q else Tr sc d 205 (50, [l0, l1, l2, l3], [.ref k0], h) Q := t_if k_205_39 rfl
theorem k_205_42 : lk 205 42 = some (.iload_n 1, 43, 1, 0, .null) := by decide +kernel
theorem x_205_42 : Tr sc d 205 (42, [l0, some (.int x), l2, l3], [.ref k0], h) Q = Tr sc d 205 (43, [l0, some (.int x), l2, l3], [.int x, .ref k0], h) Q := t_iload_n k_205_42 rfl
theorem k_205_43 : lk 205 43 = some (.aload_n 0, 44, 0, 0, .null) := by decide +kernel
theorem x_205_43 : Tr sc d 205 (43, [some (.ref xk), l1, l2, l3], [.int i1, .ref k0], h) Q = Tr sc d 205 (44, [some (.ref xk), l1, l2, l3], [.ref xk, .int i1, .ref k0], h) Q := t_aload_n k_205_43 rfl
theorem k_205_44 : lk 205 44 = some (.getfield 295, 47, 10, 42, .int 0) := by decide +kernel
theorem x_205_44 : Tr sc d 205 (44, [l0, l1, l2, l3], [.ref k2, .int i1, .ref k0], h) Q = (okp h k2 10 = true ∧ Tr sc d 205 (47, [l0, l1, l2, l3], [.int (hI h k2 42), .int i1, .ref k0], h) Q) := t_gd k_205_44 rfl
theorem k_205_47 : lk 205 47 = some (.if_icmp .le 7, 50, 54, 0, .null) := by decide +kernel
theorem x_205_47 : Tr sc d 205 (47, [l0, l1, l2, l3], [.int i2, .int i1, .ref k0], h) Q = if i1 ≤ i2 then Tr sc d 205 (54, [l0, l1, l2, l3], [.ref k0], h) Q else Tr sc d 205 (50, [l0, l1, l2, l3], [.ref k0], h) Q := t_if k_205_47 rfl
theorem k_205_50 : lk 205 50 = some (.iload_n 1, 51, 1, 0, .null) := by decide +kernel
theorem x_205_50 : Tr sc d 205 (50, [l0, some (.int x), l2, l3], [.ref k0], h) Q = Tr sc d 205 (51, [l0, some (.int x), l2, l3], [.int x, .ref k0], h) Q := t_iload_n k_205_50 rfl
theorem k_205_51 : lk 205 51 = some (.goto 7, 54, 58, 0, .null) := by decide +kernel
theorem x_205_51 : Tr sc d 205 (51, [l0, l1, l2, l3], [.int i1, .ref k0], h) Q = Tr sc d 205 (58, [l0, l1, l2, l3], [.int i1, .ref k0], h) Q := t_go k_205_51 rfl
theorem k_205_54 : lk 205 54 = some (.aload_n 0, 55, 0, 0, .null) := by decide +kernel
theorem x_205_54 : Tr sc d 205 (54, [some (.ref xk), l1, l2, l3], [.ref k0], h) Q = Tr sc d 205 (55, [some (.ref xk), l1, l2, l3], [.ref xk, .ref k0], h) Q := t_aload_n k_205_54 rfl
theorem k_205_55 : lk 205 55 = some (.getfield 295, 58, 10, 42, .int 0) := by decide +kernel
theorem x_205_55 : Tr sc d 205 (55, [l0, l1, l2, l3], [.ref k1, .ref k0], h) Q = (okp h k1 10 = true ∧ Tr sc d 205 (58, [l0, l1, l2, l3], [.int (hI h k1 42), .ref k0], h) Q) := t_gd k_205_55 rfl
theorem k_205_58 : lk 205 58 = some (.putfield 295, 61, 10, 42, .int 0) := by decide +kernel
theorem x_205_58 : Tr sc d 205 (58, [l0, l1, l2, l3], [.int i1, .ref k0], h) Q = (okp h k0 10 = true ∧ Tr sc d 205 (61, [l0, l1, l2, l3], [], (sI h k0 42 i1)) Q) := t_gd k_205_58 rfl
theorem k_205_61 : lk 205 61 = some (.aload_n 0, 62, 0, 0, .null) := by decide +kernel
theorem x_205_61 : Tr sc d 205 (61, [some (.ref xk), l1, l2, l3], [], h) Q = Tr sc d 205 (62, [some (.ref xk), l1, l2, l3], [.ref xk], h) Q := t_aload_n k_205_61 rfl
theorem k_205_62 : lk 205 62 = some (.iload_n 3, 63, 3, 0, .null) := by decide +kernel
theorem x_205_62 : Tr sc d 205 (62, [l0, l1, l2, some (.int x)], [.ref k0], h) Q = Tr sc d 205 (63, [l0, l1, l2, some (.int x)], [.int x, .ref k0], h) Q := t_iload_n k_205_62 rfl
theorem k_205_63 : lk 205 63 = some (.ifCond .ne 11, 66, 74, 0, .null) := by decide +kernel
theorem x_205_63 : Tr sc d 205 (63, [l0, l1, l2, l3], [.int i1, .ref k0], h) Q = if i1 = 0 then Tr sc d 205 (66, [l0, l1, l2, l3], [.ref k0], h) Q else Tr sc d 205 (74, [l0, l1, l2, l3], [.ref k0], h) Q := t_if k_205_63 rfl
theorem k_205_66 : lk 205 66 = some (.iload_n 2, 67, 2, 0, .null) := by decide +kernel
theorem x_205_66 : Tr sc d 205 (66, [l0, l1, some (.int x), l3], [.ref k0], h) Q = Tr sc d 205 (67, [l0, l1, some (.int x), l3], [.int x, .ref k0], h) Q := t_iload_n k_205_66 rfl
theorem k_205_67 : lk 205 67 = some (.aload_n 0, 68, 0, 0, .null) := by decide +kernel
theorem x_205_67 : Tr sc d 205 (67, [some (.ref xk), l1, l2, l3], [.int i1, .ref k0], h) Q = Tr sc d 205 (68, [some (.ref xk), l1, l2, l3], [.ref xk, .int i1, .ref k0], h) Q := t_aload_n k_205_67 rfl
theorem k_205_68 : lk 205 68 = some (.getfield 298, 71, 10, 43, .int 0) := by decide +kernel
theorem x_205_68 : Tr sc d 205 (68, [l0, l1, l2, l3], [.ref k2, .int i1, .ref k0], h) Q = (okp h k2 10 = true ∧ Tr sc d 205 (71, [l0, l1, l2, l3], [.int (hI h k2 43), .int i1, .ref k0], h) Q) := t_gd k_205_68 rfl
theorem k_205_71 : lk 205 71 = some (.if_icmp .ge 7, 74, 78, 0, .null) := by decide +kernel
theorem x_205_71 : Tr sc d 205 (71, [l0, l1, l2, l3], [.int i2, .int i1, .ref k0], h) Q = if i2 ≤ i1 then Tr sc d 205 (78, [l0, l1, l2, l3], [.ref k0], h) Q else Tr sc d 205 (74, [l0, l1, l2, l3], [.ref k0], h) Q := t_if k_205_71 rfl
theorem k_205_74 : lk 205 74 = some (.iload_n 2, 75, 2, 0, .null) := by decide +kernel
theorem x_205_74 : Tr sc d 205 (74, [l0, l1, some (.int x), l3], [.ref k0], h) Q = Tr sc d 205 (75, [l0, l1, some (.int x), l3], [.int x, .ref k0], h) Q := t_iload_n k_205_74 rfl
theorem k_205_75 : lk 205 75 = some (.goto 7, 78, 82, 0, .null) := by decide +kernel
theorem x_205_75 : Tr sc d 205 (75, [l0, l1, l2, l3], [.int i1, .ref k0], h) Q = Tr sc d 205 (82, [l0, l1, l2, l3], [.int i1, .ref k0], h) Q := t_go k_205_75 rfl
theorem k_205_78 : lk 205 78 = some (.aload_n 0, 79, 0, 0, .null) := by decide +kernel
theorem x_205_78 : Tr sc d 205 (78, [some (.ref xk), l1, l2, l3], [.ref k0], h) Q = Tr sc d 205 (79, [some (.ref xk), l1, l2, l3], [.ref xk, .ref k0], h) Q := t_aload_n k_205_78 rfl
theorem k_205_79 : lk 205 79 = some (.getfield 298, 82, 10, 43, .int 0) := by decide +kernel
theorem x_205_79 : Tr sc d 205 (79, [l0, l1, l2, l3], [.ref k1, .ref k0], h) Q = (okp h k1 10 = true ∧ Tr sc d 205 (82, [l0, l1, l2, l3], [.int (hI h k1 43), .ref k0], h) Q) := t_gd k_205_79 rfl
theorem k_205_82 : lk 205 82 = some (.putfield 298, 85, 10, 43, .int 0) := by decide +kernel
theorem x_205_82 : Tr sc d 205 (82, [l0, l1, l2, l3], [.int i1, .ref k0], h) Q = (okp h k0 10 = true ∧ Tr sc d 205 (85, [l0, l1, l2, l3], [], (sI h k0 43 i1)) Q) := t_gd k_205_82 rfl
theorem k_205_85 : lk 205 85 = some (.aload_n 0, 86, 0, 0, .null) := by decide +kernel
theorem x_205_85 : Tr sc d 205 (85, [some (.ref xk), l1, l2, l3], [], h) Q = Tr sc d 205 (86, [some (.ref xk), l1, l2, l3], [.ref xk], h) Q := t_aload_n k_205_85 rfl
theorem k_205_86 : lk 205 86 = some (.iload_n 3, 87, 3, 0, .null) := by decide +kernel
theorem x_205_86 : Tr sc d 205 (86, [l0, l1, l2, some (.int x)], [.ref k0], h) Q = Tr sc d 205 (87, [l0, l1, l2, some (.int x)], [.int x, .ref k0], h) Q := t_iload_n k_205_86 rfl
theorem k_205_87 : lk 205 87 = some (.ifCond .ne 11, 90, 98, 0, .null) := by decide +kernel
theorem x_205_87 : Tr sc d 205 (87, [l0, l1, l2, l3], [.int i1, .ref k0], h) Q = if i1 = 0 then Tr sc d 205 (90, [l0, l1, l2, l3], [.ref k0], h) Q else Tr sc d 205 (98, [l0, l1, l2, l3], [.ref k0], h) Q := t_if k_205_87 rfl
theorem k_205_90 : lk 205 90 = some (.iload_n 2, 91, 2, 0, .null) := by decide +kernel
theorem x_205_90 : Tr sc d 205 (90, [l0, l1, some (.int x), l3], [.ref k0], h) Q = Tr sc d 205 (91, [l0, l1, some (.int x), l3], [.int x, .ref k0], h) Q := t_iload_n k_205_90 rfl
theorem k_205_91 : lk 205 91 = some (.aload_n 0, 92, 0, 0, .null) := by decide +kernel
theorem x_205_91 : Tr sc d 205 (91, [some (.ref xk), l1, l2, l3], [.int i1, .ref k0], h) Q = Tr sc d 205 (92, [some (.ref xk), l1, l2, l3], [.ref xk, .int i1, .ref k0], h) Q := t_aload_n k_205_91 rfl
theorem k_205_92 : lk 205 92 = some (.getfield 301, 95, 10, 44, .int 0) := by decide +kernel
theorem x_205_92 : Tr sc d 205 (92, [l0, l1, l2, l3], [.ref k2, .int i1, .ref k0], h) Q = (okp h k2 10 = true ∧ Tr sc d 205 (95, [l0, l1, l2, l3], [.int (hI h k2 44), .int i1, .ref k0], h) Q) := t_gd k_205_92 rfl
theorem k_205_95 : lk 205 95 = some (.if_icmp .le 7, 98, 102, 0, .null) := by decide +kernel
theorem x_205_95 : Tr sc d 205 (95, [l0, l1, l2, l3], [.int i2, .int i1, .ref k0], h) Q = if i1 ≤ i2 then Tr sc d 205 (102, [l0, l1, l2, l3], [.ref k0], h) Q else Tr sc d 205 (98, [l0, l1, l2, l3], [.ref k0], h) Q := t_if k_205_95 rfl
theorem k_205_98 : lk 205 98 = some (.iload_n 2, 99, 2, 0, .null) := by decide +kernel
theorem x_205_98 : Tr sc d 205 (98, [l0, l1, some (.int x), l3], [.ref k0], h) Q = Tr sc d 205 (99, [l0, l1, some (.int x), l3], [.int x, .ref k0], h) Q := t_iload_n k_205_98 rfl
theorem k_205_99 : lk 205 99 = some (.goto 7, 102, 106, 0, .null) := by decide +kernel
theorem x_205_99 : Tr sc d 205 (99, [l0, l1, l2, l3], [.int i1, .ref k0], h) Q = Tr sc d 205 (106, [l0, l1, l2, l3], [.int i1, .ref k0], h) Q := t_go k_205_99 rfl
theorem k_205_102 : lk 205 102 = some (.aload_n 0, 103, 0, 0, .null) := by decide +kernel
theorem x_205_102 : Tr sc d 205 (102, [some (.ref xk), l1, l2, l3], [.ref k0], h) Q = Tr sc d 205 (103, [some (.ref xk), l1, l2, l3], [.ref xk, .ref k0], h) Q := t_aload_n k_205_102 rfl
theorem k_205_103 : lk 205 103 = some (.getfield 301, 106, 10, 44, .int 0) := by decide +kernel
theorem x_205_103 : Tr sc d 205 (103, [l0, l1, l2, l3], [.ref k1, .ref k0], h) Q = (okp h k1 10 = true ∧ Tr sc d 205 (106, [l0, l1, l2, l3], [.int (hI h k1 44), .ref k0], h) Q) := t_gd k_205_103 rfl
theorem k_205_106 : lk 205 106 = some (.putfield 301, 109, 10, 44, .int 0) := by decide +kernel
theorem x_205_106 : Tr sc d 205 (106, [l0, l1, l2, l3], [.int i1, .ref k0], h) Q = (okp h k0 10 = true ∧ Tr sc d 205 (109, [l0, l1, l2, l3], [], (sI h k0 44 i1)) Q) := t_gd k_205_106 rfl
theorem k_205_109 : lk 205 109 = some (.return_, 110, 0, 0, .null) := by decide +kernel
theorem x_205_109 : Tr sc d 205 (109, [l0, l1, l2, l3], [], h) Q = Q (none, h) := t_ret k_205_109 (by rw [r_205]; rfl)
theorem e_205 : Tr sc d 205 (ent0 205 [.ref k0, .int i1, .int i2] h) Q = Tr sc d 205 (0, [some (.ref k0), some (.int i1), some (.int i2), none], [], h) Q := by
  have e : mL 205 = 4 := by decide +kernel
  unfold ent0
  rw [e]
  rfl
end XX
