section XX
variable {sc : Nat × (Nat → Int32)} {d : Nat} {Q : PRes → Prop} {h : PH} {l0 l1 l2 l3 l4 l5 l6 l7 l8 l9 l10 l11 l12 l13 l14 l15 l16 l17 l18 l19 l20 l21 l22 l23 l24 l25 l26 l27 : Option Value} {x i0 i1 i2 i3 i4 i5 i6 i7 i8 i9 i10 i11 : Int32} {xl j0 j1 j2 j3 j4 j5 j6 j7 j8 j9 j10 j11 : Int64} {xk k0 k1 k2 k3 k4 k5 k6 k7 k8 k9 k10 k11 : Nat}
theorem r_95 : mR 95 = none := by decide +kernel
theorem k_95_0 : lk 95 0 = some (.aload_n 0, 1, 0, 0, .null) := by decide +kernel
theorem x_95_0 : Tr sc d 95 (0, [some (.ref xk), l1], [], h) Q = Tr sc d 95 (1, [some (.ref xk), l1], [.ref xk], h) Q := t_aload_n k_95_0 rfl
theorem k_95_1 : lk 95 1 = some (.invokespecial 1, 4, 9000, 0, .null) := by decide +kernel
theorem x_95_1 : Tr sc d 95 (1, [l0, l1], [.ref k0], h) Q = Tr sc d 95 (4, [l0, l1], [], h) Q := t_go k_95_1 rfl
theorem k_95_4 : lk 95 4 = some (.aload_n 0, 5, 0, 0, .null) := by decide +kernel
theorem x_95_4 : Tr sc d 95 (4, [some (.ref xk), l1], [], h) Q = Tr sc d 95 (5, [some (.ref xk), l1], [.ref xk], h) Q := t_aload_n k_95_4 rfl
theorem k_95_5 : lk 95 5 = some (.bipush 6, 7, 0, 0, .int 6) := by decide +kernel
theorem x_95_5 : Tr sc d 95 (5, [l0, l1], [.ref k0], h) Q = Tr sc d 95 (7, [l0, l1], [.int 6, .ref k0], h) Q := t_go k_95_5 rfl
theorem k_95_7 : lk 95 7 = some (.anewarray 9, 10, 14, 106, .null) := by decide +kernel
theorem x_95_7 : Tr sc d 95 (7, [l0, l1], [.int i1, .ref k0], h) Q = ((hN h < 1000 ∧ TG (hN h) = 14 ∧ (¬ i1 < 0) ∧ LN (hN h) = i1.toNatClampNeg ∧ LN (hN h) ≤ 60000) ∧ Tr sc d 95 (10, [l0, l1], [.ref (hN h), .ref k0], nH h) Q) := t_gd k_95_7 rfl
theorem k_95_10 : lk 95 10 = some (.putfield 11, 13, 9, 0, .null) := by decide +kernel
theorem x_95_10 : Tr sc d 95 (10, [l0, l1], [.ref k1, .ref k0], h) Q = (okp h k0 9 = true ∧ Tr sc d 95 (13, [l0, l1], [], (sR h k0 0 (some k1))) Q) := t_gd k_95_10 rfl
theorem k_95_13 : lk 95 13 = some (.aload_n 0, 14, 0, 0, .null) := by decide +kernel
theorem x_95_13 : Tr sc d 95 (13, [some (.ref xk), l1], [], h) Q = Tr sc d 95 (14, [some (.ref xk), l1], [.ref xk], h) Q := t_aload_n k_95_13 rfl
theorem k_95_14 : lk 95 14 = some (.iconst 4, 15, 0, 0, .int 4) := by decide +kernel
theorem x_95_14 : Tr sc d 95 (14, [l0, l1], [.ref k0], h) Q = Tr sc d 95 (15, [l0, l1], [.int 4, .ref k0], h) Q := t_go k_95_14 rfl
theorem k_95_15 : lk 95 15 = some (.anewarray 9, 18, 14, 106, .null) := by decide +kernel
theorem x_95_15 : Tr sc d 95 (15, [l0, l1], [.int i1, .ref k0], h) Q = ((hN h < 1000 ∧ TG (hN h) = 14 ∧ (¬ i1 < 0) ∧ LN (hN h) = i1.toNatClampNeg ∧ LN (hN h) ≤ 60000) ∧ Tr sc d 95 (18, [l0, l1], [.ref (hN h), .ref k0], nH h) Q) := t_gd k_95_15 rfl
theorem k_95_18 : lk 95 18 = some (.putfield 15, 21, 9, 1, .null) := by decide +kernel
theorem x_95_18 : Tr sc d 95 (18, [l0, l1], [.ref k1, .ref k0], h) Q = (okp h k0 9 = true ∧ Tr sc d 95 (21, [l0, l1], [], (sR h k0 1 (some k1))) Q) := t_gd k_95_18 rfl
theorem k_95_21 : lk 95 21 = some (.aload_n 0, 22, 0, 0, .null) := by decide +kernel
theorem x_95_21 : Tr sc d 95 (21, [some (.ref xk), l1], [], h) Q = Tr sc d 95 (22, [some (.ref xk), l1], [.ref xk], h) Q := t_aload_n k_95_21 rfl
theorem k_95_22 : lk 95 22 = some (.bipush 8, 24, 0, 0, .int 8) := by decide +kernel
theorem x_95_22 : Tr sc d 95 (22, [l0, l1], [.ref k0], h) Q = Tr sc d 95 (24, [l0, l1], [.int 8, .ref k0], h) Q := t_go k_95_22 rfl
theorem k_95_24 : lk 95 24 = some (.anewarray 18, 27, 15, 108, .null) := by decide +kernel
theorem x_95_24 : Tr sc d 95 (24, [l0, l1], [.int i1, .ref k0], h) Q = ((hN h < 1000 ∧ TG (hN h) = 15 ∧ (¬ i1 < 0) ∧ LN (hN h) = i1.toNatClampNeg ∧ LN (hN h) ≤ 60000) ∧ Tr sc d 95 (27, [l0, l1], [.ref (hN h), .ref k0], nH h) Q) := t_gd k_95_24 rfl
theorem k_95_27 : lk 95 27 = some (.putfield 20, 30, 9, 2, .null) := by decide +kernel
theorem x_95_27 : Tr sc d 95 (27, [l0, l1], [.ref k1, .ref k0], h) Q = (okp h k0 9 = true ∧ Tr sc d 95 (30, [l0, l1], [], (sR h k0 2 (some k1))) Q) := t_gd k_95_27 rfl
theorem k_95_30 : lk 95 30 = some (.aload_n 0, 31, 0, 0, .null) := by decide +kernel
theorem x_95_30 : Tr sc d 95 (30, [some (.ref xk), l1], [], h) Q = Tr sc d 95 (31, [some (.ref xk), l1], [.ref xk], h) Q := t_aload_n k_95_30 rfl
theorem k_95_31 : lk 95 31 = some (.new 18, 34, 6, 108, .null) := by decide +kernel
theorem x_95_31 : Tr sc d 95 (31, [l0, l1], [.ref k0], h) Q = ((hN h < 1000 ∧ TG (hN h) = 6 ∧ 6 < 11) ∧ Tr sc d 95 (34, [l0, l1], [.ref (hN h), .ref k0], nH h) Q) := t_gd k_95_31 rfl
theorem k_95_34 : lk 95 34 = some (.dup, 35, 0, 0, .null) := by decide +kernel
theorem x_95_34 : Tr sc d 95 (34, [l0, l1], [.ref k1, .ref k0], h) Q = Tr sc d 95 (35, [l0, l1], [.ref k1, .ref k1, .ref k0], h) Q := t_go k_95_34 rfl
theorem k_95_35 : lk 95 35 = some (.invokespecial 24, 38, 47, 0, .null) := by decide +kernel
theorem x_95_35 : Tr sc (d + 1) 95 (35, [l0, l1], [.ref k2, .ref k1, .ref k0], h) Q = (okp h k2 6 = true ∧ Tr sc d 47 (ent0 47 [.ref k2] h) (fun z => Tr sc (d + 1) 95 (38, [l0, l1], z.1.toList ++ [.ref k1, .ref k0], z.2) Q)) := t_cp (as := []) (r := [.ref k1, .ref k0]) k_95_35 (by decide) rfl rfl (Nat.le_of_ble_eq_true rfl) (Nat.le_of_ble_eq_true rfl) (Nat.le_of_ble_eq_true rfl)
theorem k_95_38 : lk 95 38 = some (.putfield 25, 41, 9, 3, .null) := by decide +kernel
theorem x_95_38 : Tr sc d 95 (38, [l0, l1], [.ref k1, .ref k0], h) Q = (okp h k0 9 = true ∧ Tr sc d 95 (41, [l0, l1], [], (sR h k0 3 (some k1))) Q) := t_gd k_95_38 rfl
theorem k_95_41 : lk 95 41 = some (.aload_n 0, 42, 0, 0, .null) := by decide +kernel
theorem x_95_41 : Tr sc d 95 (41, [some (.ref xk), l1], [], h) Q = Tr sc d 95 (42, [some (.ref xk), l1], [.ref xk], h) Q := t_aload_n k_95_41 rfl
theorem k_95_42 : lk 95 42 = some (.new 29, 45, 4, 166, .null) := by decide +kernel
theorem x_95_42 : Tr sc d 95 (42, [l0, l1], [.ref k0], h) Q = ((hN h < 1000 ∧ TG (hN h) = 4 ∧ 4 < 11) ∧ Tr sc d 95 (45, [l0, l1], [.ref (hN h), .ref k0], nH h) Q) := t_gd k_95_42 rfl
theorem k_95_45 : lk 95 45 = some (.dup, 46, 0, 0, .null) := by decide +kernel
theorem x_95_45 : Tr sc d 95 (45, [l0, l1], [.ref k1, .ref k0], h) Q = Tr sc d 95 (46, [l0, l1], [.ref k1, .ref k1, .ref k0], h) Q := t_go k_95_45 rfl
theorem k_95_46 : lk 95 46 = some (.invokespecial 31, 49, 35, 0, .null) := by decide +kernel
theorem x_95_46 : Tr sc (d + 1) 95 (46, [l0, l1], [.ref k2, .ref k1, .ref k0], h) Q = (okp h k2 4 = true ∧ Tr sc d 35 (ent0 35 [.ref k2] h) (fun z => Tr sc (d + 1) 95 (49, [l0, l1], z.1.toList ++ [.ref k1, .ref k0], z.2) Q)) := t_cp (as := []) (r := [.ref k1, .ref k0]) k_95_46 (by decide) rfl rfl (Nat.le_of_ble_eq_true rfl) (Nat.le_of_ble_eq_true rfl) (Nat.le_of_ble_eq_true rfl)
theorem k_95_49 : lk 95 49 = some (.putfield 32, 52, 9, 4, .null) := by decide +kernel
theorem x_95_49 : Tr sc d 95 (49, [l0, l1], [.ref k1, .ref k0], h) Q = (okp h k0 9 = true ∧ Tr sc d 95 (52, [l0, l1], [], (sR h k0 4 (some k1))) Q) := t_gd k_95_49 rfl
theorem k_95_52 : lk 95 52 = some (.aload_n 0, 53, 0, 0, .null) := by decide +kernel
theorem x_95_52 : Tr sc d 95 (52, [some (.ref xk), l1], [], h) Q = Tr sc d 95 (53, [some (.ref xk), l1], [.ref xk], h) Q := t_aload_n k_95_52 rfl
theorem k_95_53 : lk 95 53 = some (.new 36, 56, 0, 202, .null) := by decide +kernel
theorem x_95_53 : Tr sc d 95 (53, [l0, l1], [.ref k0], h) Q = ((hN h < 1000 ∧ TG (hN h) = 0 ∧ 0 < 11) ∧ Tr sc d 95 (56, [l0, l1], [.ref (hN h), .ref k0], nH h) Q) := t_gd k_95_53 rfl
theorem k_95_56 : lk 95 56 = some (.dup, 57, 0, 0, .null) := by decide +kernel
theorem x_95_56 : Tr sc d 95 (56, [l0, l1], [.ref k1, .ref k0], h) Q = Tr sc d 95 (57, [l0, l1], [.ref k1, .ref k1, .ref k0], h) Q := t_go k_95_56 rfl
theorem k_95_57 : lk 95 57 = some (.invokespecial 38, 60, 0, 0, .null) := by decide +kernel
theorem x_95_57 : Tr sc (d + 1) 95 (57, [l0, l1], [.ref k2, .ref k1, .ref k0], h) Q = (okp h k2 0 = true ∧ Tr sc d 0 (ent0 0 [.ref k2] h) (fun z => Tr sc (d + 1) 95 (60, [l0, l1], z.1.toList ++ [.ref k1, .ref k0], z.2) Q)) := t_cp (as := []) (r := [.ref k1, .ref k0]) k_95_57 (by decide) rfl rfl (Nat.le_of_ble_eq_true rfl) (Nat.le_of_ble_eq_true rfl) (Nat.le_of_ble_eq_true rfl)
theorem k_95_60 : lk 95 60 = some (.putfield 39, 63, 9, 5, .null) := by decide +kernel
theorem x_95_60 : Tr sc d 95 (60, [l0, l1], [.ref k1, .ref k0], h) Q = (okp h k0 9 = true ∧ Tr sc d 95 (63, [l0, l1], [], (sR h k0 5 (some k1))) Q) := t_gd k_95_60 rfl
theorem k_95_63 : lk 95 63 = some (.aload_n 0, 64, 0, 0, .null) := by decide +kernel
theorem x_95_63 : Tr sc d 95 (63, [some (.ref xk), l1], [], h) Q = Tr sc d 95 (64, [some (.ref xk), l1], [.ref xk], h) Q := t_aload_n k_95_63 rfl
theorem k_95_64 : lk 95 64 = some (.new 36, 67, 0, 202, .null) := by decide +kernel
theorem x_95_64 : Tr sc d 95 (64, [l0, l1], [.ref k0], h) Q = ((hN h < 1000 ∧ TG (hN h) = 0 ∧ 0 < 11) ∧ Tr sc d 95 (67, [l0, l1], [.ref (hN h), .ref k0], nH h) Q) := t_gd k_95_64 rfl
theorem k_95_67 : lk 95 67 = some (.dup, 68, 0, 0, .null) := by decide +kernel
theorem x_95_67 : Tr sc d 95 (67, [l0, l1], [.ref k1, .ref k0], h) Q = Tr sc d 95 (68, [l0, l1], [.ref k1, .ref k1, .ref k0], h) Q := t_go k_95_67 rfl
theorem k_95_68 : lk 95 68 = some (.invokespecial 38, 71, 0, 0, .null) := by decide +kernel
theorem x_95_68 : Tr sc (d + 1) 95 (68, [l0, l1], [.ref k2, .ref k1, .ref k0], h) Q = (okp h k2 0 = true ∧ Tr sc d 0 (ent0 0 [.ref k2] h) (fun z => Tr sc (d + 1) 95 (71, [l0, l1], z.1.toList ++ [.ref k1, .ref k0], z.2) Q)) := t_cp (as := []) (r := [.ref k1, .ref k0]) k_95_68 (by decide) rfl rfl (Nat.le_of_ble_eq_true rfl) (Nat.le_of_ble_eq_true rfl) (Nat.le_of_ble_eq_true rfl)
theorem k_95_71 : lk 95 71 = some (.putfield 43, 74, 9, 6, .null) := by decide +kernel
theorem x_95_71 : Tr sc d 95 (71, [l0, l1], [.ref k1, .ref k0], h) Q = (okp h k0 9 = true ∧ Tr sc d 95 (74, [l0, l1], [], (sR h k0 6 (some k1))) Q) := t_gd k_95_71 rfl
theorem k_95_74 : lk 95 74 = some (.aload_n 0, 75, 0, 0, .null) := by decide +kernel
theorem x_95_74 : Tr sc d 95 (74, [some (.ref xk), l1], [], h) Q = Tr sc d 95 (75, [some (.ref xk), l1], [.ref xk], h) Q := t_aload_n k_95_74 rfl
theorem k_95_75 : lk 95 75 = some (.new 46, 78, 1, 237, .null) := by decide +kernel
theorem x_95_75 : Tr sc d 95 (75, [l0, l1], [.ref k0], h) Q = ((hN h < 1000 ∧ TG (hN h) = 1 ∧ 1 < 11) ∧ Tr sc d 95 (78, [l0, l1], [.ref (hN h), .ref k0], nH h) Q) := t_gd k_95_75 rfl
theorem k_95_78 : lk 95 78 = some (.dup, 79, 0, 0, .null) := by decide +kernel
theorem x_95_78 : Tr sc d 95 (78, [l0, l1], [.ref k1, .ref k0], h) Q = Tr sc d 95 (79, [l0, l1], [.ref k1, .ref k1, .ref k0], h) Q := t_go k_95_78 rfl
theorem k_95_79 : lk 95 79 = some (.sipush 7776, 82, 0, 0, .int 7776) := by decide +kernel
theorem x_95_79 : Tr sc d 95 (79, [l0, l1], [.ref k2, .ref k1, .ref k0], h) Q = Tr sc d 95 (82, [l0, l1], [.int 7776, .ref k2, .ref k1, .ref k0], h) Q := t_go k_95_79 rfl
theorem k_95_82 : lk 95 82 = some (.sipush 16384, 85, 0, 0, .int 16384) := by decide +kernel
theorem x_95_82 : Tr sc d 95 (82, [l0, l1], [.int i3, .ref k2, .ref k1, .ref k0], h) Q = Tr sc d 95 (85, [l0, l1], [.int 16384, .int i3, .ref k2, .ref k1, .ref k0], h) Q := t_go k_95_82 rfl
theorem k_95_85 : lk 95 85 = some (.invokespecial 48, 88, 8, 2, .null) := by decide +kernel
theorem x_95_85 : Tr sc (d + 1) 95 (85, [l0, l1], [.int i4, .int i3, .ref k2, .ref k1, .ref k0], h) Q = (okp h k2 1 = true ∧ Tr sc d 8 (ent0 8 [.ref k2, .int i3, .int i4] h) (fun z => Tr sc (d + 1) 95 (88, [l0, l1], z.1.toList ++ [.ref k1, .ref k0], z.2) Q)) := t_cp (as := [.int i3, .int i4]) (r := [.ref k1, .ref k0]) k_95_85 (by decide) rfl rfl (Nat.le_of_ble_eq_true rfl) (Nat.le_of_ble_eq_true rfl) (Nat.le_of_ble_eq_true rfl)
theorem k_95_88 : lk 95 88 = some (.putfield 51, 91, 9, 7, .null) := by decide +kernel
theorem x_95_88 : Tr sc d 95 (88, [l0, l1], [.ref k1, .ref k0], h) Q = (okp h k0 9 = true ∧ Tr sc d 95 (91, [l0, l1], [], (sR h k0 7 (some k1))) Q) := t_gd k_95_88 rfl
theorem k_95_91 : lk 95 91 = some (.aload_n 0, 92, 0, 0, .null) := by decide +kernel
theorem x_95_91 : Tr sc d 95 (91, [some (.ref xk), l1], [], h) Q = Tr sc d 95 (92, [some (.ref xk), l1], [.ref xk], h) Q := t_aload_n k_95_91 rfl
theorem k_95_92 : lk 95 92 = some (.new 46, 95, 1, 237, .null) := by decide +kernel
theorem x_95_92 : Tr sc d 95 (92, [l0, l1], [.ref k0], h) Q = ((hN h < 1000 ∧ TG (hN h) = 1 ∧ 1 < 11) ∧ Tr sc d 95 (95, [l0, l1], [.ref (hN h), .ref k0], nH h) Q) := t_gd k_95_92 rfl
theorem k_95_95 : lk 95 95 = some (.dup, 96, 0, 0, .null) := by decide +kernel
theorem x_95_95 : Tr sc d 95 (95, [l0, l1], [.ref k1, .ref k0], h) Q = Tr sc d 95 (96, [l0, l1], [.ref k1, .ref k1, .ref k0], h) Q := t_go k_95_95 rfl
theorem k_95_96 : lk 95 96 = some (.sipush 1296, 99, 0, 0, .int 1296) := by decide +kernel
theorem x_95_96 : Tr sc d 95 (96, [l0, l1], [.ref k2, .ref k1, .ref k0], h) Q = Tr sc d 95 (99, [l0, l1], [.int 1296, .ref k2, .ref k1, .ref k0], h) Q := t_go k_95_96 rfl
theorem k_95_99 : lk 95 99 = some (.sipush 4096, 102, 0, 0, .int 4096) := by decide +kernel
theorem x_95_99 : Tr sc d 95 (99, [l0, l1], [.int i3, .ref k2, .ref k1, .ref k0], h) Q = Tr sc d 95 (102, [l0, l1], [.int 4096, .int i3, .ref k2, .ref k1, .ref k0], h) Q := t_go k_95_99 rfl
theorem k_95_102 : lk 95 102 = some (.invokespecial 48, 105, 8, 2, .null) := by decide +kernel
theorem x_95_102 : Tr sc (d + 1) 95 (102, [l0, l1], [.int i4, .int i3, .ref k2, .ref k1, .ref k0], h) Q = (okp h k2 1 = true ∧ Tr sc d 8 (ent0 8 [.ref k2, .int i3, .int i4] h) (fun z => Tr sc (d + 1) 95 (105, [l0, l1], z.1.toList ++ [.ref k1, .ref k0], z.2) Q)) := t_cp (as := [.int i3, .int i4]) (r := [.ref k1, .ref k0]) k_95_102 (by decide) rfl rfl (Nat.le_of_ble_eq_true rfl) (Nat.le_of_ble_eq_true rfl) (Nat.le_of_ble_eq_true rfl)
theorem k_95_105 : lk 95 105 = some (.putfield 55, 108, 9, 8, .null) := by decide +kernel
theorem x_95_105 : Tr sc d 95 (105, [l0, l1], [.ref k1, .ref k0], h) Q = (okp h k0 9 = true ∧ Tr sc d 95 (108, [l0, l1], [], (sR h k0 8 (some k1))) Q) := t_gd k_95_105 rfl
theorem k_95_108 : lk 95 108 = some (.aload_n 0, 109, 0, 0, .null) := by decide +kernel
theorem x_95_108 : Tr sc d 95 (108, [some (.ref xk), l1], [], h) Q = Tr sc d 95 (109, [some (.ref xk), l1], [.ref xk], h) Q := t_aload_n k_95_108 rfl
theorem k_95_109 : lk 95 109 = some (.new 58, 112, 7, 288, .null) := by decide +kernel
theorem x_95_109 : Tr sc d 95 (109, [l0, l1], [.ref k0], h) Q = ((hN h < 1000 ∧ TG (hN h) = 7 ∧ 7 < 11) ∧ Tr sc d 95 (112, [l0, l1], [.ref (hN h), .ref k0], nH h) Q) := t_gd k_95_109 rfl
theorem k_95_112 : lk 95 112 = some (.dup, 113, 0, 0, .null) := by decide +kernel
theorem x_95_112 : Tr sc d 95 (112, [l0, l1], [.ref k1, .ref k0], h) Q = Tr sc d 95 (113, [l0, l1], [.ref k1, .ref k1, .ref k0], h) Q := t_go k_95_112 rfl
theorem k_95_113 : lk 95 113 = some (.invokespecial 60, 116, 71, 0, .null) := by decide +kernel
theorem x_95_113 : Tr sc (d + 1) 95 (113, [l0, l1], [.ref k2, .ref k1, .ref k0], h) Q = (okp h k2 7 = true ∧ Tr sc d 71 (ent0 71 [.ref k2] h) (fun z => Tr sc (d + 1) 95 (116, [l0, l1], z.1.toList ++ [.ref k1, .ref k0], z.2) Q)) := t_cp (as := []) (r := [.ref k1, .ref k0]) k_95_113 (by decide) rfl rfl (Nat.le_of_ble_eq_true rfl) (Nat.le_of_ble_eq_true rfl) (Nat.le_of_ble_eq_true rfl)
theorem k_95_116 : lk 95 116 = some (.putfield 61, 119, 9, 9, .null) := by decide +kernel
theorem x_95_116 : Tr sc d 95 (116, [l0, l1], [.ref k1, .ref k0], h) Q = (okp h k0 9 = true ∧ Tr sc d 95 (119, [l0, l1], [], (sR h k0 9 (some k1))) Q) := t_gd k_95_116 rfl
theorem k_95_119 : lk 95 119 = some (.aload_n 0, 120, 0, 0, .null) := by decide +kernel
theorem x_95_119 : Tr sc d 95 (119, [some (.ref xk), l1], [], h) Q = Tr sc d 95 (120, [some (.ref xk), l1], [.ref xk], h) Q := t_aload_n k_95_119 rfl
theorem k_95_120 : lk 95 120 = some (.new 65, 123, 2, 335, .null) := by decide +kernel
theorem x_95_120 : Tr sc d 95 (120, [l0, l1], [.ref k0], h) Q = ((hN h < 1000 ∧ TG (hN h) = 2 ∧ 2 < 11) ∧ Tr sc d 95 (123, [l0, l1], [.ref (hN h), .ref k0], nH h) Q) := t_gd k_95_120 rfl
theorem k_95_123 : lk 95 123 = some (.dup, 124, 0, 0, .null) := by decide +kernel
theorem x_95_123 : Tr sc d 95 (123, [l0, l1], [.ref k1, .ref k0], h) Q = Tr sc d 95 (124, [l0, l1], [.ref k1, .ref k1, .ref k0], h) Q := t_go k_95_123 rfl
theorem k_95_124 : lk 95 124 = some (.aload_n 0, 125, 0, 0, .null) := by decide +kernel
theorem x_95_124 : Tr sc d 95 (124, [some (.ref xk), l1], [.ref k2, .ref k1, .ref k0], h) Q = Tr sc d 95 (125, [some (.ref xk), l1], [.ref xk, .ref k2, .ref k1, .ref k0], h) Q := t_aload_n k_95_124 rfl
theorem k_95_125 : lk 95 125 = some (.getfield 51, 128, 9, 7, .null) := by decide +kernel
theorem x_95_125 : Tr sc d 95 (125, [l0, l1], [.ref k3, .ref k2, .ref k1, .ref k0], h) Q = (okp h k3 9 = true ∧ ∃ q, hR h k3 7 = some q ∧ Tr sc d 95 (128, [l0, l1], [.ref q, .ref k2, .ref k1, .ref k0], h) Q) := t_getr k_95_125
theorem k_95_128 : lk 95 128 = some (.aload_n 0, 129, 0, 0, .null) := by decide +kernel
theorem x_95_128 : Tr sc d 95 (128, [some (.ref xk), l1], [.ref k3, .ref k2, .ref k1, .ref k0], h) Q = Tr sc d 95 (129, [some (.ref xk), l1], [.ref xk, .ref k3, .ref k2, .ref k1, .ref k0], h) Q := t_aload_n k_95_128 rfl
theorem k_95_129 : lk 95 129 = some (.getfield 61, 132, 9, 9, .null) := by decide +kernel
theorem x_95_129 : Tr sc d 95 (129, [l0, l1], [.ref k4, .ref k3, .ref k2, .ref k1, .ref k0], h) Q = (okp h k4 9 = true ∧ ∃ q, hR h k4 9 = some q ∧ Tr sc d 95 (132, [l0, l1], [.ref q, .ref k3, .ref k2, .ref k1, .ref k0], h) Q) := t_getr k_95_129
theorem k_95_132 : lk 95 132 = some (.invokespecial 67, 135, 22, 2, .null) := by decide +kernel
theorem x_95_132 : Tr sc (d + 1) 95 (132, [l0, l1], [.ref k4, .ref k3, .ref k2, .ref k1, .ref k0], h) Q = (okp h k2 2 = true ∧ Tr sc d 22 (ent0 22 [.ref k2, .ref k3, .ref k4] h) (fun z => Tr sc (d + 1) 95 (135, [l0, l1], z.1.toList ++ [.ref k1, .ref k0], z.2) Q)) := t_cp (as := [.ref k3, .ref k4]) (r := [.ref k1, .ref k0]) k_95_132 (by decide) rfl rfl (Nat.le_of_ble_eq_true rfl) (Nat.le_of_ble_eq_true rfl) (Nat.le_of_ble_eq_true rfl)
theorem k_95_135 : lk 95 135 = some (.putfield 70, 138, 9, 10, .null) := by decide +kernel
theorem x_95_135 : Tr sc d 95 (135, [l0, l1], [.ref k1, .ref k0], h) Q = (okp h k0 9 = true ∧ Tr sc d 95 (138, [l0, l1], [], (sR h k0 10 (some k1))) Q) := t_gd k_95_135 rfl
theorem k_95_138 : lk 95 138 = some (.aload_n 0, 139, 0, 0, .null) := by decide +kernel
theorem x_95_138 : Tr sc d 95 (138, [some (.ref xk), l1], [], h) Q = Tr sc d 95 (139, [some (.ref xk), l1], [.ref xk], h) Q := t_aload_n k_95_138 rfl
theorem k_95_139 : lk 95 139 = some (.new 74, 142, 8, 390, .null) := by decide +kernel
theorem x_95_139 : Tr sc d 95 (139, [l0, l1], [.ref k0], h) Q = ((hN h < 1000 ∧ TG (hN h) = 8 ∧ 8 < 11) ∧ Tr sc d 95 (142, [l0, l1], [.ref (hN h), .ref k0], nH h) Q) := t_gd k_95_139 rfl
theorem k_95_142 : lk 95 142 = some (.dup, 143, 0, 0, .null) := by decide +kernel
theorem x_95_142 : Tr sc d 95 (142, [l0, l1], [.ref k1, .ref k0], h) Q = Tr sc d 95 (143, [l0, l1], [.ref k1, .ref k1, .ref k0], h) Q := t_go k_95_142 rfl
theorem k_95_143 : lk 95 143 = some (.aload_n 0, 144, 0, 0, .null) := by decide +kernel
theorem x_95_143 : Tr sc d 95 (143, [some (.ref xk), l1], [.ref k2, .ref k1, .ref k0], h) Q = Tr sc d 95 (144, [some (.ref xk), l1], [.ref xk, .ref k2, .ref k1, .ref k0], h) Q := t_aload_n k_95_143 rfl
theorem k_95_144 : lk 95 144 = some (.getfield 51, 147, 9, 7, .null) := by decide +kernel
theorem x_95_144 : Tr sc d 95 (144, [l0, l1], [.ref k3, .ref k2, .ref k1, .ref k0], h) Q = (okp h k3 9 = true ∧ ∃ q, hR h k3 7 = some q ∧ Tr sc d 95 (147, [l0, l1], [.ref q, .ref k2, .ref k1, .ref k0], h) Q) := t_getr k_95_144
theorem k_95_147 : lk 95 147 = some (.invokespecial 76, 150, 85, 1, .null) := by decide +kernel
theorem x_95_147 : Tr sc (d + 1) 95 (147, [l0, l1], [.ref k3, .ref k2, .ref k1, .ref k0], h) Q = (okp h k2 8 = true ∧ Tr sc d 85 (ent0 85 [.ref k2, .ref k3] h) (fun z => Tr sc (d + 1) 95 (150, [l0, l1], z.1.toList ++ [.ref k1, .ref k0], z.2) Q)) := t_cp (as := [.ref k3]) (r := [.ref k1, .ref k0]) k_95_147 (by decide) rfl rfl (Nat.le_of_ble_eq_true rfl) (Nat.le_of_ble_eq_true rfl) (Nat.le_of_ble_eq_true rfl)
theorem k_95_150 : lk 95 150 = some (.putfield 79, 153, 9, 11, .null) := by decide +kernel
theorem x_95_150 : Tr sc d 95 (150, [l0, l1], [.ref k1, .ref k0], h) Q = (okp h k0 9 = true ∧ Tr sc d 95 (153, [l0, l1], [], (sR h k0 11 (some k1))) Q) := t_gd k_95_150 rfl
theorem k_95_153 : lk 95 153 = some (.aload_n 0, 154, 0, 0, .null) := by decide +kernel
theorem x_95_153 : Tr sc d 95 (153, [some (.ref xk), l1], [], h) Q = Tr sc d 95 (154, [some (.ref xk), l1], [.ref xk], h) Q := t_aload_n k_95_153 rfl
theorem k_95_154 : lk 95 154 = some (.new 83, 157, 3, 427, .null) := by decide +kernel
theorem x_95_154 : Tr sc d 95 (154, [l0, l1], [.ref k0], h) Q = ((hN h < 1000 ∧ TG (hN h) = 3 ∧ 3 < 11) ∧ Tr sc d 95 (157, [l0, l1], [.ref (hN h), .ref k0], nH h) Q) := t_gd k_95_154 rfl
theorem k_95_157 : lk 95 157 = some (.dup, 158, 0, 0, .null) := by decide +kernel
theorem x_95_157 : Tr sc d 95 (157, [l0, l1], [.ref k1, .ref k0], h) Q = Tr sc d 95 (158, [l0, l1], [.ref k1, .ref k1, .ref k0], h) Q := t_go k_95_157 rfl
theorem k_95_158 : lk 95 158 = some (.invokespecial 85, 161, 30, 0, .null) := by decide +kernel
theorem x_95_158 : Tr sc (d + 1) 95 (158, [l0, l1], [.ref k2, .ref k1, .ref k0], h) Q = (okp h k2 3 = true ∧ Tr sc d 30 (ent0 30 [.ref k2] h) (fun z => Tr sc (d + 1) 95 (161, [l0, l1], z.1.toList ++ [.ref k1, .ref k0], z.2) Q)) := t_cp (as := []) (r := [.ref k1, .ref k0]) k_95_158 (by decide) rfl rfl (Nat.le_of_ble_eq_true rfl) (Nat.le_of_ble_eq_true rfl) (Nat.le_of_ble_eq_true rfl)
theorem k_95_161 : lk 95 161 = some (.putfield 86, 164, 9, 12, .null) := by decide +kernel
theorem x_95_161 : Tr sc d 95 (161, [l0, l1], [.ref k1, .ref k0], h) Q = (okp h k0 9 = true ∧ Tr sc d 95 (164, [l0, l1], [], (sR h k0 12 (some k1))) Q) := t_gd k_95_161 rfl
theorem k_95_164 : lk 95 164 = some (.aload_n 0, 165, 0, 0, .null) := by decide +kernel
theorem x_95_164 : Tr sc d 95 (164, [some (.ref xk), l1], [], h) Q = Tr sc d 95 (165, [some (.ref xk), l1], [.ref xk], h) Q := t_aload_n k_95_164 rfl
theorem k_95_165 : lk 95 165 = some (.bipush 6, 167, 0, 0, .int 6) := by decide +kernel
theorem x_95_165 : Tr sc d 95 (165, [l0, l1], [.ref k0], h) Q = Tr sc d 95 (167, [l0, l1], [.int 6, .ref k0], h) Q := t_go k_95_165 rfl
theorem k_95_167 : lk 95 167 = some (.newarray .int, 169, 11, 0, .null) := by decide +kernel
theorem x_95_167 : Tr sc d 95 (167, [l0, l1], [.int i1, .ref k0], h) Q = ((hN h < 1000 ∧ TG (hN h) = 11 ∧ (¬ i1 < 0) ∧ LN (hN h) = i1.toNatClampNeg ∧ LN (hN h) ≤ 60000) ∧ Tr sc d 95 (169, [l0, l1], [.ref (hN h), .ref k0], nH h) Q) := t_gd k_95_167 rfl
theorem k_95_169 : lk 95 169 = some (.putfield 90, 172, 9, 13, .null) := by decide +kernel
theorem x_95_169 : Tr sc d 95 (169, [l0, l1], [.ref k1, .ref k0], h) Q = (okp h k0 9 = true ∧ Tr sc d 95 (172, [l0, l1], [], (sR h k0 13 (some k1))) Q) := t_gd k_95_169 rfl
theorem k_95_172 : lk 95 172 = some (.aload_n 0, 173, 0, 0, .null) := by decide +kernel
theorem x_95_172 : Tr sc d 95 (172, [some (.ref xk), l1], [], h) Q = Tr sc d 95 (173, [some (.ref xk), l1], [.ref xk], h) Q := t_aload_n k_95_172 rfl
theorem k_95_173 : lk 95 173 = some (.iconst 0, 174, 0, 0, .int 0) := by decide +kernel
theorem x_95_173 : Tr sc d 95 (173, [l0, l1], [.ref k0], h) Q = Tr sc d 95 (174, [l0, l1], [.int 0, .ref k0], h) Q := t_go k_95_173 rfl
theorem k_95_174 : lk 95 174 = some (.putfield 94, 177, 9, 14, .int 0) := by decide +kernel
theorem x_95_174 : Tr sc d 95 (174, [l0, l1], [.int i1, .ref k0], h) Q = (okp h k0 9 = true ∧ Tr sc d 95 (177, [l0, l1], [], (sI h k0 14 i1)) Q) := t_gd k_95_174 rfl
theorem k_95_177 : lk 95 177 = some (.aload_n 0, 178, 0, 0, .null) := by decide +kernel
theorem x_95_177 : Tr sc d 95 (177, [some (.ref xk), l1], [], h) Q = Tr sc d 95 (178, [some (.ref xk), l1], [.ref xk], h) Q := t_aload_n k_95_177 rfl
theorem k_95_178 : lk 95 178 = some (.iconst 0, 179, 0, 0, .int 0) := by decide +kernel
theorem x_95_178 : Tr sc d 95 (178, [l0, l1], [.ref k0], h) Q = Tr sc d 95 (179, [l0, l1], [.int 0, .ref k0], h) Q := t_go k_95_178 rfl
theorem k_95_179 : lk 95 179 = some (.putfield 98, 182, 9, 15, .int 0) := by decide +kernel
theorem x_95_179 : Tr sc d 95 (179, [l0, l1], [.int i1, .ref k0], h) Q = (okp h k0 9 = true ∧ Tr sc d 95 (182, [l0, l1], [], (sI h k0 15 i1)) Q) := t_gd k_95_179 rfl
theorem k_95_182 : lk 95 182 = some (.aload_n 0, 183, 0, 0, .null) := by decide +kernel
theorem x_95_182 : Tr sc d 95 (182, [some (.ref xk), l1], [], h) Q = Tr sc d 95 (183, [some (.ref xk), l1], [.ref xk], h) Q := t_aload_n k_95_182 rfl
theorem k_95_183 : lk 95 183 = some (.lconst 0, 184, 0, 0, .long 0) := by decide +kernel
theorem x_95_183 : Tr sc d 95 (183, [l0, l1], [.ref k0], h) Q = Tr sc d 95 (184, [l0, l1], [.long 0, .ref k0], h) Q := t_go k_95_183 rfl
theorem k_95_184 : lk 95 184 = some (.putfield 101, 187, 9, 16, .long 0) := by decide +kernel
theorem x_95_184 : Tr sc d 95 (184, [l0, l1], [.long j1, .ref k0], h) Q = (okp h k0 9 = true ∧ Tr sc d 95 (187, [l0, l1], [], (sL h k0 16 j1)) Q) := t_gd k_95_184 rfl
theorem k_95_187 : lk 95 187 = some (.aload_n 0, 188, 0, 0, .null) := by decide +kernel
theorem x_95_187 : Tr sc d 95 (187, [some (.ref xk), l1], [], h) Q = Tr sc d 95 (188, [some (.ref xk), l1], [.ref xk], h) Q := t_aload_n k_95_187 rfl
theorem k_95_188 : lk 95 188 = some (.lconst 0, 189, 0, 0, .long 0) := by decide +kernel
theorem x_95_188 : Tr sc d 95 (188, [l0, l1], [.ref k0], h) Q = Tr sc d 95 (189, [l0, l1], [.long 0, .ref k0], h) Q := t_go k_95_188 rfl
theorem k_95_189 : lk 95 189 = some (.putfield 105, 192, 9, 17, .long 0) := by decide +kernel
theorem x_95_189 : Tr sc d 95 (189, [l0, l1], [.long j1, .ref k0], h) Q = (okp h k0 9 = true ∧ Tr sc d 95 (192, [l0, l1], [], (sL h k0 17 j1)) Q) := t_gd k_95_189 rfl
theorem k_95_192 : lk 95 192 = some (.aload_n 0, 193, 0, 0, .null) := by decide +kernel
theorem x_95_192 : Tr sc d 95 (192, [some (.ref xk), l1], [], h) Q = Tr sc d 95 (193, [some (.ref xk), l1], [.ref xk], h) Q := t_aload_n k_95_192 rfl
theorem k_95_193 : lk 95 193 = some (.lconst 1, 194, 0, 0, .long 1) := by decide +kernel
theorem x_95_193 : Tr sc d 95 (193, [l0, l1], [.ref k0], h) Q = Tr sc d 95 (194, [l0, l1], [.long 1, .ref k0], h) Q := t_go k_95_193 rfl
theorem k_95_194 : lk 95 194 = some (.putfield 108, 197, 9, 18, .long 0) := by decide +kernel
theorem x_95_194 : Tr sc d 95 (194, [l0, l1], [.long j1, .ref k0], h) Q = (okp h k0 9 = true ∧ Tr sc d 95 (197, [l0, l1], [], (sL h k0 18 j1)) Q) := t_gd k_95_194 rfl
theorem k_95_197 : lk 95 197 = some (.iconst 0, 198, 0, 0, .int 0) := by decide +kernel
theorem x_95_197 : Tr sc d 95 (197, [l0, l1], [], h) Q = Tr sc d 95 (198, [l0, l1], [.int 0], h) Q := t_go k_95_197 rfl
theorem k_95_198 : lk 95 198 = some (.istore_n 1, 199, 1, 0, .null) := by decide +kernel
theorem x_95_198 : Tr sc d 95 (198, [l0, l1], [.int i0], h) Q = Tr sc d 95 (199, [cl2 l0, some (.int i0)], [], h) Q := t_istore_n k_95_198 (Nat.le_of_ble_eq_true rfl)
theorem k_95_199 : lk 95 199 = some (.iload_n 1, 200, 1, 0, .null) := by decide +kernel
theorem x_95_199 : Tr sc d 95 (199, [l0, some (.int x)], [], h) Q = Tr sc d 95 (200, [l0, some (.int x)], [.int x], h) Q := t_iload_n k_95_199 rfl
theorem k_95_200 : lk 95 200 = some (.bipush 6, 202, 0, 0, .int 6) := by decide +kernel
theorem x_95_200 : Tr sc d 95 (200, [l0, l1], [.int i0], h) Q = Tr sc d 95 (202, [l0, l1], [.int 6, .int i0], h) Q := t_go k_95_200 rfl
theorem k_95_202 : lk 95 202 = some (.if_icmp .ge 24, 205, 226, 0, .null) := by decide +kernel
theorem x_95_202 : Tr sc d 95 (202, [l0, l1], [.int i1, .int i0], h) Q = if i1 ≤ i0 then Tr sc d 95 (226, [l0, l1], [], h) Q else Tr sc d 95 (205, [l0, l1], [], h) Q := t_if k_95_202 rfl
theorem k_95_205 : lk 95 205 = some (.aload_n 0, 206, 0, 0, .null) := by decide +kernel
theorem x_95_205 : Tr sc d 95 (205, [some (.ref xk), l1], [], h) Q = Tr sc d 95 (206, [some (.ref xk), l1], [.ref xk], h) Q := t_aload_n k_95_205 rfl
theorem k_95_206 : lk 95 206 = some (.getfield 11, 209, 9, 0, .null) := by decide +kernel
theorem x_95_206 : Tr sc d 95 (206, [l0, l1], [.ref k0], h) Q = (okp h k0 9 = true ∧ ∃ q, hR h k0 0 = some q ∧ Tr sc d 95 (209, [l0, l1], [.ref q], h) Q) := t_getr k_95_206
theorem k_95_209 : lk 95 209 = some (.iload_n 1, 210, 1, 0, .null) := by decide +kernel
theorem x_95_209 : Tr sc d 95 (209, [l0, some (.int x)], [.ref k0], h) Q = Tr sc d 95 (210, [l0, some (.int x)], [.int x, .ref k0], h) Q := t_iload_n k_95_209 rfl
theorem k_95_210 : lk 95 210 = some (.new 9, 213, 5, 106, .null) := by decide +kernel
theorem x_95_210 : Tr sc d 95 (210, [l0, l1], [.int i1, .ref k0], h) Q = ((hN h < 1000 ∧ TG (hN h) = 5 ∧ 5 < 11) ∧ Tr sc d 95 (213, [l0, l1], [.ref (hN h), .int i1, .ref k0], nH h) Q) := t_gd k_95_210 rfl
theorem k_95_213 : lk 95 213 = some (.dup, 214, 0, 0, .null) := by decide +kernel
theorem x_95_213 : Tr sc d 95 (213, [l0, l1], [.ref k2, .int i1, .ref k0], h) Q = Tr sc d 95 (214, [l0, l1], [.ref k2, .ref k2, .int i1, .ref k0], h) Q := t_go k_95_213 rfl
theorem k_95_214 : lk 95 214 = some (.bipush 40, 216, 0, 0, .int 40) := by decide +kernel
theorem x_95_214 : Tr sc d 95 (214, [l0, l1], [.ref k3, .ref k2, .int i1, .ref k0], h) Q = Tr sc d 95 (216, [l0, l1], [.int 40, .ref k3, .ref k2, .int i1, .ref k0], h) Q := t_go k_95_214 rfl
theorem k_95_216 : lk 95 216 = some (.invokespecial 111, 219, 40, 1, .null) := by decide +kernel
theorem x_95_216 : Tr sc (d + 1) 95 (216, [l0, l1], [.int i4, .ref k3, .ref k2, .int i1, .ref k0], h) Q = (okp h k3 5 = true ∧ Tr sc d 40 (ent0 40 [.ref k3, .int i4] h) (fun z => Tr sc (d + 1) 95 (219, [l0, l1], z.1.toList ++ [.ref k2, .int i1, .ref k0], z.2) Q)) := t_cp (as := [.int i4]) (r := [.ref k2, .int i1, .ref k0]) k_95_216 (by decide) rfl rfl (Nat.le_of_ble_eq_true rfl) (Nat.le_of_ble_eq_true rfl) (Nat.le_of_ble_eq_true rfl)
theorem k_95_219 : lk 95 219 = some (.aastore, 220, 0, 0, .null) := by decide +kernel
theorem x_95_219 : Tr sc d 95 (219, [l0, l1], [.ref k2, .int i1, .ref k0], h) Q = ((((okp h k0 14 && okp h k2 5) || (okp h k0 15 && okp h k2 6)) && inb i1 (LN k0)) = true ∧ Tr sc d 95 (220, [l0, l1], [], (sR h k0 i1.toNatClampNeg (some k2))) Q) := t_gd k_95_219 rfl
theorem k_95_220 : lk 95 220 = some (.iinc 1 1, 223, 1, 0, .int 1) := by decide +kernel
theorem x_95_220 : Tr sc d 95 (220, [l0, some (.int x)], [], h) Q = Tr sc d 95 (223, [cl2 l0, some (.int (x + 1))], [], h) Q := t_inc k_95_220 rfl (Nat.le_of_ble_eq_true rfl)
theorem k_95_223 : lk 95 223 = some (.goto (-24), 226, 199, 0, .null) := by decide +kernel
theorem x_95_223 : Tr sc d 95 (223, [l0, l1], [], h) Q = Tr sc d 95 (199, [l0, l1], [], h) Q := t_go k_95_223 rfl
theorem k_95_226 : lk 95 226 = some (.iconst 0, 227, 0, 0, .int 0) := by decide +kernel
theorem x_95_226 : Tr sc d 95 (226, [l0, l1], [], h) Q = Tr sc d 95 (227, [l0, l1], [.int 0], h) Q := t_go k_95_226 rfl
theorem k_95_227 : lk 95 227 = some (.istore_n 1, 228, 1, 0, .null) := by decide +kernel
theorem x_95_227 : Tr sc d 95 (227, [l0, l1], [.int i0], h) Q = Tr sc d 95 (228, [cl2 l0, some (.int i0)], [], h) Q := t_istore_n k_95_227 (Nat.le_of_ble_eq_true rfl)
theorem k_95_228 : lk 95 228 = some (.iload_n 1, 229, 1, 0, .null) := by decide +kernel
theorem x_95_228 : Tr sc d 95 (228, [l0, some (.int x)], [], h) Q = Tr sc d 95 (229, [l0, some (.int x)], [.int x], h) Q := t_iload_n k_95_228 rfl
theorem k_95_229 : lk 95 229 = some (.iconst 4, 230, 0, 0, .int 4) := by decide +kernel
theorem x_95_229 : Tr sc d 95 (229, [l0, l1], [.int i0], h) Q = Tr sc d 95 (230, [l0, l1], [.int 4, .int i0], h) Q := t_go k_95_229 rfl
theorem k_95_230 : lk 95 230 = some (.if_icmp .ge 24, 233, 254, 0, .null) := by decide +kernel
theorem x_95_230 : Tr sc d 95 (230, [l0, l1], [.int i1, .int i0], h) Q = if i1 ≤ i0 then Tr sc d 95 (254, [l0, l1], [], h) Q else Tr sc d 95 (233, [l0, l1], [], h) Q := t_if k_95_230 rfl
theorem k_95_233 : lk 95 233 = some (.aload_n 0, 234, 0, 0, .null) := by decide +kernel
theorem x_95_233 : Tr sc d 95 (233, [some (.ref xk), l1], [], h) Q = Tr sc d 95 (234, [some (.ref xk), l1], [.ref xk], h) Q := t_aload_n k_95_233 rfl
theorem k_95_234 : lk 95 234 = some (.getfield 15, 237, 9, 1, .null) := by decide +kernel
theorem x_95_234 : Tr sc d 95 (234, [l0, l1], [.ref k0], h) Q = (okp h k0 9 = true ∧ ∃ q, hR h k0 1 = some q ∧ Tr sc d 95 (237, [l0, l1], [.ref q], h) Q) := t_getr k_95_234
theorem k_95_237 : lk 95 237 = some (.iload_n 1, 238, 1, 0, .null) := by decide +kernel
theorem x_95_237 : Tr sc d 95 (237, [l0, some (.int x)], [.ref k0], h) Q = Tr sc d 95 (238, [l0, some (.int x)], [.int x, .ref k0], h) Q := t_iload_n k_95_237 rfl
theorem k_95_238 : lk 95 238 = some (.new 9, 241, 5, 106, .null) := by decide +kernel
theorem x_95_238 : Tr sc d 95 (238, [l0, l1], [.int i1, .ref k0], h) Q = ((hN h < 1000 ∧ TG (hN h) = 5 ∧ 5 < 11) ∧ Tr sc d 95 (241, [l0, l1], [.ref (hN h), .int i1, .ref k0], nH h) Q) := t_gd k_95_238 rfl
theorem k_95_241 : lk 95 241 = some (.dup, 242, 0, 0, .null) := by decide +kernel
theorem x_95_241 : Tr sc d 95 (241, [l0, l1], [.ref k2, .int i1, .ref k0], h) Q = Tr sc d 95 (242, [l0, l1], [.ref k2, .ref k2, .int i1, .ref k0], h) Q := t_go k_95_241 rfl
theorem k_95_242 : lk 95 242 = some (.bipush 60, 244, 0, 0, .int 60) := by decide +kernel
theorem x_95_242 : Tr sc d 95 (242, [l0, l1], [.ref k3, .ref k2, .int i1, .ref k0], h) Q = Tr sc d 95 (244, [l0, l1], [.int 60, .ref k3, .ref k2, .int i1, .ref k0], h) Q := t_go k_95_242 rfl
theorem k_95_244 : lk 95 244 = some (.invokespecial 111, 247, 40, 1, .null) := by decide +kernel
theorem x_95_244 : Tr sc (d + 1) 95 (244, [l0, l1], [.int i4, .ref k3, .ref k2, .int i1, .ref k0], h) Q = (okp h k3 5 = true ∧ Tr sc d 40 (ent0 40 [.ref k3, .int i4] h) (fun z => Tr sc (d + 1) 95 (247, [l0, l1], z.1.toList ++ [.ref k2, .int i1, .ref k0], z.2) Q)) := t_cp (as := [.int i4]) (r := [.ref k2, .int i1, .ref k0]) k_95_244 (by decide) rfl rfl (Nat.le_of_ble_eq_true rfl) (Nat.le_of_ble_eq_true rfl) (Nat.le_of_ble_eq_true rfl)
theorem k_95_247 : lk 95 247 = some (.aastore, 248, 0, 0, .null) := by decide +kernel
theorem x_95_247 : Tr sc d 95 (247, [l0, l1], [.ref k2, .int i1, .ref k0], h) Q = ((((okp h k0 14 && okp h k2 5) || (okp h k0 15 && okp h k2 6)) && inb i1 (LN k0)) = true ∧ Tr sc d 95 (248, [l0, l1], [], (sR h k0 i1.toNatClampNeg (some k2))) Q) := t_gd k_95_247 rfl
theorem k_95_248 : lk 95 248 = some (.iinc 1 1, 251, 1, 0, .int 1) := by decide +kernel
theorem x_95_248 : Tr sc d 95 (248, [l0, some (.int x)], [], h) Q = Tr sc d 95 (251, [cl2 l0, some (.int (x + 1))], [], h) Q := t_inc k_95_248 rfl (Nat.le_of_ble_eq_true rfl)
theorem k_95_251 : lk 95 251 = some (.goto (-23), 254, 228, 0, .null) := by decide +kernel
theorem x_95_251 : Tr sc d 95 (251, [l0, l1], [], h) Q = Tr sc d 95 (228, [l0, l1], [], h) Q := t_go k_95_251 rfl
theorem k_95_254 : lk 95 254 = some (.iconst 0, 255, 0, 0, .int 0) := by decide +kernel
theorem x_95_254 : Tr sc d 95 (254, [l0, l1], [], h) Q = Tr sc d 95 (255, [l0, l1], [.int 0], h) Q := t_go k_95_254 rfl
theorem k_95_255 : lk 95 255 = some (.istore_n 1, 256, 1, 0, .null) := by decide +kernel
theorem x_95_255 : Tr sc d 95 (255, [l0, l1], [.int i0], h) Q = Tr sc d 95 (256, [cl2 l0, some (.int i0)], [], h) Q := t_istore_n k_95_255 (Nat.le_of_ble_eq_true rfl)
theorem k_95_256 : lk 95 256 = some (.iload_n 1, 257, 1, 0, .null) := by decide +kernel
theorem x_95_256 : Tr sc d 95 (256, [l0, some (.int x)], [], h) Q = Tr sc d 95 (257, [l0, some (.int x)], [.int x], h) Q := t_iload_n k_95_256 rfl
theorem k_95_257 : lk 95 257 = some (.bipush 8, 259, 0, 0, .int 8) := by decide +kernel
theorem x_95_257 : Tr sc d 95 (257, [l0, l1], [.int i0], h) Q = Tr sc d 95 (259, [l0, l1], [.int 8, .int i0], h) Q := t_go k_95_257 rfl
theorem k_95_259 : lk 95 259 = some (.if_icmp .ge 22, 262, 281, 0, .null) := by decide +kernel
theorem x_95_259 : Tr sc d 95 (259, [l0, l1], [.int i1, .int i0], h) Q = if i1 ≤ i0 then Tr sc d 95 (281, [l0, l1], [], h) Q else Tr sc d 95 (262, [l0, l1], [], h) Q := t_if k_95_259 rfl
theorem k_95_262 : lk 95 262 = some (.aload_n 0, 263, 0, 0, .null) := by decide +kernel
theorem x_95_262 : Tr sc d 95 (262, [some (.ref xk), l1], [], h) Q = Tr sc d 95 (263, [some (.ref xk), l1], [.ref xk], h) Q := t_aload_n k_95_262 rfl
theorem k_95_263 : lk 95 263 = some (.getfield 20, 266, 9, 2, .null) := by decide +kernel
theorem x_95_263 : Tr sc d 95 (263, [l0, l1], [.ref k0], h) Q = (okp h k0 9 = true ∧ ∃ q, hR h k0 2 = some q ∧ Tr sc d 95 (266, [l0, l1], [.ref q], h) Q) := t_getr k_95_263
theorem k_95_266 : lk 95 266 = some (.iload_n 1, 267, 1, 0, .null) := by decide +kernel
theorem x_95_266 : Tr sc d 95 (266, [l0, some (.int x)], [.ref k0], h) Q = Tr sc d 95 (267, [l0, some (.int x)], [.int x, .ref k0], h) Q := t_iload_n k_95_266 rfl
theorem k_95_267 : lk 95 267 = some (.new 18, 270, 6, 108, .null) := by decide +kernel
theorem x_95_267 : Tr sc d 95 (267, [l0, l1], [.int i1, .ref k0], h) Q = ((hN h < 1000 ∧ TG (hN h) = 6 ∧ 6 < 11) ∧ Tr sc d 95 (270, [l0, l1], [.ref (hN h), .int i1, .ref k0], nH h) Q) := t_gd k_95_267 rfl
theorem k_95_270 : lk 95 270 = some (.dup, 271, 0, 0, .null) := by decide +kernel
theorem x_95_270 : Tr sc d 95 (270, [l0, l1], [.ref k2, .int i1, .ref k0], h) Q = Tr sc d 95 (271, [l0, l1], [.ref k2, .ref k2, .int i1, .ref k0], h) Q := t_go k_95_270 rfl
theorem k_95_271 : lk 95 271 = some (.invokespecial 24, 274, 47, 0, .null) := by decide +kernel
theorem x_95_271 : Tr sc (d + 1) 95 (271, [l0, l1], [.ref k3, .ref k2, .int i1, .ref k0], h) Q = (okp h k3 6 = true ∧ Tr sc d 47 (ent0 47 [.ref k3] h) (fun z => Tr sc (d + 1) 95 (274, [l0, l1], z.1.toList ++ [.ref k2, .int i1, .ref k0], z.2) Q)) := t_cp (as := []) (r := [.ref k2, .int i1, .ref k0]) k_95_271 (by decide) rfl rfl (Nat.le_of_ble_eq_true rfl) (Nat.le_of_ble_eq_true rfl) (Nat.le_of_ble_eq_true rfl)
theorem k_95_274 : lk 95 274 = some (.aastore, 275, 0, 0, .null) := by decide +kernel
theorem x_95_274 : Tr sc d 95 (274, [l0, l1], [.ref k2, .int i1, .ref k0], h) Q = ((((okp h k0 14 && okp h k2 5) || (okp h k0 15 && okp h k2 6)) && inb i1 (LN k0)) = true ∧ Tr sc d 95 (275, [l0, l1], [], (sR h k0 i1.toNatClampNeg (some k2))) Q) := t_gd k_95_274 rfl
theorem k_95_275 : lk 95 275 = some (.iinc 1 1, 278, 1, 0, .int 1) := by decide +kernel
theorem x_95_275 : Tr sc d 95 (275, [l0, some (.int x)], [], h) Q = Tr sc d 95 (278, [cl2 l0, some (.int (x + 1))], [], h) Q := t_inc k_95_275 rfl (Nat.le_of_ble_eq_true rfl)
theorem k_95_278 : lk 95 278 = some (.goto (-22), 281, 256, 0, .null) := by decide +kernel
theorem x_95_278 : Tr sc d 95 (278, [l0, l1], [], h) Q = Tr sc d 95 (256, [l0, l1], [], h) Q := t_go k_95_278 rfl
theorem k_95_281 : lk 95 281 = some (.return_, 282, 0, 0, .null) := by decide +kernel
theorem x_95_281 : Tr sc d 95 (281, [l0, l1], [], h) Q = Q (none, h) := t_ret k_95_281 (by rw [r_95]; rfl)
theorem e_95 : Tr sc d 95 (ent0 95 [.ref k0] h) Q = Tr sc d 95 (0, [some (.ref k0), none], [], h) Q := by
  have e : mL 95 = 2 := by decide +kernel
  unfold ent0
  rw [e]
  rfl
theorem r_96 : mR 96 = some .int := by decide +kernel
theorem k_96_0 : lk 96 0 = some (.iload_n 1, 1, 1, 0, .null) := by decide +kernel
theorem x_96_0 : Tr sc d 96 (0, [l0, some (.int x), l2], [], h) Q = Tr sc d 96 (1, [l0, some (.int x), l2], [.int x], h) Q := t_iload_n k_96_0 rfl
theorem k_96_1 : lk 96 1 = some (.invokestatic 114, 4, 140, 1, .null) := by decide +kernel
theorem x_96_1 : Tr sc (d + 1) 96 (1, [l0, l1, l2], [.int i0], h) Q = Tr sc d 140 (ent0 140 [.int i0] h) (fun z => Tr sc (d + 1) 96 (4, [l0, l1, l2], z.1.toList ++ [], z.2) Q) := t_cs (as := [.int i0]) (r := []) k_96_1 (by decide) rfl rfl (Nat.le_of_ble_eq_true rfl) (Nat.le_of_ble_eq_true rfl)
theorem k_96_4 : lk 96 4 = some (.ifCond .eq 9, 7, 13, 0, .null) := by decide +kernel
theorem x_96_4 : Tr sc d 96 (4, [l0, l1, l2], [.int i0], h) Q = if i0 = 0 then Tr sc d 96 (13, [l0, l1, l2], [], h) Q else Tr sc d 96 (7, [l0, l1, l2], [], h) Q := t_if k_96_4 rfl
theorem k_96_7 : lk 96 7 = some (.iload_n 2, 8, 2, 0, .null) := by decide +kernel
theorem x_96_7 : Tr sc d 96 (7, [l0, l1, some (.int x)], [], h) Q = Tr sc d 96 (8, [l0, l1, some (.int x)], [.int x], h) Q := t_iload_n k_96_7 rfl
theorem k_96_8 : lk 96 8 = some (.bipush 40, 10, 0, 0, .int 40) := by decide +kernel
theorem x_96_8 : Tr sc d 96 (8, [l0, l1, l2], [.int i0], h) Q = Tr sc d 96 (10, [l0, l1, l2], [.int 40, .int i0], h) Q := t_go k_96_8 rfl
theorem k_96_10 : lk 96 10 = some (.if_icmp .le 5, 13, 15, 0, .null) := by decide +kernel
theorem x_96_10 : Tr sc d 96 (10, [l0, l1, l2], [.int i1, .int i0], h) Q = if i0 ≤ i1 then Tr sc d 96 (15, [l0, l1, l2], [], h) Q else Tr sc d 96 (13, [l0, l1, l2], [], h) Q := t_if k_96_10 rfl
theorem k_96_13 : lk 96 13 = some (.iconst (-1), 14, 0, 0, .int (-1)) := by decide +kernel
theorem x_96_13 : Tr sc d 96 (13, [l0, l1, l2], [], h) Q = Tr sc d 96 (14, [l0, l1, l2], [.int (-1)], h) Q := t_go k_96_13 rfl
theorem k_96_14 : lk 96 14 = some (.ireturn, 15, 0, 0, .null) := by decide +kernel
theorem x_96_14 : Tr sc d 96 (14, [l0, l1, l2], [.int i0], h) Q = Q (some (.int i0), h) := t_ret k_96_14 (by rw [r_96]; rfl)
theorem k_96_15 : lk 96 15 = some (.iload_n 2, 16, 2, 0, .null) := by decide +kernel
theorem x_96_15 : Tr sc d 96 (15, [l0, l1, some (.int x)], [], h) Q = Tr sc d 96 (16, [l0, l1, some (.int x)], [.int x], h) Q := t_iload_n k_96_15 rfl
theorem k_96_16 : lk 96 16 = some (.ifCond .ge 9, 19, 25, 0, .null) := by decide +kernel
theorem x_96_16 : Tr sc d 96 (16, [l0, l1, l2], [.int i0], h) Q = if 0 ≤ i0 then Tr sc d 96 (25, [l0, l1, l2], [], h) Q else Tr sc d 96 (19, [l0, l1, l2], [], h) Q := t_if k_96_16 rfl
theorem k_96_19 : lk 96 19 = some (.aload_n 0, 20, 0, 0, .null) := by decide +kernel
theorem x_96_19 : Tr sc d 96 (19, [some (.ref xk), l1, l2], [], h) Q = Tr sc d 96 (20, [some (.ref xk), l1, l2], [.ref xk], h) Q := t_aload_n k_96_19 rfl
theorem k_96_20 : lk 96 20 = some (.iconst 5, 21, 0, 0, .int 5) := by decide +kernel
theorem x_96_20 : Tr sc d 96 (20, [l0, l1, l2], [.ref k0], h) Q = Tr sc d 96 (21, [l0, l1, l2], [.int 5, .ref k0], h) Q := t_go k_96_20 rfl
theorem k_96_21 : lk 96 21 = some (.invokevirtual 118, 24, 144, 1, .null) := by decide +kernel
theorem x_96_21 : Tr sc (d + 1) 96 (21, [l0, l1, l2], [.int i1, .ref k0], h) Q = (okp h k0 9 = true ∧ Tr sc d 144 (ent0 144 [.ref k0, .int i1] h) (fun z => Tr sc (d + 1) 96 (24, [l0, l1, l2], z.1.toList ++ [], z.2) Q)) := t_cv (as := [.int i1]) (r := []) k_96_21 rfl rfl (Nat.le_of_ble_eq_true rfl) (Nat.le_of_ble_eq_true rfl) (Nat.le_of_ble_eq_true rfl)
theorem k_96_24 : lk 96 24 = some (.ireturn, 25, 0, 0, .null) := by decide +kernel
theorem x_96_24 : Tr sc d 96 (24, [l0, l1, l2], [.int i0], h) Q = Q (some (.int i0), h) := t_ret k_96_24 (by rw [r_96]; rfl)
theorem k_96_25 : lk 96 25 = some (.aload_n 0, 26, 0, 0, .null) := by decide +kernel
theorem x_96_25 : Tr sc d 96 (25, [some (.ref xk), l1, l2], [], h) Q = Tr sc d 96 (26, [some (.ref xk), l1, l2], [.ref xk], h) Q := t_aload_n k_96_25 rfl
theorem k_96_26 : lk 96 26 = some (.getfield 11, 29, 9, 0, .null) := by decide +kernel
theorem x_96_26 : Tr sc d 96 (26, [l0, l1, l2], [.ref k0], h) Q = (okp h k0 9 = true ∧ ∃ q, hR h k0 0 = some q ∧ Tr sc d 96 (29, [l0, l1, l2], [.ref q], h) Q) := t_getr k_96_26
theorem k_96_29 : lk 96 29 = some (.iload_n 1, 30, 1, 0, .null) := by decide +kernel
theorem x_96_29 : Tr sc d 96 (29, [l0, some (.int x), l2], [.ref k0], h) Q = Tr sc d 96 (30, [l0, some (.int x), l2], [.int x, .ref k0], h) Q := t_iload_n k_96_29 rfl
theorem k_96_30 : lk 96 30 = some (.aaload, 31, 0, 0, .null) := by decide +kernel
theorem x_96_30 : Tr sc d 96 (30, [l0, l1, l2], [.int i1, .ref k0], h) Q = (((okp h k0 14 || okp h k0 15) && inb i1 (LN k0)) = true ∧ ∃ q, hR h k0 i1.toNatClampNeg = some q ∧ Tr sc d 96 (31, [l0, l1, l2], [.ref q], h) Q) := t_aald k_96_30
theorem k_96_31 : lk 96 31 = some (.iload_n 2, 32, 2, 0, .null) := by decide +kernel
theorem x_96_31 : Tr sc d 96 (31, [l0, l1, some (.int x)], [.ref k0], h) Q = Tr sc d 96 (32, [l0, l1, some (.int x)], [.int x, .ref k0], h) Q := t_iload_n k_96_31 rfl
theorem k_96_32 : lk 96 32 = some (.iconst 0, 33, 0, 0, .int 0) := by decide +kernel
theorem x_96_32 : Tr sc d 96 (32, [l0, l1, l2], [.int i1, .ref k0], h) Q = Tr sc d 96 (33, [l0, l1, l2], [.int 0, .int i1, .ref k0], h) Q := t_go k_96_32 rfl
theorem k_96_33 : lk 96 33 = some (.invokevirtual 122, 36, 41, 2, .null) := by decide +kernel
theorem x_96_33 : Tr sc (d + 1) 96 (33, [l0, l1, l2], [.int i2, .int i1, .ref k0], h) Q = (okp h k0 5 = true ∧ Tr sc d 41 (ent0 41 [.ref k0, .int i1, .int i2] h) (fun z => Tr sc (d + 1) 96 (36, [l0, l1, l2], z.1.toList ++ [], z.2) Q)) := t_cv (as := [.int i1, .int i2]) (r := []) k_96_33 rfl rfl (Nat.le_of_ble_eq_true rfl) (Nat.le_of_ble_eq_true rfl) (Nat.le_of_ble_eq_true rfl)
theorem k_96_36 : lk 96 36 = some (.iload_n 2, 37, 2, 0, .null) := by decide +kernel
theorem x_96_36 : Tr sc d 96 (36, [l0, l1, some (.int x)], [], h) Q = Tr sc d 96 (37, [l0, l1, some (.int x)], [.int x], h) Q := t_iload_n k_96_36 rfl
theorem k_96_37 : lk 96 37 = some (.ireturn, 38, 0, 0, .null) := by decide +kernel
theorem x_96_37 : Tr sc d 96 (37, [l0, l1, l2], [.int i0], h) Q = Q (some (.int i0), h) := t_ret k_96_37 (by rw [r_96]; rfl)
theorem e_96 : Tr sc d 96 (ent0 96 [.ref k0, .int i1, .int i2] h) Q = Tr sc d 96 (0, [some (.ref k0), some (.int i1), some (.int i2)], [], h) Q := by
  have e : mL 96 = 3 := by decide +kernel
  unfold ent0
  rw [e]
  rfl
theorem r_97 : mR 97 = some .int := by decide +kernel
theorem k_97_0 : lk 97 0 = some (.iload_n 1, 1, 1, 0, .null) := by decide +kernel
theorem x_97_0 : Tr sc d 97 (0, [l0, some (.int x), l2, l3], [], h) Q = Tr sc d 97 (1, [l0, some (.int x), l2, l3], [.int x], h) Q := t_iload_n k_97_0 rfl
theorem k_97_1 : lk 97 1 = some (.invokestatic 114, 4, 140, 1, .null) := by decide +kernel
theorem x_97_1 : Tr sc (d + 1) 97 (1, [l0, l1, l2, l3], [.int i0], h) Q = Tr sc d 140 (ent0 140 [.int i0] h) (fun z => Tr sc (d + 1) 97 (4, [l0, l1, l2, l3], z.1.toList ++ [], z.2) Q) := t_cs (as := [.int i0]) (r := []) k_97_1 (by decide) rfl rfl (Nat.le_of_ble_eq_true rfl) (Nat.le_of_ble_eq_true rfl)
theorem k_97_4 : lk 97 4 = some (.ifCond .ne 5, 7, 9, 0, .null) := by decide +kernel
theorem x_97_4 : Tr sc d 97 (4, [l0, l1, l2, l3], [.int i0], h) Q = if i0 = 0 then Tr sc d 97 (7, [l0, l1, l2, l3], [], h) Q else Tr sc d 97 (9, [l0, l1, l2, l3], [], h) Q := t_if k_97_4 rfl
theorem k_97_7 : lk 97 7 = some (.iconst (-1), 8, 0, 0, .int (-1)) := by decide +kernel
theorem x_97_7 : Tr sc d 97 (7, [l0, l1, l2, l3], [], h) Q = Tr sc d 97 (8, [l0, l1, l2, l3], [.int (-1)], h) Q := t_go k_97_7 rfl
theorem k_97_8 : lk 97 8 = some (.ireturn, 9, 0, 0, .null) := by decide +kernel
theorem x_97_8 : Tr sc d 97 (8, [l0, l1, l2, l3], [.int i0], h) Q = Q (some (.int i0), h) := t_ret k_97_8 (by rw [r_97]; rfl)
theorem k_97_9 : lk 97 9 = some (.aload_n 0, 10, 0, 0, .null) := by decide +kernel
theorem x_97_9 : Tr sc d 97 (9, [some (.ref xk), l1, l2, l3], [], h) Q = Tr sc d 97 (10, [some (.ref xk), l1, l2, l3], [.ref xk], h) Q := t_aload_n k_97_9 rfl
theorem k_97_10 : lk 97 10 = some (.getfield 11, 13, 9, 0, .null) := by decide +kernel
theorem x_97_10 : Tr sc d 97 (10, [l0, l1, l2, l3], [.ref k0], h) Q = (okp h k0 9 = true ∧ ∃ q, hR h k0 0 = some q ∧ Tr sc d 97 (13, [l0, l1, l2, l3], [.ref q], h) Q) := t_getr k_97_10
theorem k_97_13 : lk 97 13 = some (.iload_n 1, 14, 1, 0, .null) := by decide +kernel
theorem x_97_13 : Tr sc d 97 (13, [l0, some (.int x), l2, l3], [.ref k0], h) Q = Tr sc d 97 (14, [l0, some (.int x), l2, l3], [.int x, .ref k0], h) Q := t_iload_n k_97_13 rfl
theorem k_97_14 : lk 97 14 = some (.aaload, 15, 0, 0, .null) := by decide +kernel
theorem x_97_14 : Tr sc d 97 (14, [l0, l1, l2, l3], [.int i1, .ref k0], h) Q = (((okp h k0 14 || okp h k0 15) && inb i1 (LN k0)) = true ∧ ∃ q, hR h k0 i1.toNatClampNeg = some q ∧ Tr sc d 97 (15, [l0, l1, l2, l3], [.ref q], h) Q) := t_aald k_97_14
theorem k_97_15 : lk 97 15 = some (.invokevirtual 125, 18, 42, 0, .null) := by decide +kernel
theorem x_97_15 : Tr sc (d + 1) 97 (15, [l0, l1, l2, l3], [.ref k0], h) Q = (okp h k0 5 = true ∧ Tr sc d 42 (ent0 42 [.ref k0] h) (fun z => Tr sc (d + 1) 97 (18, [l0, l1, l2, l3], z.1.toList ++ [], z.2) Q)) := t_cv (as := []) (r := []) k_97_15 rfl rfl (Nat.le_of_ble_eq_true rfl) (Nat.le_of_ble_eq_true rfl) (Nat.le_of_ble_eq_true rfl)
theorem k_97_18 : lk 97 18 = some (.ifCond .eq 9, 21, 27, 0, .null) := by decide +kernel
theorem x_97_18 : Tr sc d 97 (18, [l0, l1, l2, l3], [.int i0], h) Q = if i0 = 0 then Tr sc d 97 (27, [l0, l1, l2, l3], [], h) Q else Tr sc d 97 (21, [l0, l1, l2, l3], [], h) Q := t_if k_97_18 rfl
theorem k_97_21 : lk 97 21 = some (.aload_n 0, 22, 0, 0, .null) := by decide +kernel
theorem x_97_21 : Tr sc d 97 (21, [some (.ref xk), l1, l2, l3], [], h) Q = Tr sc d 97 (22, [some (.ref xk), l1, l2, l3], [.ref xk], h) Q := t_aload_n k_97_21 rfl
theorem k_97_22 : lk 97 22 = some (.iconst 1, 23, 0, 0, .int 1) := by decide +kernel
theorem x_97_22 : Tr sc d 97 (22, [l0, l1, l2, l3], [.ref k0], h) Q = Tr sc d 97 (23, [l0, l1, l2, l3], [.int 1, .ref k0], h) Q := t_go k_97_22 rfl
theorem k_97_23 : lk 97 23 = some (.invokevirtual 118, 26, 144, 1, .null) := by decide +kernel
theorem x_97_23 : Tr sc (d + 1) 97 (23, [l0, l1, l2, l3], [.int i1, .ref k0], h) Q = (okp h k0 9 = true ∧ Tr sc d 144 (ent0 144 [.ref k0, .int i1] h) (fun z => Tr sc (d + 1) 97 (26, [l0, l1, l2, l3], z.1.toList ++ [], z.2) Q)) := t_cv (as := [.int i1]) (r := []) k_97_23 rfl rfl (Nat.le_of_ble_eq_true rfl) (Nat.le_of_ble_eq_true rfl) (Nat.le_of_ble_eq_true rfl)
theorem k_97_26 : lk 97 26 = some (.ireturn, 27, 0, 0, .null) := by decide +kernel
theorem x_97_26 : Tr sc d 97 (26, [l0, l1, l2, l3], [.int i0], h) Q = Q (some (.int i0), h) := t_ret k_97_26 (by rw [r_97]; rfl)
theorem k_97_27 : lk 97 27 = some (.aload_n 0, 28, 0, 0, .null) := by decide +kernel
theorem x_97_27 : Tr sc d 97 (27, [some (.ref xk), l1, l2, l3], [], h) Q = Tr sc d 97 (28, [some (.ref xk), l1, l2, l3], [.ref xk], h) Q := t_aload_n k_97_27 rfl
theorem k_97_28 : lk 97 28 = some (.getfield 11, 31, 9, 0, .null) := by decide +kernel
theorem x_97_28 : Tr sc d 97 (28, [l0, l1, l2, l3], [.ref k0], h) Q = (okp h k0 9 = true ∧ ∃ q, hR h k0 0 = some q ∧ Tr sc d 97 (31, [l0, l1, l2, l3], [.ref q], h) Q) := t_getr k_97_28
theorem k_97_31 : lk 97 31 = some (.iload_n 1, 32, 1, 0, .null) := by decide +kernel
theorem x_97_31 : Tr sc d 97 (31, [l0, some (.int x), l2, l3], [.ref k0], h) Q = Tr sc d 97 (32, [l0, some (.int x), l2, l3], [.int x, .ref k0], h) Q := t_iload_n k_97_31 rfl
theorem k_97_32 : lk 97 32 = some (.aaload, 33, 0, 0, .null) := by decide +kernel
theorem x_97_32 : Tr sc d 97 (32, [l0, l1, l2, l3], [.int i1, .ref k0], h) Q = (((okp h k0 14 || okp h k0 15) && inb i1 (LN k0)) = true ∧ ∃ q, hR h k0 i1.toNatClampNeg = some q ∧ Tr sc d 97 (33, [l0, l1, l2, l3], [.ref q], h) Q) := t_aald k_97_32
theorem k_97_33 : lk 97 33 = some (.iload_n 2, 34, 2, 0, .null) := by decide +kernel
theorem x_97_33 : Tr sc d 97 (33, [l0, l1, some (.int x), l3], [.ref k0], h) Q = Tr sc d 97 (34, [l0, l1, some (.int x), l3], [.int x, .ref k0], h) Q := t_iload_n k_97_33 rfl
theorem k_97_34 : lk 97 34 = some (.invokevirtual 129, 37, 43, 1, .null) := by decide +kernel
theorem x_97_34 : Tr sc (d + 1) 97 (34, [l0, l1, l2, l3], [.int i1, .ref k0], h) Q = (okp h k0 5 = true ∧ Tr sc d 43 (ent0 43 [.ref k0, .int i1] h) (fun z => Tr sc (d + 1) 97 (37, [l0, l1, l2, l3], z.1.toList ++ [], z.2) Q)) := t_cv (as := [.int i1]) (r := []) k_97_34 rfl rfl (Nat.le_of_ble_eq_true rfl) (Nat.le_of_ble_eq_true rfl) (Nat.le_of_ble_eq_true rfl)
theorem k_97_37 : lk 97 37 = some (.ifCond .ne 9, 40, 46, 0, .null) := by decide +kernel
theorem x_97_37 : Tr sc d 97 (37, [l0, l1, l2, l3], [.int i0], h) Q = if i0 = 0 then Tr sc d 97 (40, [l0, l1, l2, l3], [], h) Q else Tr sc d 97 (46, [l0, l1, l2, l3], [], h) Q := t_if k_97_37 rfl
theorem k_97_40 : lk 97 40 = some (.aload_n 0, 41, 0, 0, .null) := by decide +kernel
theorem x_97_40 : Tr sc d 97 (40, [some (.ref xk), l1, l2, l3], [], h) Q = Tr sc d 97 (41, [some (.ref xk), l1, l2, l3], [.ref xk], h) Q := t_aload_n k_97_40 rfl
theorem k_97_41 : lk 97 41 = some (.iconst 2, 42, 0, 0, .int 2) := by decide +kernel
theorem x_97_41 : Tr sc d 97 (41, [l0, l1, l2, l3], [.ref k0], h) Q = Tr sc d 97 (42, [l0, l1, l2, l3], [.int 2, .ref k0], h) Q := t_go k_97_41 rfl
theorem k_97_42 : lk 97 42 = some (.invokevirtual 118, 45, 144, 1, .null) := by decide +kernel
theorem x_97_42 : Tr sc (d + 1) 97 (42, [l0, l1, l2, l3], [.int i1, .ref k0], h) Q = (okp h k0 9 = true ∧ Tr sc d 144 (ent0 144 [.ref k0, .int i1] h) (fun z => Tr sc (d + 1) 97 (45, [l0, l1, l2, l3], z.1.toList ++ [], z.2) Q)) := t_cv (as := [.int i1]) (r := []) k_97_42 rfl rfl (Nat.le_of_ble_eq_true rfl) (Nat.le_of_ble_eq_true rfl) (Nat.le_of_ble_eq_true rfl)
theorem k_97_45 : lk 97 45 = some (.ireturn, 46, 0, 0, .null) := by decide +kernel
theorem x_97_45 : Tr sc d 97 (45, [l0, l1, l2, l3], [.int i0], h) Q = Q (some (.int i0), h) := t_ret k_97_45 (by rw [r_97]; rfl)
theorem k_97_46 : lk 97 46 = some (.aload_n 0, 47, 0, 0, .null) := by decide +kernel
theorem x_97_46 : Tr sc d 97 (46, [some (.ref xk), l1, l2, l3], [], h) Q = Tr sc d 97 (47, [some (.ref xk), l1, l2, l3], [.ref xk], h) Q := t_aload_n k_97_46 rfl
theorem k_97_47 : lk 97 47 = some (.aload_n 0, 48, 0, 0, .null) := by decide +kernel
theorem x_97_47 : Tr sc d 97 (47, [some (.ref xk), l1, l2, l3], [.ref k0], h) Q = Tr sc d 97 (48, [some (.ref xk), l1, l2, l3], [.ref xk, .ref k0], h) Q := t_aload_n k_97_47 rfl
theorem k_97_48 : lk 97 48 = some (.getfield 11, 51, 9, 0, .null) := by decide +kernel
theorem x_97_48 : Tr sc d 97 (48, [l0, l1, l2, l3], [.ref k1, .ref k0], h) Q = (okp h k1 9 = true ∧ ∃ q, hR h k1 0 = some q ∧ Tr sc d 97 (51, [l0, l1, l2, l3], [.ref q, .ref k0], h) Q) := t_getr k_97_48
theorem k_97_51 : lk 97 51 = some (.iload_n 1, 52, 1, 0, .null) := by decide +kernel
theorem x_97_51 : Tr sc d 97 (51, [l0, some (.int x), l2, l3], [.ref k1, .ref k0], h) Q = Tr sc d 97 (52, [l0, some (.int x), l2, l3], [.int x, .ref k1, .ref k0], h) Q := t_iload_n k_97_51 rfl
theorem k_97_52 : lk 97 52 = some (.aaload, 53, 0, 0, .null) := by decide +kernel
theorem x_97_52 : Tr sc d 97 (52, [l0, l1, l2, l3], [.int i2, .ref k1, .ref k0], h) Q = (((okp h k1 14 || okp h k1 15) && inb i2 (LN k1)) = true ∧ ∃ q, hR h k1 i2.toNatClampNeg = some q ∧ Tr sc d 97 (53, [l0, l1, l2, l3], [.ref q, .ref k0], h) Q) := t_aald k_97_52
theorem k_97_53 : lk 97 53 = some (.getfield 132, 56, 5, 0, .null) := by decide +kernel
theorem x_97_53 : Tr sc d 97 (53, [l0, l1, l2, l3], [.ref k1, .ref k0], h) Q = (okp h k1 5 = true ∧ ∃ q, hR h k1 0 = some q ∧ Tr sc d 97 (56, [l0, l1, l2, l3], [.ref q, .ref k0], h) Q) := t_getr k_97_53
theorem k_97_56 : lk 97 56 = some (.iload_n 2, 57, 2, 0, .null) := by decide +kernel
theorem x_97_56 : Tr sc d 97 (56, [l0, l1, some (.int x), l3], [.ref k1, .ref k0], h) Q = Tr sc d 97 (57, [l0, l1, some (.int x), l3], [.int x, .ref k1, .ref k0], h) Q := t_iload_n k_97_56 rfl
theorem k_97_57 : lk 97 57 = some (.iaload, 58, 0, 0, .null) := by decide +kernel
theorem x_97_57 : Tr sc d 97 (57, [l0, l1, l2, l3], [.int i2, .ref k1, .ref k0], h) Q = (iOk sc h k1 i2 ∧ Tr sc d 97 (58, [l0, l1, l2, l3], [.int (iRd sc h k1 i2), .ref k0], h) Q) := t_iald k_97_57
theorem k_97_58 : lk 97 58 = some (.putfield 98, 61, 9, 15, .int 0) := by decide +kernel
theorem x_97_58 : Tr sc d 97 (58, [l0, l1, l2, l3], [.int i1, .ref k0], h) Q = (okp h k0 9 = true ∧ Tr sc d 97 (61, [l0, l1, l2, l3], [], (sI h k0 15 i1)) Q) := t_gd k_97_58 rfl
theorem k_97_61 : lk 97 61 = some (.aload_n 0, 62, 0, 0, .null) := by decide +kernel
theorem x_97_61 : Tr sc d 97 (61, [some (.ref xk), l1, l2, l3], [], h) Q = Tr sc d 97 (62, [some (.ref xk), l1, l2, l3], [.ref xk], h) Q := t_aload_n k_97_61 rfl
theorem k_97_62 : lk 97 62 = some (.getfield 11, 65, 9, 0, .null) := by decide +kernel
theorem x_97_62 : Tr sc d 97 (62, [l0, l1, l2, l3], [.ref k0], h) Q = (okp h k0 9 = true ∧ ∃ q, hR h k0 0 = some q ∧ Tr sc d 97 (65, [l0, l1, l2, l3], [.ref q], h) Q) := t_getr k_97_62
theorem k_97_65 : lk 97 65 = some (.iload_n 1, 66, 1, 0, .null) := by decide +kernel
theorem x_97_65 : Tr sc d 97 (65, [l0, some (.int x), l2, l3], [.ref k0], h) Q = Tr sc d 97 (66, [l0, some (.int x), l2, l3], [.int x, .ref k0], h) Q := t_iload_n k_97_65 rfl
theorem k_97_66 : lk 97 66 = some (.aaload, 67, 0, 0, .null) := by decide +kernel
theorem x_97_66 : Tr sc d 97 (66, [l0, l1, l2, l3], [.int i1, .ref k0], h) Q = (((okp h k0 14 || okp h k0 15) && inb i1 (LN k0)) = true ∧ ∃ q, hR h k0 i1.toNatClampNeg = some q ∧ Tr sc d 97 (67, [l0, l1, l2, l3], [.ref q], h) Q) := t_aald k_97_66
theorem k_97_67 : lk 97 67 = some (.getfield 132, 70, 5, 0, .null) := by decide +kernel
theorem x_97_67 : Tr sc d 97 (67, [l0, l1, l2, l3], [.ref k0], h) Q = (okp h k0 5 = true ∧ ∃ q, hR h k0 0 = some q ∧ Tr sc d 97 (70, [l0, l1, l2, l3], [.ref q], h) Q) := t_getr k_97_67
theorem k_97_70 : lk 97 70 = some (.iload_n 2, 71, 2, 0, .null) := by decide +kernel
theorem x_97_70 : Tr sc d 97 (70, [l0, l1, some (.int x), l3], [.ref k0], h) Q = Tr sc d 97 (71, [l0, l1, some (.int x), l3], [.int x, .ref k0], h) Q := t_iload_n k_97_70 rfl
theorem k_97_71 : lk 97 71 = some (.iload_n 3, 72, 3, 0, .null) := by decide +kernel
theorem x_97_71 : Tr sc d 97 (71, [l0, l1, l2, some (.int x)], [.int i1, .ref k0], h) Q = Tr sc d 97 (72, [l0, l1, l2, some (.int x)], [.int x, .int i1, .ref k0], h) Q := t_iload_n k_97_71 rfl
theorem k_97_72 : lk 97 72 = some (.iastore, 73, 0, 0, .null) := by decide +kernel
theorem x_97_72 : Tr sc d 97 (72, [l0, l1, l2, l3], [.int i2, .int i1, .ref k0], h) Q = ((okp h k0 11 && inb i1 (LN k0)) = true ∧ Tr sc d 97 (73, [l0, l1, l2, l3], [], (sI h k0 i1.toNatClampNeg i2)) Q) := t_gd k_97_72 rfl
theorem k_97_73 : lk 97 73 = some (.iconst 1, 74, 0, 0, .int 1) := by decide +kernel
theorem x_97_73 : Tr sc d 97 (73, [l0, l1, l2, l3], [], h) Q = Tr sc d 97 (74, [l0, l1, l2, l3], [.int 1], h) Q := t_go k_97_73 rfl
theorem k_97_74 : lk 97 74 = some (.ireturn, 75, 0, 0, .null) := by decide +kernel
theorem x_97_74 : Tr sc d 97 (74, [l0, l1, l2, l3], [.int i0], h) Q = Q (some (.int i0), h) := t_ret k_97_74 (by rw [r_97]; rfl)
theorem e_97 : Tr sc d 97 (ent0 97 [.ref k0, .int i1, .int i2, .int i3] h) Q = Tr sc d 97 (0, [some (.ref k0), some (.int i1), some (.int i2), some (.int i3)], [], h) Q := by
  have e : mL 97 = 4 := by decide +kernel
  unfold ent0
  rw [e]
  rfl
theorem r_98 : mR 98 = some .int := by decide +kernel
theorem k_98_0 : lk 98 0 = some (.iload_n 1, 1, 1, 0, .null) := by decide +kernel
theorem x_98_0 : Tr sc d 98 (0, [l0, some (.int x)], [], h) Q = Tr sc d 98 (1, [l0, some (.int x)], [.int x], h) Q := t_iload_n k_98_0 rfl
theorem k_98_1 : lk 98 1 = some (.invokestatic 114, 4, 140, 1, .null) := by decide +kernel
theorem x_98_1 : Tr sc (d + 1) 98 (1, [l0, l1], [.int i0], h) Q = Tr sc d 140 (ent0 140 [.int i0] h) (fun z => Tr sc (d + 1) 98 (4, [l0, l1], z.1.toList ++ [], z.2) Q) := t_cs (as := [.int i0]) (r := []) k_98_1 (by decide) rfl rfl (Nat.le_of_ble_eq_true rfl) (Nat.le_of_ble_eq_true rfl)
theorem k_98_4 : lk 98 4 = some (.ifCond .ne 5, 7, 9, 0, .null) := by decide +kernel
theorem x_98_4 : Tr sc d 98 (4, [l0, l1], [.int i0], h) Q = if i0 = 0 then Tr sc d 98 (7, [l0, l1], [], h) Q else Tr sc d 98 (9, [l0, l1], [], h) Q := t_if k_98_4 rfl
theorem k_98_7 : lk 98 7 = some (.iconst (-1), 8, 0, 0, .int (-1)) := by decide +kernel
theorem x_98_7 : Tr sc d 98 (7, [l0, l1], [], h) Q = Tr sc d 98 (8, [l0, l1], [.int (-1)], h) Q := t_go k_98_7 rfl
theorem k_98_8 : lk 98 8 = some (.ireturn, 9, 0, 0, .null) := by decide +kernel
theorem x_98_8 : Tr sc d 98 (8, [l0, l1], [.int i0], h) Q = Q (some (.int i0), h) := t_ret k_98_8 (by rw [r_98]; rfl)
theorem k_98_9 : lk 98 9 = some (.aload_n 0, 10, 0, 0, .null) := by decide +kernel
theorem x_98_9 : Tr sc d 98 (9, [some (.ref xk), l1], [], h) Q = Tr sc d 98 (10, [some (.ref xk), l1], [.ref xk], h) Q := t_aload_n k_98_9 rfl
theorem k_98_10 : lk 98 10 = some (.getfield 11, 13, 9, 0, .null) := by decide +kernel
theorem x_98_10 : Tr sc d 98 (10, [l0, l1], [.ref k0], h) Q = (okp h k0 9 = true ∧ ∃ q, hR h k0 0 = some q ∧ Tr sc d 98 (13, [l0, l1], [.ref q], h) Q) := t_getr k_98_10
theorem k_98_13 : lk 98 13 = some (.iload_n 1, 14, 1, 0, .null) := by decide +kernel
theorem x_98_13 : Tr sc d 98 (13, [l0, some (.int x)], [.ref k0], h) Q = Tr sc d 98 (14, [l0, some (.int x)], [.int x, .ref k0], h) Q := t_iload_n k_98_13 rfl
theorem k_98_14 : lk 98 14 = some (.aaload, 15, 0, 0, .null) := by decide +kernel
theorem x_98_14 : Tr sc d 98 (14, [l0, l1], [.int i1, .ref k0], h) Q = (((okp h k0 14 || okp h k0 15) && inb i1 (LN k0)) = true ∧ ∃ q, hR h k0 i1.toNatClampNeg = some q ∧ Tr sc d 98 (15, [l0, l1], [.ref q], h) Q) := t_aald k_98_14
theorem k_98_15 : lk 98 15 = some (.invokevirtual 125, 18, 42, 0, .null) := by decide +kernel
theorem x_98_15 : Tr sc (d + 1) 98 (15, [l0, l1], [.ref k0], h) Q = (okp h k0 5 = true ∧ Tr sc d 42 (ent0 42 [.ref k0] h) (fun z => Tr sc (d + 1) 98 (18, [l0, l1], z.1.toList ++ [], z.2) Q)) := t_cv (as := []) (r := []) k_98_15 rfl rfl (Nat.le_of_ble_eq_true rfl) (Nat.le_of_ble_eq_true rfl) (Nat.le_of_ble_eq_true rfl)
theorem k_98_18 : lk 98 18 = some (.ifCond .eq 9, 21, 27, 0, .null) := by decide +kernel
theorem x_98_18 : Tr sc d 98 (18, [l0, l1], [.int i0], h) Q = if i0 = 0 then Tr sc d 98 (27, [l0, l1], [], h) Q else Tr sc d 98 (21, [l0, l1], [], h) Q := t_if k_98_18 rfl
theorem k_98_21 : lk 98 21 = some (.aload_n 0, 22, 0, 0, .null) := by decide +kernel
theorem x_98_21 : Tr sc d 98 (21, [some (.ref xk), l1], [], h) Q = Tr sc d 98 (22, [some (.ref xk), l1], [.ref xk], h) Q := t_aload_n k_98_21 rfl
theorem k_98_22 : lk 98 22 = some (.iconst 1, 23, 0, 0, .int 1) := by decide +kernel
theorem x_98_22 : Tr sc d 98 (22, [l0, l1], [.ref k0], h) Q = Tr sc d 98 (23, [l0, l1], [.int 1, .ref k0], h) Q := t_go k_98_22 rfl
theorem k_98_23 : lk 98 23 = some (.invokevirtual 118, 26, 144, 1, .null) := by decide +kernel
theorem x_98_23 : Tr sc (d + 1) 98 (23, [l0, l1], [.int i1, .ref k0], h) Q = (okp h k0 9 = true ∧ Tr sc d 144 (ent0 144 [.ref k0, .int i1] h) (fun z => Tr sc (d + 1) 98 (26, [l0, l1], z.1.toList ++ [], z.2) Q)) := t_cv (as := [.int i1]) (r := []) k_98_23 rfl rfl (Nat.le_of_ble_eq_true rfl) (Nat.le_of_ble_eq_true rfl) (Nat.le_of_ble_eq_true rfl)
theorem k_98_26 : lk 98 26 = some (.ireturn, 27, 0, 0, .null) := by decide +kernel
theorem x_98_26 : Tr sc d 98 (26, [l0, l1], [.int i0], h) Q = Q (some (.int i0), h) := t_ret k_98_26 (by rw [r_98]; rfl)
theorem k_98_27 : lk 98 27 = some (.aload_n 0, 28, 0, 0, .null) := by decide +kernel
theorem x_98_27 : Tr sc d 98 (27, [some (.ref xk), l1], [], h) Q = Tr sc d 98 (28, [some (.ref xk), l1], [.ref xk], h) Q := t_aload_n k_98_27 rfl
theorem k_98_28 : lk 98 28 = some (.getfield 11, 31, 9, 0, .null) := by decide +kernel
theorem x_98_28 : Tr sc d 98 (28, [l0, l1], [.ref k0], h) Q = (okp h k0 9 = true ∧ ∃ q, hR h k0 0 = some q ∧ Tr sc d 98 (31, [l0, l1], [.ref q], h) Q) := t_getr k_98_28
theorem k_98_31 : lk 98 31 = some (.iload_n 1, 32, 1, 0, .null) := by decide +kernel
theorem x_98_31 : Tr sc d 98 (31, [l0, some (.int x)], [.ref k0], h) Q = Tr sc d 98 (32, [l0, some (.int x)], [.int x, .ref k0], h) Q := t_iload_n k_98_31 rfl
theorem k_98_32 : lk 98 32 = some (.aaload, 33, 0, 0, .null) := by decide +kernel
theorem x_98_32 : Tr sc d 98 (32, [l0, l1], [.int i1, .ref k0], h) Q = (((okp h k0 14 || okp h k0 15) && inb i1 (LN k0)) = true ∧ ∃ q, hR h k0 i1.toNatClampNeg = some q ∧ Tr sc d 98 (33, [l0, l1], [.ref q], h) Q) := t_aald k_98_32
theorem k_98_33 : lk 98 33 = some (.iconst (-1), 34, 0, 0, .int (-1)) := by decide +kernel
theorem x_98_33 : Tr sc d 98 (33, [l0, l1], [.ref k0], h) Q = Tr sc d 98 (34, [l0, l1], [.int (-1), .ref k0], h) Q := t_go k_98_33 rfl
theorem k_98_34 : lk 98 34 = some (.putfield 135, 37, 5, 1, .int 0) := by decide +kernel
theorem x_98_34 : Tr sc d 98 (34, [l0, l1], [.int i1, .ref k0], h) Q = (okp h k0 5 = true ∧ Tr sc d 98 (37, [l0, l1], [], (sI h k0 1 i1)) Q) := t_gd k_98_34 rfl
theorem k_98_37 : lk 98 37 = some (.iconst 1, 38, 0, 0, .int 1) := by decide +kernel
theorem x_98_37 : Tr sc d 98 (37, [l0, l1], [], h) Q = Tr sc d 98 (38, [l0, l1], [.int 1], h) Q := t_go k_98_37 rfl
theorem k_98_38 : lk 98 38 = some (.ireturn, 39, 0, 0, .null) := by decide +kernel
theorem x_98_38 : Tr sc d 98 (38, [l0, l1], [.int i0], h) Q = Q (some (.int i0), h) := t_ret k_98_38 (by rw [r_98]; rfl)
theorem e_98 : Tr sc d 98 (ent0 98 [.ref k0, .int i1] h) Q = Tr sc d 98 (0, [some (.ref k0), some (.int i1)], [], h) Q := by
  have e : mL 98 = 2 := by decide +kernel
  unfold ent0
  rw [e]
  rfl
theorem r_99 : mR 99 = some .int := by decide +kernel
theorem k_99_0 : lk 99 0 = some (.iload_n 1, 1, 1, 0, .null) := by decide +kernel
theorem x_99_0 : Tr sc d 99 (0, [l0, some (.int x), l2, l3, l4, l5], [], h) Q = Tr sc d 99 (1, [l0, some (.int x), l2, l3, l4, l5], [.int x], h) Q := t_iload_n k_99_0 rfl
theorem k_99_1 : lk 99 1 = some (.invokestatic 114, 4, 140, 1, .null) := by decide +kernel
theorem x_99_1 : Tr sc (d + 1) 99 (1, [l0, l1, l2, l3, l4, l5], [.int i0], h) Q = Tr sc d 140 (ent0 140 [.int i0] h) (fun z => Tr sc (d + 1) 99 (4, [l0, l1, l2, l3, l4, l5], z.1.toList ++ [], z.2) Q) := t_cs (as := [.int i0]) (r := []) k_99_1 (by decide) rfl rfl (Nat.le_of_ble_eq_true rfl) (Nat.le_of_ble_eq_true rfl)
theorem k_99_4 : lk 99 4 = some (.ifCond .eq 10, 7, 14, 0, .null) := by decide +kernel
theorem x_99_4 : Tr sc d 99 (4, [l0, l1, l2, l3, l4, l5], [.int i0], h) Q = if i0 = 0 then Tr sc d 99 (14, [l0, l1, l2, l3, l4, l5], [], h) Q else Tr sc d 99 (7, [l0, l1, l2, l3, l4, l5], [], h) Q := t_if k_99_4 rfl
theorem k_99_7 : lk 99 7 = some (.iload_n 3, 8, 3, 0, .null) := by decide +kernel
theorem x_99_7 : Tr sc d 99 (7, [l0, l1, l2, some (.int x), l4, l5], [], h) Q = Tr sc d 99 (8, [l0, l1, l2, some (.int x), l4, l5], [.int x], h) Q := t_iload_n k_99_7 rfl
theorem k_99_8 : lk 99 8 = some (.invokestatic 114, 11, 140, 1, .null) := by decide +kernel
theorem x_99_8 : Tr sc (d + 1) 99 (8, [l0, l1, l2, l3, l4, l5], [.int i0], h) Q = Tr sc d 140 (ent0 140 [.int i0] h) (fun z => Tr sc (d + 1) 99 (11, [l0, l1, l2, l3, l4, l5], z.1.toList ++ [], z.2) Q) := t_cs (as := [.int i0]) (r := []) k_99_8 (by decide) rfl rfl (Nat.le_of_ble_eq_true rfl) (Nat.le_of_ble_eq_true rfl)
theorem k_99_11 : lk 99 11 = some (.ifCond .ne 5, 14, 16, 0, .null) := by decide +kernel
theorem x_99_11 : Tr sc d 99 (11, [l0, l1, l2, l3, l4, l5], [.int i0], h) Q = if i0 = 0 then Tr sc d 99 (14, [l0, l1, l2, l3, l4, l5], [], h) Q else Tr sc d 99 (16, [l0, l1, l2, l3, l4, l5], [], h) Q := t_if k_99_11 rfl
theorem k_99_14 : lk 99 14 = some (.iconst (-1), 15, 0, 0, .int (-1)) := by decide +kernel
theorem x_99_14 : Tr sc d 99 (14, [l0, l1, l2, l3, l4, l5], [], h) Q = Tr sc d 99 (15, [l0, l1, l2, l3, l4, l5], [.int (-1)], h) Q := t_go k_99_14 rfl
theorem k_99_15 : lk 99 15 = some (.ireturn, 16, 0, 0, .null) := by decide +kernel
theorem x_99_15 : Tr sc d 99 (15, [l0, l1, l2, l3, l4, l5], [.int i0], h) Q = Q (some (.int i0), h) := t_ret k_99_15 (by rw [r_99]; rfl)
theorem k_99_16 : lk 99 16 = some (.iload 5, 18, 5, 0, .null) := by decide +kernel
theorem x_99_16 : Tr sc d 99 (16, [l0, l1, l2, l3, l4, some (.int x)], [], h) Q = Tr sc d 99 (18, [l0, l1, l2, l3, l4, some (.int x)], [.int x], h) Q := t_iload k_99_16 rfl
theorem k_99_18 : lk 99 18 = some (.ifCond .ge 9, 21, 27, 0, .null) := by decide +kernel
theorem x_99_18 : Tr sc d 99 (18, [l0, l1, l2, l3, l4, l5], [.int i0], h) Q = if 0 ≤ i0 then Tr sc d 99 (27, [l0, l1, l2, l3, l4, l5], [], h) Q else Tr sc d 99 (21, [l0, l1, l2, l3, l4, l5], [], h) Q := t_if k_99_18 rfl
theorem k_99_21 : lk 99 21 = some (.aload_n 0, 22, 0, 0, .null) := by decide +kernel
theorem x_99_21 : Tr sc d 99 (21, [some (.ref xk), l1, l2, l3, l4, l5], [], h) Q = Tr sc d 99 (22, [some (.ref xk), l1, l2, l3, l4, l5], [.ref xk], h) Q := t_aload_n k_99_21 rfl
theorem k_99_22 : lk 99 22 = some (.iconst 5, 23, 0, 0, .int 5) := by decide +kernel
theorem x_99_22 : Tr sc d 99 (22, [l0, l1, l2, l3, l4, l5], [.ref k0], h) Q = Tr sc d 99 (23, [l0, l1, l2, l3, l4, l5], [.int 5, .ref k0], h) Q := t_go k_99_22 rfl
theorem k_99_23 : lk 99 23 = some (.invokevirtual 118, 26, 144, 1, .null) := by decide +kernel
theorem x_99_23 : Tr sc (d + 1) 99 (23, [l0, l1, l2, l3, l4, l5], [.int i1, .ref k0], h) Q = (okp h k0 9 = true ∧ Tr sc d 144 (ent0 144 [.ref k0, .int i1] h) (fun z => Tr sc (d + 1) 99 (26, [l0, l1, l2, l3, l4, l5], z.1.toList ++ [], z.2) Q)) := t_cv (as := [.int i1]) (r := []) k_99_23 rfl rfl (Nat.le_of_ble_eq_true rfl) (Nat.le_of_ble_eq_true rfl) (Nat.le_of_ble_eq_true rfl)
theorem k_99_26 : lk 99 26 = some (.ireturn, 27, 0, 0, .null) := by decide +kernel
theorem x_99_26 : Tr sc d 99 (26, [l0, l1, l2, l3, l4, l5], [.int i0], h) Q = Q (some (.int i0), h) := t_ret k_99_26 (by rw [r_99]; rfl)
theorem k_99_27 : lk 99 27 = some (.aload_n 0, 28, 0, 0, .null) := by decide +kernel
theorem x_99_27 : Tr sc d 99 (27, [some (.ref xk), l1, l2, l3, l4, l5], [], h) Q = Tr sc d 99 (28, [some (.ref xk), l1, l2, l3, l4, l5], [.ref xk], h) Q := t_aload_n k_99_27 rfl
theorem k_99_28 : lk 99 28 = some (.getfield 11, 31, 9, 0, .null) := by decide +kernel
theorem x_99_28 : Tr sc d 99 (28, [l0, l1, l2, l3, l4, l5], [.ref k0], h) Q = (okp h k0 9 = true ∧ ∃ q, hR h k0 0 = some q ∧ Tr sc d 99 (31, [l0, l1, l2, l3, l4, l5], [.ref q], h) Q) := t_getr k_99_28
theorem k_99_31 : lk 99 31 = some (.iload_n 1, 32, 1, 0, .null) := by decide +kernel
theorem x_99_31 : Tr sc d 99 (31, [l0, some (.int x), l2, l3, l4, l5], [.ref k0], h) Q = Tr sc d 99 (32, [l0, some (.int x), l2, l3, l4, l5], [.int x, .ref k0], h) Q := t_iload_n k_99_31 rfl
theorem k_99_32 : lk 99 32 = some (.aaload, 33, 0, 0, .null) := by decide +kernel
theorem x_99_32 : Tr sc d 99 (32, [l0, l1, l2, l3, l4, l5], [.int i1, .ref k0], h) Q = (((okp h k0 14 || okp h k0 15) && inb i1 (LN k0)) = true ∧ ∃ q, hR h k0 i1.toNatClampNeg = some q ∧ Tr sc d 99 (33, [l0, l1, l2, l3, l4, l5], [.ref q], h) Q) := t_aald k_99_32
theorem k_99_33 : lk 99 33 = some (.invokevirtual 125, 36, 42, 0, .null) := by decide +kernel
theorem x_99_33 : Tr sc (d + 1) 99 (33, [l0, l1, l2, l3, l4, l5], [.ref k0], h) Q = (okp h k0 5 = true ∧ Tr sc d 42 (ent0 42 [.ref k0] h) (fun z => Tr sc (d + 1) 99 (36, [l0, l1, l2, l3, l4, l5], z.1.toList ++ [], z.2) Q)) := t_cv (as := []) (r := []) k_99_33 rfl rfl (Nat.le_of_ble_eq_true rfl) (Nat.le_of_ble_eq_true rfl) (Nat.le_of_ble_eq_true rfl)
theorem k_99_36 : lk 99 36 = some (.ifCond .ne 15, 39, 51, 0, .null) := by decide +kernel
theorem x_99_36 : Tr sc d 99 (36, [l0, l1, l2, l3, l4, l5], [.int i0], h) Q = if i0 = 0 then Tr sc d 99 (39, [l0, l1, l2, l3, l4, l5], [], h) Q else Tr sc d 99 (51, [l0, l1, l2, l3, l4, l5], [], h) Q := t_if k_99_36 rfl
theorem k_99_39 : lk 99 39 = some (.aload_n 0, 40, 0, 0, .null) := by decide +kernel
theorem x_99_39 : Tr sc d 99 (39, [some (.ref xk), l1, l2, l3, l4, l5], [], h) Q = Tr sc d 99 (40, [some (.ref xk), l1, l2, l3, l4, l5], [.ref xk], h) Q := t_aload_n k_99_39 rfl
theorem k_99_40 : lk 99 40 = some (.getfield 11, 43, 9, 0, .null) := by decide +kernel
theorem x_99_40 : Tr sc d 99 (40, [l0, l1, l2, l3, l4, l5], [.ref k0], h) Q = (okp h k0 9 = true ∧ ∃ q, hR h k0 0 = some q ∧ Tr sc d 99 (43, [l0, l1, l2, l3, l4, l5], [.ref q], h) Q) := t_getr k_99_40
theorem k_99_43 : lk 99 43 = some (.iload_n 3, 44, 3, 0, .null) := by decide +kernel
theorem x_99_43 : Tr sc d 99 (43, [l0, l1, l2, some (.int x), l4, l5], [.ref k0], h) Q = Tr sc d 99 (44, [l0, l1, l2, some (.int x), l4, l5], [.int x, .ref k0], h) Q := t_iload_n k_99_43 rfl
theorem k_99_44 : lk 99 44 = some (.aaload, 45, 0, 0, .null) := by decide +kernel
theorem x_99_44 : Tr sc d 99 (44, [l0, l1, l2, l3, l4, l5], [.int i1, .ref k0], h) Q = (((okp h k0 14 || okp h k0 15) && inb i1 (LN k0)) = true ∧ ∃ q, hR h k0 i1.toNatClampNeg = some q ∧ Tr sc d 99 (45, [l0, l1, l2, l3, l4, l5], [.ref q], h) Q) := t_aald k_99_44
theorem k_99_45 : lk 99 45 = some (.invokevirtual 125, 48, 42, 0, .null) := by decide +kernel
theorem x_99_45 : Tr sc (d + 1) 99 (45, [l0, l1, l2, l3, l4, l5], [.ref k0], h) Q = (okp h k0 5 = true ∧ Tr sc d 42 (ent0 42 [.ref k0] h) (fun z => Tr sc (d + 1) 99 (48, [l0, l1, l2, l3, l4, l5], z.1.toList ++ [], z.2) Q)) := t_cv (as := []) (r := []) k_99_45 rfl rfl (Nat.le_of_ble_eq_true rfl) (Nat.le_of_ble_eq_true rfl) (Nat.le_of_ble_eq_true rfl)
theorem k_99_48 : lk 99 48 = some (.ifCond .eq 9, 51, 57, 0, .null) := by decide +kernel
theorem x_99_48 : Tr sc d 99 (48, [l0, l1, l2, l3, l4, l5], [.int i0], h) Q = if i0 = 0 then Tr sc d 99 (57, [l0, l1, l2, l3, l4, l5], [], h) Q else Tr sc d 99 (51, [l0, l1, l2, l3, l4, l5], [], h) Q := t_if k_99_48 rfl
theorem k_99_51 : lk 99 51 = some (.aload_n 0, 52, 0, 0, .null) := by decide +kernel
theorem x_99_51 : Tr sc d 99 (51, [some (.ref xk), l1, l2, l3, l4, l5], [], h) Q = Tr sc d 99 (52, [some (.ref xk), l1, l2, l3, l4, l5], [.ref xk], h) Q := t_aload_n k_99_51 rfl
theorem k_99_52 : lk 99 52 = some (.iconst 1, 53, 0, 0, .int 1) := by decide +kernel
theorem x_99_52 : Tr sc d 99 (52, [l0, l1, l2, l3, l4, l5], [.ref k0], h) Q = Tr sc d 99 (53, [l0, l1, l2, l3, l4, l5], [.int 1, .ref k0], h) Q := t_go k_99_52 rfl
theorem k_99_53 : lk 99 53 = some (.invokevirtual 118, 56, 144, 1, .null) := by decide +kernel
theorem x_99_53 : Tr sc (d + 1) 99 (53, [l0, l1, l2, l3, l4, l5], [.int i1, .ref k0], h) Q = (okp h k0 9 = true ∧ Tr sc d 144 (ent0 144 [.ref k0, .int i1] h) (fun z => Tr sc (d + 1) 99 (56, [l0, l1, l2, l3, l4, l5], z.1.toList ++ [], z.2) Q)) := t_cv (as := [.int i1]) (r := []) k_99_53 rfl rfl (Nat.le_of_ble_eq_true rfl) (Nat.le_of_ble_eq_true rfl) (Nat.le_of_ble_eq_true rfl)
theorem k_99_56 : lk 99 56 = some (.ireturn, 57, 0, 0, .null) := by decide +kernel
theorem x_99_56 : Tr sc d 99 (56, [l0, l1, l2, l3, l4, l5], [.int i0], h) Q = Q (some (.int i0), h) := t_ret k_99_56 (by rw [r_99]; rfl)
theorem k_99_57 : lk 99 57 = some (.aload_n 0, 58, 0, 0, .null) := by decide +kernel
theorem x_99_57 : Tr sc d 99 (57, [some (.ref xk), l1, l2, l3, l4, l5], [], h) Q = Tr sc d 99 (58, [some (.ref xk), l1, l2, l3, l4, l5], [.ref xk], h) Q := t_aload_n k_99_57 rfl
theorem k_99_58 : lk 99 58 = some (.getfield 11, 61, 9, 0, .null) := by decide +kernel
theorem x_99_58 : Tr sc d 99 (58, [l0, l1, l2, l3, l4, l5], [.ref k0], h) Q = (okp h k0 9 = true ∧ ∃ q, hR h k0 0 = some q ∧ Tr sc d 99 (61, [l0, l1, l2, l3, l4, l5], [.ref q], h) Q) := t_getr k_99_58
theorem k_99_61 : lk 99 61 = some (.iload_n 1, 62, 1, 0, .null) := by decide +kernel
theorem x_99_61 : Tr sc d 99 (61, [l0, some (.int x), l2, l3, l4, l5], [.ref k0], h) Q = Tr sc d 99 (62, [l0, some (.int x), l2, l3, l4, l5], [.int x, .ref k0], h) Q := t_iload_n k_99_61 rfl
theorem k_99_62 : lk 99 62 = some (.aaload, 63, 0, 0, .null) := by decide +kernel
theorem x_99_62 : Tr sc d 99 (62, [l0, l1, l2, l3, l4, l5], [.int i1, .ref k0], h) Q = (((okp h k0 14 || okp h k0 15) && inb i1 (LN k0)) = true ∧ ∃ q, hR h k0 i1.toNatClampNeg = some q ∧ Tr sc d 99 (63, [l0, l1, l2, l3, l4, l5], [.ref q], h) Q) := t_aald k_99_62
theorem k_99_63 : lk 99 63 = some (.iload_n 2, 64, 2, 0, .null) := by decide +kernel
theorem x_99_63 : Tr sc d 99 (63, [l0, l1, some (.int x), l3, l4, l5], [.ref k0], h) Q = Tr sc d 99 (64, [l0, l1, some (.int x), l3, l4, l5], [.int x, .ref k0], h) Q := t_iload_n k_99_63 rfl
theorem k_99_64 : lk 99 64 = some (.iload 5, 66, 5, 0, .null) := by decide +kernel
theorem x_99_64 : Tr sc d 99 (64, [l0, l1, l2, l3, l4, some (.int x)], [.int i1, .ref k0], h) Q = Tr sc d 99 (66, [l0, l1, l2, l3, l4, some (.int x)], [.int x, .int i1, .ref k0], h) Q := t_iload k_99_64 rfl
theorem k_99_66 : lk 99 66 = some (.invokevirtual 138, 69, 44, 2, .null) := by decide +kernel
theorem x_99_66 : Tr sc (d + 1) 99 (66, [l0, l1, l2, l3, l4, l5], [.int i2, .int i1, .ref k0], h) Q = (okp h k0 5 = true ∧ Tr sc d 44 (ent0 44 [.ref k0, .int i1, .int i2] h) (fun z => Tr sc (d + 1) 99 (69, [l0, l1, l2, l3, l4, l5], z.1.toList ++ [], z.2) Q)) := t_cv (as := [.int i1, .int i2]) (r := []) k_99_66 rfl rfl (Nat.le_of_ble_eq_true rfl) (Nat.le_of_ble_eq_true rfl) (Nat.le_of_ble_eq_true rfl)
theorem k_99_69 : lk 99 69 = some (.ifCond .eq 19, 72, 88, 0, .null) := by decide +kernel
theorem x_99_69 : Tr sc d 99 (69, [l0, l1, l2, l3, l4, l5], [.int i0], h) Q = if i0 = 0 then Tr sc d 99 (88, [l0, l1, l2, l3, l4, l5], [], h) Q else Tr sc d 99 (72, [l0, l1, l2, l3, l4, l5], [], h) Q := t_if k_99_69 rfl
theorem k_99_72 : lk 99 72 = some (.aload_n 0, 73, 0, 0, .null) := by decide +kernel
theorem x_99_72 : Tr sc d 99 (72, [some (.ref xk), l1, l2, l3, l4, l5], [], h) Q = Tr sc d 99 (73, [some (.ref xk), l1, l2, l3, l4, l5], [.ref xk], h) Q := t_aload_n k_99_72 rfl
theorem k_99_73 : lk 99 73 = some (.getfield 11, 76, 9, 0, .null) := by decide +kernel
theorem x_99_73 : Tr sc d 99 (73, [l0, l1, l2, l3, l4, l5], [.ref k0], h) Q = (okp h k0 9 = true ∧ ∃ q, hR h k0 0 = some q ∧ Tr sc d 99 (76, [l0, l1, l2, l3, l4, l5], [.ref q], h) Q) := t_getr k_99_73
theorem k_99_76 : lk 99 76 = some (.iload_n 3, 77, 3, 0, .null) := by decide +kernel
theorem x_99_76 : Tr sc d 99 (76, [l0, l1, l2, some (.int x), l4, l5], [.ref k0], h) Q = Tr sc d 99 (77, [l0, l1, l2, some (.int x), l4, l5], [.int x, .ref k0], h) Q := t_iload_n k_99_76 rfl
theorem k_99_77 : lk 99 77 = some (.aaload, 78, 0, 0, .null) := by decide +kernel
theorem x_99_77 : Tr sc d 99 (77, [l0, l1, l2, l3, l4, l5], [.int i1, .ref k0], h) Q = (((okp h k0 14 || okp h k0 15) && inb i1 (LN k0)) = true ∧ ∃ q, hR h k0 i1.toNatClampNeg = some q ∧ Tr sc d 99 (78, [l0, l1, l2, l3, l4, l5], [.ref q], h) Q) := t_aald k_99_77
theorem k_99_78 : lk 99 78 = some (.iload 4, 80, 4, 0, .null) := by decide +kernel
theorem x_99_78 : Tr sc d 99 (78, [l0, l1, l2, l3, some (.int x), l5], [.ref k0], h) Q = Tr sc d 99 (80, [l0, l1, l2, l3, some (.int x), l5], [.int x, .ref k0], h) Q := t_iload k_99_78 rfl
theorem k_99_80 : lk 99 80 = some (.iload 5, 82, 5, 0, .null) := by decide +kernel
theorem x_99_80 : Tr sc d 99 (80, [l0, l1, l2, l3, l4, some (.int x)], [.int i1, .ref k0], h) Q = Tr sc d 99 (82, [l0, l1, l2, l3, l4, some (.int x)], [.int x, .int i1, .ref k0], h) Q := t_iload k_99_80 rfl
theorem k_99_82 : lk 99 82 = some (.invokevirtual 138, 85, 44, 2, .null) := by decide +kernel
theorem x_99_82 : Tr sc (d + 1) 99 (82, [l0, l1, l2, l3, l4, l5], [.int i2, .int i1, .ref k0], h) Q = (okp h k0 5 = true ∧ Tr sc d 44 (ent0 44 [.ref k0, .int i1, .int i2] h) (fun z => Tr sc (d + 1) 99 (85, [l0, l1, l2, l3, l4, l5], z.1.toList ++ [], z.2) Q)) := t_cv (as := [.int i1, .int i2]) (r := []) k_99_82 rfl rfl (Nat.le_of_ble_eq_true rfl) (Nat.le_of_ble_eq_true rfl) (Nat.le_of_ble_eq_true rfl)
theorem k_99_85 : lk 99 85 = some (.ifCond .ne 9, 88, 94, 0, .null) := by decide +kernel
theorem x_99_85 : Tr sc d 99 (85, [l0, l1, l2, l3, l4, l5], [.int i0], h) Q = if i0 = 0 then Tr sc d 99 (88, [l0, l1, l2, l3, l4, l5], [], h) Q else Tr sc d 99 (94, [l0, l1, l2, l3, l4, l5], [], h) Q := t_if k_99_85 rfl
theorem k_99_88 : lk 99 88 = some (.aload_n 0, 89, 0, 0, .null) := by decide +kernel
theorem x_99_88 : Tr sc d 99 (88, [some (.ref xk), l1, l2, l3, l4, l5], [], h) Q = Tr sc d 99 (89, [some (.ref xk), l1, l2, l3, l4, l5], [.ref xk], h) Q := t_aload_n k_99_88 rfl
theorem k_99_89 : lk 99 89 = some (.iconst 2, 90, 0, 0, .int 2) := by decide +kernel
theorem x_99_89 : Tr sc d 99 (89, [l0, l1, l2, l3, l4, l5], [.ref k0], h) Q = Tr sc d 99 (90, [l0, l1, l2, l3, l4, l5], [.int 2, .ref k0], h) Q := t_go k_99_89 rfl
theorem k_99_90 : lk 99 90 = some (.invokevirtual 118, 93, 144, 1, .null) := by decide +kernel
theorem x_99_90 : Tr sc (d + 1) 99 (90, [l0, l1, l2, l3, l4, l5], [.int i1, .ref k0], h) Q = (okp h k0 9 = true ∧ Tr sc d 144 (ent0 144 [.ref k0, .int i1] h) (fun z => Tr sc (d + 1) 99 (93, [l0, l1, l2, l3, l4, l5], z.1.toList ++ [], z.2) Q)) := t_cv (as := [.int i1]) (r := []) k_99_90 rfl rfl (Nat.le_of_ble_eq_true rfl) (Nat.le_of_ble_eq_true rfl) (Nat.le_of_ble_eq_true rfl)
theorem k_99_93 : lk 99 93 = some (.ireturn, 94, 0, 0, .null) := by decide +kernel
theorem x_99_93 : Tr sc d 99 (93, [l0, l1, l2, l3, l4, l5], [.int i0], h) Q = Q (some (.int i0), h) := t_ret k_99_93 (by rw [r_99]; rfl)
theorem k_99_94 : lk 99 94 = some (.aload_n 0, 95, 0, 0, .null) := by decide +kernel
theorem x_99_94 : Tr sc d 99 (94, [some (.ref xk), l1, l2, l3, l4, l5], [], h) Q = Tr sc d 99 (95, [some (.ref xk), l1, l2, l3, l4, l5], [.ref xk], h) Q := t_aload_n k_99_94 rfl
theorem k_99_95 : lk 99 95 = some (.getfield 11, 98, 9, 0, .null) := by decide +kernel
theorem x_99_95 : Tr sc d 99 (95, [l0, l1, l2, l3, l4, l5], [.ref k0], h) Q = (okp h k0 9 = true ∧ ∃ q, hR h k0 0 = some q ∧ Tr sc d 99 (98, [l0, l1, l2, l3, l4, l5], [.ref q], h) Q) := t_getr k_99_95
theorem k_99_98 : lk 99 98 = some (.iload_n 1, 99, 1, 0, .null) := by decide +kernel
theorem x_99_98 : Tr sc d 99 (98, [l0, some (.int x), l2, l3, l4, l5], [.ref k0], h) Q = Tr sc d 99 (99, [l0, some (.int x), l2, l3, l4, l5], [.int x, .ref k0], h) Q := t_iload_n k_99_98 rfl
theorem k_99_99 : lk 99 99 = some (.aaload, 100, 0, 0, .null) := by decide +kernel
theorem x_99_99 : Tr sc d 99 (99, [l0, l1, l2, l3, l4, l5], [.int i1, .ref k0], h) Q = (((okp h k0 14 || okp h k0 15) && inb i1 (LN k0)) = true ∧ ∃ q, hR h k0 i1.toNatClampNeg = some q ∧ Tr sc d 99 (100, [l0, l1, l2, l3, l4, l5], [.ref q], h) Q) := t_aald k_99_99
theorem k_99_100 : lk 99 100 = some (.getfield 132, 103, 5, 0, .null) := by decide +kernel
theorem x_99_100 : Tr sc d 99 (100, [l0, l1, l2, l3, l4, l5], [.ref k0], h) Q = (okp h k0 5 = true ∧ ∃ q, hR h k0 0 = some q ∧ Tr sc d 99 (103, [l0, l1, l2, l3, l4, l5], [.ref q], h) Q) := t_getr k_99_100
theorem k_99_103 : lk 99 103 = some (.iload_n 2, 104, 2, 0, .null) := by decide +kernel
theorem x_99_103 : Tr sc d 99 (103, [l0, l1, some (.int x), l3, l4, l5], [.ref k0], h) Q = Tr sc d 99 (104, [l0, l1, some (.int x), l3, l4, l5], [.int x, .ref k0], h) Q := t_iload_n k_99_103 rfl
theorem k_99_104 : lk 99 104 = some (.aload_n 0, 105, 0, 0, .null) := by decide +kernel
theorem x_99_104 : Tr sc d 99 (104, [some (.ref xk), l1, l2, l3, l4, l5], [.int i1, .ref k0], h) Q = Tr sc d 99 (105, [some (.ref xk), l1, l2, l3, l4, l5], [.ref xk, .int i1, .ref k0], h) Q := t_aload_n k_99_104 rfl
theorem k_99_105 : lk 99 105 = some (.getfield 11, 108, 9, 0, .null) := by decide +kernel
theorem x_99_105 : Tr sc d 99 (105, [l0, l1, l2, l3, l4, l5], [.ref k2, .int i1, .ref k0], h) Q = (okp h k2 9 = true ∧ ∃ q, hR h k2 0 = some q ∧ Tr sc d 99 (108, [l0, l1, l2, l3, l4, l5], [.ref q, .int i1, .ref k0], h) Q) := t_getr k_99_105
theorem k_99_108 : lk 99 108 = some (.iload_n 3, 109, 3, 0, .null) := by decide +kernel
theorem x_99_108 : Tr sc d 99 (108, [l0, l1, l2, some (.int x), l4, l5], [.ref k2, .int i1, .ref k0], h) Q = Tr sc d 99 (109, [l0, l1, l2, some (.int x), l4, l5], [.int x, .ref k2, .int i1, .ref k0], h) Q := t_iload_n k_99_108 rfl
theorem k_99_109 : lk 99 109 = some (.aaload, 110, 0, 0, .null) := by decide +kernel
theorem x_99_109 : Tr sc d 99 (109, [l0, l1, l2, l3, l4, l5], [.int i3, .ref k2, .int i1, .ref k0], h) Q = (((okp h k2 14 || okp h k2 15) && inb i3 (LN k2)) = true ∧ ∃ q, hR h k2 i3.toNatClampNeg = some q ∧ Tr sc d 99 (110, [l0, l1, l2, l3, l4, l5], [.ref q, .int i1, .ref k0], h) Q) := t_aald k_99_109
theorem k_99_110 : lk 99 110 = some (.getfield 132, 113, 5, 0, .null) := by decide +kernel
theorem x_99_110 : Tr sc d 99 (110, [l0, l1, l2, l3, l4, l5], [.ref k2, .int i1, .ref k0], h) Q = (okp h k2 5 = true ∧ ∃ q, hR h k2 0 = some q ∧ Tr sc d 99 (113, [l0, l1, l2, l3, l4, l5], [.ref q, .int i1, .ref k0], h) Q) := t_getr k_99_110
theorem k_99_113 : lk 99 113 = some (.iload 4, 115, 4, 0, .null) := by decide +kernel
theorem x_99_113 : Tr sc d 99 (113, [l0, l1, l2, l3, some (.int x), l5], [.ref k2, .int i1, .ref k0], h) Q = Tr sc d 99 (115, [l0, l1, l2, l3, some (.int x), l5], [.int x, .ref k2, .int i1, .ref k0], h) Q := t_iload k_99_113 rfl
theorem k_99_115 : lk 99 115 = some (.iload 5, 117, 5, 0, .null) := by decide +kernel
theorem x_99_115 : Tr sc d 99 (115, [l0, l1, l2, l3, l4, some (.int x)], [.int i3, .ref k2, .int i1, .ref k0], h) Q = Tr sc d 99 (117, [l0, l1, l2, l3, l4, some (.int x)], [.int x, .int i3, .ref k2, .int i1, .ref k0], h) Q := t_iload k_99_115 rfl
theorem k_99_117 : lk 99 117 = some (.invokestatic 142, 120, 9001, 0, .null) := by decide +kernel
theorem x_99_117 : Tr sc d 99 (117, [l0, l1, l2, l3, l4, l5], [.int i4, .int i3, .ref k2, .int i1, .ref k0], h) Q = (((¬ i1 < 0) ∧ (¬ i3 < 0) ∧ (¬ i4 < 0) ∧ i1.toNatClampNeg + i4.toNatClampNeg ≤ LN k0 ∧ i3.toNatClampNeg + i4.toNatClampNeg ≤ LN k2 ∧ catS [] ≤ 8) ∧ if (okp h k0 11 && okp h k2 11) = true then Tr sc d 99 (120, [l0, l1, l2, l3, l4, l5], [], aI h k2 (va_cpy (hI h k0) (hI h k2) i1.toNatClampNeg i3.toNatClampNeg i4.toNatClampNeg)) Q else ((okp h k0 12 && okp h k2 12) = true ∧ Tr sc d 99 (120, [l0, l1, l2, l3, l4, l5], [], aL h k2 (va_cpy (hL h k0) (hL h k2) i1.toNatClampNeg i3.toNatClampNeg i4.toNatClampNeg)) Q)) := t_copy k_99_117
theorem k_99_120 : lk 99 120 = some (.iconst 1, 121, 0, 0, .int 1) := by decide +kernel
theorem x_99_120 : Tr sc d 99 (120, [l0, l1, l2, l3, l4, l5], [], h) Q = Tr sc d 99 (121, [l0, l1, l2, l3, l4, l5], [.int 1], h) Q := t_go k_99_120 rfl
theorem k_99_121 : lk 99 121 = some (.ireturn, 122, 0, 0, .null) := by decide +kernel
theorem x_99_121 : Tr sc d 99 (121, [l0, l1, l2, l3, l4, l5], [.int i0], h) Q = Q (some (.int i0), h) := t_ret k_99_121 (by rw [r_99]; rfl)
theorem e_99 : Tr sc d 99 (ent0 99 [.ref k0, .int i1, .int i2, .int i3, .int i4, .int i5] h) Q = Tr sc d 99 (0, [some (.ref k0), some (.int i1), some (.int i2), some (.int i3), some (.int i4), some (.int i5)], [], h) Q := by
  have e : mL 99 = 6 := by decide +kernel
  unfold ent0
  rw [e]
  rfl
theorem r_100 : mR 100 = some .int := by decide +kernel
theorem k_100_0 : lk 100 0 = some (.iload_n 1, 1, 1, 0, .null) := by decide +kernel
theorem x_100_0 : Tr sc d 100 (0, [l0, some (.int x)], [], h) Q = Tr sc d 100 (1, [l0, some (.int x)], [.int x], h) Q := t_iload_n k_100_0 rfl
theorem k_100_1 : lk 100 1 = some (.invokestatic 114, 4, 140, 1, .null) := by decide +kernel
theorem x_100_1 : Tr sc (d + 1) 100 (1, [l0, l1], [.int i0], h) Q = Tr sc d 140 (ent0 140 [.int i0] h) (fun z => Tr sc (d + 1) 100 (4, [l0, l1], z.1.toList ++ [], z.2) Q) := t_cs (as := [.int i0]) (r := []) k_100_1 (by decide) rfl rfl (Nat.le_of_ble_eq_true rfl) (Nat.le_of_ble_eq_true rfl)
theorem k_100_4 : lk 100 4 = some (.ifCond .ne 5, 7, 9, 0, .null) := by decide +kernel
theorem x_100_4 : Tr sc d 100 (4, [l0, l1], [.int i0], h) Q = if i0 = 0 then Tr sc d 100 (7, [l0, l1], [], h) Q else Tr sc d 100 (9, [l0, l1], [], h) Q := t_if k_100_4 rfl
theorem k_100_7 : lk 100 7 = some (.iconst (-1), 8, 0, 0, .int (-1)) := by decide +kernel
theorem x_100_7 : Tr sc d 100 (7, [l0, l1], [], h) Q = Tr sc d 100 (8, [l0, l1], [.int (-1)], h) Q := t_go k_100_7 rfl
theorem k_100_8 : lk 100 8 = some (.ireturn, 9, 0, 0, .null) := by decide +kernel
theorem x_100_8 : Tr sc d 100 (8, [l0, l1], [.int i0], h) Q = Q (some (.int i0), h) := t_ret k_100_8 (by rw [r_100]; rfl)
theorem k_100_9 : lk 100 9 = some (.aload_n 0, 10, 0, 0, .null) := by decide +kernel
theorem x_100_9 : Tr sc d 100 (9, [some (.ref xk), l1], [], h) Q = Tr sc d 100 (10, [some (.ref xk), l1], [.ref xk], h) Q := t_aload_n k_100_9 rfl
theorem k_100_10 : lk 100 10 = some (.getfield 11, 13, 9, 0, .null) := by decide +kernel
theorem x_100_10 : Tr sc d 100 (10, [l0, l1], [.ref k0], h) Q = (okp h k0 9 = true ∧ ∃ q, hR h k0 0 = some q ∧ Tr sc d 100 (13, [l0, l1], [.ref q], h) Q) := t_getr k_100_10
theorem k_100_13 : lk 100 13 = some (.iload_n 1, 14, 1, 0, .null) := by decide +kernel
theorem x_100_13 : Tr sc d 100 (13, [l0, some (.int x)], [.ref k0], h) Q = Tr sc d 100 (14, [l0, some (.int x)], [.int x, .ref k0], h) Q := t_iload_n k_100_13 rfl
theorem k_100_14 : lk 100 14 = some (.aaload, 15, 0, 0, .null) := by decide +kernel
theorem x_100_14 : Tr sc d 100 (14, [l0, l1], [.int i1, .ref k0], h) Q = (((okp h k0 14 || okp h k0 15) && inb i1 (LN k0)) = true ∧ ∃ q, hR h k0 i1.toNatClampNeg = some q ∧ Tr sc d 100 (15, [l0, l1], [.ref q], h) Q) := t_aald k_100_14
theorem k_100_15 : lk 100 15 = some (.invokevirtual 125, 18, 42, 0, .null) := by decide +kernel
theorem x_100_15 : Tr sc (d + 1) 100 (15, [l0, l1], [.ref k0], h) Q = (okp h k0 5 = true ∧ Tr sc d 42 (ent0 42 [.ref k0] h) (fun z => Tr sc (d + 1) 100 (18, [l0, l1], z.1.toList ++ [], z.2) Q)) := t_cv (as := []) (r := []) k_100_15 rfl rfl (Nat.le_of_ble_eq_true rfl) (Nat.le_of_ble_eq_true rfl) (Nat.le_of_ble_eq_true rfl)
theorem k_100_18 : lk 100 18 = some (.ifCond .eq 9, 21, 27, 0, .null) := by decide +kernel
theorem x_100_18 : Tr sc d 100 (18, [l0, l1], [.int i0], h) Q = if i0 = 0 then Tr sc d 100 (27, [l0, l1], [], h) Q else Tr sc d 100 (21, [l0, l1], [], h) Q := t_if k_100_18 rfl
theorem k_100_21 : lk 100 21 = some (.aload_n 0, 22, 0, 0, .null) := by decide +kernel
theorem x_100_21 : Tr sc d 100 (21, [some (.ref xk), l1], [], h) Q = Tr sc d 100 (22, [some (.ref xk), l1], [.ref xk], h) Q := t_aload_n k_100_21 rfl
theorem k_100_22 : lk 100 22 = some (.iconst 1, 23, 0, 0, .int 1) := by decide +kernel
theorem x_100_22 : Tr sc d 100 (22, [l0, l1], [.ref k0], h) Q = Tr sc d 100 (23, [l0, l1], [.int 1, .ref k0], h) Q := t_go k_100_22 rfl
theorem k_100_23 : lk 100 23 = some (.invokevirtual 118, 26, 144, 1, .null) := by decide +kernel
theorem x_100_23 : Tr sc (d + 1) 100 (23, [l0, l1], [.int i1, .ref k0], h) Q = (okp h k0 9 = true ∧ Tr sc d 144 (ent0 144 [.ref k0, .int i1] h) (fun z => Tr sc (d + 1) 100 (26, [l0, l1], z.1.toList ++ [], z.2) Q)) := t_cv (as := [.int i1]) (r := []) k_100_23 rfl rfl (Nat.le_of_ble_eq_true rfl) (Nat.le_of_ble_eq_true rfl) (Nat.le_of_ble_eq_true rfl)
theorem k_100_26 : lk 100 26 = some (.ireturn, 27, 0, 0, .null) := by decide +kernel
theorem x_100_26 : Tr sc d 100 (26, [l0, l1], [.int i0], h) Q = Q (some (.int i0), h) := t_ret k_100_26 (by rw [r_100]; rfl)
theorem k_100_27 : lk 100 27 = some (.aload_n 0, 28, 0, 0, .null) := by decide +kernel
theorem x_100_27 : Tr sc d 100 (27, [some (.ref xk), l1], [], h) Q = Tr sc d 100 (28, [some (.ref xk), l1], [.ref xk], h) Q := t_aload_n k_100_27 rfl
theorem k_100_28 : lk 100 28 = some (.getfield 11, 31, 9, 0, .null) := by decide +kernel
theorem x_100_28 : Tr sc d 100 (28, [l0, l1], [.ref k0], h) Q = (okp h k0 9 = true ∧ ∃ q, hR h k0 0 = some q ∧ Tr sc d 100 (31, [l0, l1], [.ref q], h) Q) := t_getr k_100_28
theorem k_100_31 : lk 100 31 = some (.iload_n 1, 32, 1, 0, .null) := by decide +kernel
theorem x_100_31 : Tr sc d 100 (31, [l0, some (.int x)], [.ref k0], h) Q = Tr sc d 100 (32, [l0, some (.int x)], [.int x, .ref k0], h) Q := t_iload_n k_100_31 rfl
theorem k_100_32 : lk 100 32 = some (.aaload, 33, 0, 0, .null) := by decide +kernel
theorem x_100_32 : Tr sc d 100 (32, [l0, l1], [.int i1, .ref k0], h) Q = (((okp h k0 14 || okp h k0 15) && inb i1 (LN k0)) = true ∧ ∃ q, hR h k0 i1.toNatClampNeg = some q ∧ Tr sc d 100 (33, [l0, l1], [.ref q], h) Q) := t_aald k_100_32
theorem k_100_33 : lk 100 33 = some (.getfield 135, 36, 5, 1, .int 0) := by decide +kernel
theorem x_100_33 : Tr sc d 100 (33, [l0, l1], [.ref k0], h) Q = (okp h k0 5 = true ∧ Tr sc d 100 (36, [l0, l1], [.int (hI h k0 1)], h) Q) := t_gd k_100_33 rfl
theorem k_100_36 : lk 100 36 = some (.ifCond .ne 9, 39, 45, 0, .null) := by decide +kernel
theorem x_100_36 : Tr sc d 100 (36, [l0, l1], [.int i0], h) Q = if i0 = 0 then Tr sc d 100 (39, [l0, l1], [], h) Q else Tr sc d 100 (45, [l0, l1], [], h) Q := t_if k_100_36 rfl
theorem k_100_39 : lk 100 39 = some (.aload_n 0, 40, 0, 0, .null) := by decide +kernel
theorem x_100_39 : Tr sc d 100 (39, [some (.ref xk), l1], [], h) Q = Tr sc d 100 (40, [some (.ref xk), l1], [.ref xk], h) Q := t_aload_n k_100_39 rfl
theorem k_100_40 : lk 100 40 = some (.iconst 4, 41, 0, 0, .int 4) := by decide +kernel
theorem x_100_40 : Tr sc d 100 (40, [l0, l1], [.ref k0], h) Q = Tr sc d 100 (41, [l0, l1], [.int 4, .ref k0], h) Q := t_go k_100_40 rfl
theorem k_100_41 : lk 100 41 = some (.invokevirtual 118, 44, 144, 1, .null) := by decide +kernel
theorem x_100_41 : Tr sc (d + 1) 100 (41, [l0, l1], [.int i1, .ref k0], h) Q = (okp h k0 9 = true ∧ Tr sc d 144 (ent0 144 [.ref k0, .int i1] h) (fun z => Tr sc (d + 1) 100 (44, [l0, l1], z.1.toList ++ [], z.2) Q)) := t_cv (as := [.int i1]) (r := []) k_100_41 rfl rfl (Nat.le_of_ble_eq_true rfl) (Nat.le_of_ble_eq_true rfl) (Nat.le_of_ble_eq_true rfl)
theorem k_100_44 : lk 100 44 = some (.ireturn, 45, 0, 0, .null) := by decide +kernel
theorem x_100_44 : Tr sc d 100 (44, [l0, l1], [.int i0], h) Q = Q (some (.int i0), h) := t_ret k_100_44 (by rw [r_100]; rfl)
theorem k_100_45 : lk 100 45 = some (.aload_n 0, 46, 0, 0, .null) := by decide +kernel
theorem x_100_45 : Tr sc d 100 (45, [some (.ref xk), l1], [], h) Q = Tr sc d 100 (46, [some (.ref xk), l1], [.ref xk], h) Q := t_aload_n k_100_45 rfl
theorem k_100_46 : lk 100 46 = some (.aload_n 0, 47, 0, 0, .null) := by decide +kernel
theorem x_100_46 : Tr sc d 100 (46, [some (.ref xk), l1], [.ref k0], h) Q = Tr sc d 100 (47, [some (.ref xk), l1], [.ref xk, .ref k0], h) Q := t_aload_n k_100_46 rfl
theorem k_100_47 : lk 100 47 = some (.getfield 11, 50, 9, 0, .null) := by decide +kernel
theorem x_100_47 : Tr sc d 100 (47, [l0, l1], [.ref k1, .ref k0], h) Q = (okp h k1 9 = true ∧ ∃ q, hR h k1 0 = some q ∧ Tr sc d 100 (50, [l0, l1], [.ref q, .ref k0], h) Q) := t_getr k_100_47
theorem k_100_50 : lk 100 50 = some (.iload_n 1, 51, 1, 0, .null) := by decide +kernel
theorem x_100_50 : Tr sc d 100 (50, [l0, some (.int x)], [.ref k1, .ref k0], h) Q = Tr sc d 100 (51, [l0, some (.int x)], [.int x, .ref k1, .ref k0], h) Q := t_iload_n k_100_50 rfl
theorem k_100_51 : lk 100 51 = some (.aaload, 52, 0, 0, .null) := by decide +kernel
theorem x_100_51 : Tr sc d 100 (51, [l0, l1], [.int i2, .ref k1, .ref k0], h) Q = (((okp h k1 14 || okp h k1 15) && inb i2 (LN k1)) = true ∧ ∃ q, hR h k1 i2.toNatClampNeg = some q ∧ Tr sc d 100 (52, [l0, l1], [.ref q, .ref k0], h) Q) := t_aald k_100_51
theorem k_100_52 : lk 100 52 = some (.invokevirtual 148, 55, 45, 0, .null) := by decide +kernel
theorem x_100_52 : Tr sc (d + 1) 100 (52, [l0, l1], [.ref k1, .ref k0], h) Q = (okp h k1 5 = true ∧ Tr sc d 45 (ent0 45 [.ref k1] h) (fun z => Tr sc (d + 1) 100 (55, [l0, l1], z.1.toList ++ [.ref k0], z.2) Q)) := t_cv (as := []) (r := [.ref k0]) k_100_52 rfl rfl (Nat.le_of_ble_eq_true rfl) (Nat.le_of_ble_eq_true rfl) (Nat.le_of_ble_eq_true rfl)
theorem k_100_55 : lk 100 55 = some (.aload_n 0, 56, 0, 0, .null) := by decide +kernel
theorem x_100_55 : Tr sc d 100 (55, [some (.ref xk), l1], [.long j1, .ref k0], h) Q = Tr sc d 100 (56, [some (.ref xk), l1], [.ref xk, .long j1, .ref k0], h) Q := t_aload_n k_100_55 rfl
theorem k_100_56 : lk 100 56 = some (.getfield 11, 59, 9, 0, .null) := by decide +kernel
theorem x_100_56 : Tr sc d 100 (56, [l0, l1], [.ref k2, .long j1, .ref k0], h) Q = (okp h k2 9 = true ∧ ∃ q, hR h k2 0 = some q ∧ Tr sc d 100 (59, [l0, l1], [.ref q, .long j1, .ref k0], h) Q) := t_getr k_100_56
theorem k_100_59 : lk 100 59 = some (.iload_n 1, 60, 1, 0, .null) := by decide +kernel
theorem x_100_59 : Tr sc d 100 (59, [l0, some (.int x)], [.ref k2, .long j1, .ref k0], h) Q = Tr sc d 100 (60, [l0, some (.int x)], [.int x, .ref k2, .long j1, .ref k0], h) Q := t_iload_n k_100_59 rfl
theorem k_100_60 : lk 100 60 = some (.aaload, 61, 0, 0, .null) := by decide +kernel
theorem x_100_60 : Tr sc d 100 (60, [l0, l1], [.int i3, .ref k2, .long j1, .ref k0], h) Q = (((okp h k2 14 || okp h k2 15) && inb i3 (LN k2)) = true ∧ ∃ q, hR h k2 i3.toNatClampNeg = some q ∧ Tr sc d 100 (61, [l0, l1], [.ref q, .long j1, .ref k0], h) Q) := t_aald k_100_60
theorem k_100_61 : lk 100 61 = some (.getfield 135, 64, 5, 1, .int 0) := by decide +kernel
theorem x_100_61 : Tr sc d 100 (61, [l0, l1], [.ref k2, .long j1, .ref k0], h) Q = (okp h k2 5 = true ∧ Tr sc d 100 (64, [l0, l1], [.int (hI h k2 1), .long j1, .ref k0], h) Q) := t_gd k_100_61 rfl
theorem k_100_64 : lk 100 64 = some (.i2l, 65, 0, 0, .null) := by decide +kernel
theorem x_100_64 : Tr sc d 100 (64, [l0, l1], [.int i2, .long j1, .ref k0], h) Q = Tr sc d 100 (65, [l0, l1], [.long i2.toInt64, .long j1, .ref k0], h) Q := t_go k_100_64 rfl
theorem k_100_65 : lk 100 65 = some (.ldiv, 66, 0, 0, .null) := by decide +kernel
theorem x_100_65 : Tr sc d 100 (65, [l0, l1], [.long j2, .long j1, .ref k0], h) Q = (¬ j2 = 0 ∧ Tr sc d 100 (66, [l0, l1], [.long (j1 / j2), .ref k0], h) Q) := t_ng k_100_65 rfl
theorem k_100_66 : lk 100 66 = some (.l2i, 67, 0, 0, .null) := by decide +kernel
theorem x_100_66 : Tr sc d 100 (66, [l0, l1], [.long j1, .ref k0], h) Q = Tr sc d 100 (67, [l0, l1], [.int j1.toInt32, .ref k0], h) Q := t_go k_100_66 rfl
theorem k_100_67 : lk 100 67 = some (.putfield 98, 70, 9, 15, .int 0) := by decide +kernel
theorem x_100_67 : Tr sc d 100 (67, [l0, l1], [.int i1, .ref k0], h) Q = (okp h k0 9 = true ∧ Tr sc d 100 (70, [l0, l1], [], (sI h k0 15 i1)) Q) := t_gd k_100_67 rfl
theorem k_100_70 : lk 100 70 = some (.iconst 1, 71, 0, 0, .int 1) := by decide +kernel
theorem x_100_70 : Tr sc d 100 (70, [l0, l1], [], h) Q = Tr sc d 100 (71, [l0, l1], [.int 1], h) Q := t_go k_100_70 rfl
theorem k_100_71 : lk 100 71 = some (.ireturn, 72, 0, 0, .null) := by decide +kernel
theorem x_100_71 : Tr sc d 100 (71, [l0, l1], [.int i0], h) Q = Q (some (.int i0), h) := t_ret k_100_71 (by rw [r_100]; rfl)
theorem e_100 : Tr sc d 100 (ent0 100 [.ref k0, .int i1] h) Q = Tr sc d 100 (0, [some (.ref k0), some (.int i1)], [], h) Q := by
  have e : mL 100 = 2 := by decide +kernel
  unfold ent0
  rw [e]
  rfl
theorem r_101 : mR 101 = some .int := by decide +kernel
theorem k_101_0 : lk 101 0 = some (.iload_n 1, 1, 1, 0, .null) := by decide +kernel
theorem x_101_0 : Tr sc d 101 (0, [l0, some (.int x), l2], [], h) Q = Tr sc d 101 (1, [l0, some (.int x), l2], [.int x], h) Q := t_iload_n k_101_0 rfl
theorem k_101_1 : lk 101 1 = some (.invokestatic 152, 4, 141, 1, .null) := by decide +kernel
theorem x_101_1 : Tr sc (d + 1) 101 (1, [l0, l1, l2], [.int i0], h) Q = Tr sc d 141 (ent0 141 [.int i0] h) (fun z => Tr sc (d + 1) 101 (4, [l0, l1, l2], z.1.toList ++ [], z.2) Q) := t_cs (as := [.int i0]) (r := []) k_101_1 (by decide) rfl rfl (Nat.le_of_ble_eq_true rfl) (Nat.le_of_ble_eq_true rfl)
theorem k_101_4 : lk 101 4 = some (.ifCond .eq 9, 7, 13, 0, .null) := by decide +kernel
theorem x_101_4 : Tr sc d 101 (4, [l0, l1, l2], [.int i0], h) Q = if i0 = 0 then Tr sc d 101 (13, [l0, l1, l2], [], h) Q else Tr sc d 101 (7, [l0, l1, l2], [], h) Q := t_if k_101_4 rfl
theorem k_101_7 : lk 101 7 = some (.iload_n 2, 8, 2, 0, .null) := by decide +kernel
theorem x_101_7 : Tr sc d 101 (7, [l0, l1, some (.int x)], [], h) Q = Tr sc d 101 (8, [l0, l1, some (.int x)], [.int x], h) Q := t_iload_n k_101_7 rfl
theorem k_101_8 : lk 101 8 = some (.bipush 60, 10, 0, 0, .int 60) := by decide +kernel
theorem x_101_8 : Tr sc d 101 (8, [l0, l1, l2], [.int i0], h) Q = Tr sc d 101 (10, [l0, l1, l2], [.int 60, .int i0], h) Q := t_go k_101_8 rfl
theorem k_101_10 : lk 101 10 = some (.if_icmp .le 5, 13, 15, 0, .null) := by decide +kernel
theorem x_101_10 : Tr sc d 101 (10, [l0, l1, l2], [.int i1, .int i0], h) Q = if i0 ≤ i1 then Tr sc d 101 (15, [l0, l1, l2], [], h) Q else Tr sc d 101 (13, [l0, l1, l2], [], h) Q := t_if k_101_10 rfl
theorem k_101_13 : lk 101 13 = some (.iconst (-1), 14, 0, 0, .int (-1)) := by decide +kernel
theorem x_101_13 : Tr sc d 101 (13, [l0, l1, l2], [], h) Q = Tr sc d 101 (14, [l0, l1, l2], [.int (-1)], h) Q := t_go k_101_13 rfl
theorem k_101_14 : lk 101 14 = some (.ireturn, 15, 0, 0, .null) := by decide +kernel
theorem x_101_14 : Tr sc d 101 (14, [l0, l1, l2], [.int i0], h) Q = Q (some (.int i0), h) := t_ret k_101_14 (by rw [r_101]; rfl)
theorem k_101_15 : lk 101 15 = some (.iload_n 2, 16, 2, 0, .null) := by decide +kernel
theorem x_101_15 : Tr sc d 101 (15, [l0, l1, some (.int x)], [], h) Q = Tr sc d 101 (16, [l0, l1, some (.int x)], [.int x], h) Q := t_iload_n k_101_15 rfl
theorem k_101_16 : lk 101 16 = some (.ifCond .ge 9, 19, 25, 0, .null) := by decide +kernel
theorem x_101_16 : Tr sc d 101 (16, [l0, l1, l2], [.int i0], h) Q = if 0 ≤ i0 then Tr sc d 101 (25, [l0, l1, l2], [], h) Q else Tr sc d 101 (19, [l0, l1, l2], [], h) Q := t_if k_101_16 rfl
theorem k_101_19 : lk 101 19 = some (.aload_n 0, 20, 0, 0, .null) := by decide +kernel
theorem x_101_19 : Tr sc d 101 (19, [some (.ref xk), l1, l2], [], h) Q = Tr sc d 101 (20, [some (.ref xk), l1, l2], [.ref xk], h) Q := t_aload_n k_101_19 rfl
theorem k_101_20 : lk 101 20 = some (.iconst 5, 21, 0, 0, .int 5) := by decide +kernel
theorem x_101_20 : Tr sc d 101 (20, [l0, l1, l2], [.ref k0], h) Q = Tr sc d 101 (21, [l0, l1, l2], [.int 5, .ref k0], h) Q := t_go k_101_20 rfl
theorem k_101_21 : lk 101 21 = some (.invokevirtual 118, 24, 144, 1, .null) := by decide +kernel
theorem x_101_21 : Tr sc (d + 1) 101 (21, [l0, l1, l2], [.int i1, .ref k0], h) Q = (okp h k0 9 = true ∧ Tr sc d 144 (ent0 144 [.ref k0, .int i1] h) (fun z => Tr sc (d + 1) 101 (24, [l0, l1, l2], z.1.toList ++ [], z.2) Q)) := t_cv (as := [.int i1]) (r := []) k_101_21 rfl rfl (Nat.le_of_ble_eq_true rfl) (Nat.le_of_ble_eq_true rfl) (Nat.le_of_ble_eq_true rfl)
theorem k_101_24 : lk 101 24 = some (.ireturn, 25, 0, 0, .null) := by decide +kernel
theorem x_101_24 : Tr sc d 101 (24, [l0, l1, l2], [.int i0], h) Q = Q (some (.int i0), h) := t_ret k_101_24 (by rw [r_101]; rfl)
theorem k_101_25 : lk 101 25 = some (.aload_n 0, 26, 0, 0, .null) := by decide +kernel
theorem x_101_25 : Tr sc d 101 (25, [some (.ref xk), l1, l2], [], h) Q = Tr sc d 101 (26, [some (.ref xk), l1, l2], [.ref xk], h) Q := t_aload_n k_101_25 rfl
theorem k_101_26 : lk 101 26 = some (.getfield 15, 29, 9, 1, .null) := by decide +kernel
theorem x_101_26 : Tr sc d 101 (26, [l0, l1, l2], [.ref k0], h) Q = (okp h k0 9 = true ∧ ∃ q, hR h k0 1 = some q ∧ Tr sc d 101 (29, [l0, l1, l2], [.ref q], h) Q) := t_getr k_101_26
theorem k_101_29 : lk 101 29 = some (.iload_n 1, 30, 1, 0, .null) := by decide +kernel
theorem x_101_29 : Tr sc d 101 (29, [l0, some (.int x), l2], [.ref k0], h) Q = Tr sc d 101 (30, [l0, some (.int x), l2], [.int x, .ref k0], h) Q := t_iload_n k_101_29 rfl
theorem k_101_30 : lk 101 30 = some (.aaload, 31, 0, 0, .null) := by decide +kernel
theorem x_101_30 : Tr sc d 101 (30, [l0, l1, l2], [.int i1, .ref k0], h) Q = (((okp h k0 14 || okp h k0 15) && inb i1 (LN k0)) = true ∧ ∃ q, hR h k0 i1.toNatClampNeg = some q ∧ Tr sc d 101 (31, [l0, l1, l2], [.ref q], h) Q) := t_aald k_101_30
theorem k_101_31 : lk 101 31 = some (.iload_n 2, 32, 2, 0, .null) := by decide +kernel
theorem x_101_31 : Tr sc d 101 (31, [l0, l1, some (.int x)], [.ref k0], h) Q = Tr sc d 101 (32, [l0, l1, some (.int x)], [.int x, .ref k0], h) Q := t_iload_n k_101_31 rfl
theorem k_101_32 : lk 101 32 = some (.bipush 32, 34, 0, 0, .int 32) := by decide +kernel
theorem x_101_32 : Tr sc d 101 (32, [l0, l1, l2], [.int i1, .ref k0], h) Q = Tr sc d 101 (34, [l0, l1, l2], [.int 32, .int i1, .ref k0], h) Q := t_go k_101_32 rfl
theorem k_101_34 : lk 101 34 = some (.invokevirtual 122, 37, 41, 2, .null) := by decide +kernel
theorem x_101_34 : Tr sc (d + 1) 101 (34, [l0, l1, l2], [.int i2, .int i1, .ref k0], h) Q = (okp h k0 5 = true ∧ Tr sc d 41 (ent0 41 [.ref k0, .int i1, .int i2] h) (fun z => Tr sc (d + 1) 101 (37, [l0, l1, l2], z.1.toList ++ [], z.2) Q)) := t_cv (as := [.int i1, .int i2]) (r := []) k_101_34 rfl rfl (Nat.le_of_ble_eq_true rfl) (Nat.le_of_ble_eq_true rfl) (Nat.le_of_ble_eq_true rfl)
theorem k_101_37 : lk 101 37 = some (.iload_n 2, 38, 2, 0, .null) := by decide +kernel
theorem x_101_37 : Tr sc d 101 (37, [l0, l1, some (.int x)], [], h) Q = Tr sc d 101 (38, [l0, l1, some (.int x)], [.int x], h) Q := t_iload_n k_101_37 rfl
theorem k_101_38 : lk 101 38 = some (.ireturn, 39, 0, 0, .null) := by decide +kernel
theorem x_101_38 : Tr sc d 101 (38, [l0, l1, l2], [.int i0], h) Q = Q (some (.int i0), h) := t_ret k_101_38 (by rw [r_101]; rfl)
theorem e_101 : Tr sc d 101 (ent0 101 [.ref k0, .int i1, .int i2] h) Q = Tr sc d 101 (0, [some (.ref k0), some (.int i1), some (.int i2)], [], h) Q := by
  have e : mL 101 = 3 := by decide +kernel
  unfold ent0
  rw [e]
  rfl
theorem r_102 : mR 102 = some .int := by decide +kernel
theorem k_102_0 : lk 102 0 = some (.iload_n 1, 1, 1, 0, .null) := by decide +kernel
theorem x_102_0 : Tr sc d 102 (0, [l0, some (.int x), l2, l3, l4], [], h) Q = Tr sc d 102 (1, [l0, some (.int x), l2, l3, l4], [.int x], h) Q := t_iload_n k_102_0 rfl
theorem k_102_1 : lk 102 1 = some (.invokestatic 152, 4, 141, 1, .null) := by decide +kernel
theorem x_102_1 : Tr sc (d + 1) 102 (1, [l0, l1, l2, l3, l4], [.int i0], h) Q = Tr sc d 141 (ent0 141 [.int i0] h) (fun z => Tr sc (d + 1) 102 (4, [l0, l1, l2, l3, l4], z.1.toList ++ [], z.2) Q) := t_cs (as := [.int i0]) (r := []) k_102_1 (by decide) rfl rfl (Nat.le_of_ble_eq_true rfl) (Nat.le_of_ble_eq_true rfl)
theorem k_102_4 : lk 102 4 = some (.ifCond .ne 5, 7, 9, 0, .null) := by decide +kernel
theorem x_102_4 : Tr sc d 102 (4, [l0, l1, l2, l3, l4], [.int i0], h) Q = if i0 = 0 then Tr sc d 102 (7, [l0, l1, l2, l3, l4], [], h) Q else Tr sc d 102 (9, [l0, l1, l2, l3, l4], [], h) Q := t_if k_102_4 rfl
theorem k_102_7 : lk 102 7 = some (.iconst (-1), 8, 0, 0, .int (-1)) := by decide +kernel
theorem x_102_7 : Tr sc d 102 (7, [l0, l1, l2, l3, l4], [], h) Q = Tr sc d 102 (8, [l0, l1, l2, l3, l4], [.int (-1)], h) Q := t_go k_102_7 rfl
theorem k_102_8 : lk 102 8 = some (.ireturn, 9, 0, 0, .null) := by decide +kernel
theorem x_102_8 : Tr sc d 102 (8, [l0, l1, l2, l3, l4], [.int i0], h) Q = Q (some (.int i0), h) := t_ret k_102_8 (by rw [r_102]; rfl)
theorem k_102_9 : lk 102 9 = some (.aload_n 0, 10, 0, 0, .null) := by decide +kernel
theorem x_102_9 : Tr sc d 102 (9, [some (.ref xk), l1, l2, l3, l4], [], h) Q = Tr sc d 102 (10, [some (.ref xk), l1, l2, l3, l4], [.ref xk], h) Q := t_aload_n k_102_9 rfl
theorem k_102_10 : lk 102 10 = some (.getfield 15, 13, 9, 1, .null) := by decide +kernel
theorem x_102_10 : Tr sc d 102 (10, [l0, l1, l2, l3, l4], [.ref k0], h) Q = (okp h k0 9 = true ∧ ∃ q, hR h k0 1 = some q ∧ Tr sc d 102 (13, [l0, l1, l2, l3, l4], [.ref q], h) Q) := t_getr k_102_10
theorem k_102_13 : lk 102 13 = some (.iload_n 1, 14, 1, 0, .null) := by decide +kernel
theorem x_102_13 : Tr sc d 102 (13, [l0, some (.int x), l2, l3, l4], [.ref k0], h) Q = Tr sc d 102 (14, [l0, some (.int x), l2, l3, l4], [.int x, .ref k0], h) Q := t_iload_n k_102_13 rfl
theorem k_102_14 : lk 102 14 = some (.aaload, 15, 0, 0, .null) := by decide +kernel
theorem x_102_14 : Tr sc d 102 (14, [l0, l1, l2, l3, l4], [.int i1, .ref k0], h) Q = (((okp h k0 14 || okp h k0 15) && inb i1 (LN k0)) = true ∧ ∃ q, hR h k0 i1.toNatClampNeg = some q ∧ Tr sc d 102 (15, [l0, l1, l2, l3, l4], [.ref q], h) Q) := t_aald k_102_14
theorem k_102_15 : lk 102 15 = some (.invokevirtual 125, 18, 42, 0, .null) := by decide +kernel
theorem x_102_15 : Tr sc (d + 1) 102 (15, [l0, l1, l2, l3, l4], [.ref k0], h) Q = (okp h k0 5 = true ∧ Tr sc d 42 (ent0 42 [.ref k0] h) (fun z => Tr sc (d + 1) 102 (18, [l0, l1, l2, l3, l4], z.1.toList ++ [], z.2) Q)) := t_cv (as := []) (r := []) k_102_15 rfl rfl (Nat.le_of_ble_eq_true rfl) (Nat.le_of_ble_eq_true rfl) (Nat.le_of_ble_eq_true rfl)
theorem k_102_18 : lk 102 18 = some (.ifCond .eq 9, 21, 27, 0, .null) := by decide +kernel
theorem x_102_18 : Tr sc d 102 (18, [l0, l1, l2, l3, l4], [.int i0], h) Q = if i0 = 0 then Tr sc d 102 (27, [l0, l1, l2, l3, l4], [], h) Q else Tr sc d 102 (21, [l0, l1, l2, l3, l4], [], h) Q := t_if k_102_18 rfl
theorem k_102_21 : lk 102 21 = some (.aload_n 0, 22, 0, 0, .null) := by decide +kernel
theorem x_102_21 : Tr sc d 102 (21, [some (.ref xk), l1, l2, l3, l4], [], h) Q = Tr sc d 102 (22, [some (.ref xk), l1, l2, l3, l4], [.ref xk], h) Q := t_aload_n k_102_21 rfl
theorem k_102_22 : lk 102 22 = some (.iconst 1, 23, 0, 0, .int 1) := by decide +kernel
theorem x_102_22 : Tr sc d 102 (22, [l0, l1, l2, l3, l4], [.ref k0], h) Q = Tr sc d 102 (23, [l0, l1, l2, l3, l4], [.int 1, .ref k0], h) Q := t_go k_102_22 rfl
theorem k_102_23 : lk 102 23 = some (.invokevirtual 118, 26, 144, 1, .null) := by decide +kernel
theorem x_102_23 : Tr sc (d + 1) 102 (23, [l0, l1, l2, l3, l4], [.int i1, .ref k0], h) Q = (okp h k0 9 = true ∧ Tr sc d 144 (ent0 144 [.ref k0, .int i1] h) (fun z => Tr sc (d + 1) 102 (26, [l0, l1, l2, l3, l4], z.1.toList ++ [], z.2) Q)) := t_cv (as := [.int i1]) (r := []) k_102_23 rfl rfl (Nat.le_of_ble_eq_true rfl) (Nat.le_of_ble_eq_true rfl) (Nat.le_of_ble_eq_true rfl)
theorem k_102_26 : lk 102 26 = some (.ireturn, 27, 0, 0, .null) := by decide +kernel
theorem x_102_26 : Tr sc d 102 (26, [l0, l1, l2, l3, l4], [.int i0], h) Q = Q (some (.int i0), h) := t_ret k_102_26 (by rw [r_102]; rfl)
theorem k_102_27 : lk 102 27 = some (.aload_n 0, 28, 0, 0, .null) := by decide +kernel
theorem x_102_27 : Tr sc d 102 (27, [some (.ref xk), l1, l2, l3, l4], [], h) Q = Tr sc d 102 (28, [some (.ref xk), l1, l2, l3, l4], [.ref xk], h) Q := t_aload_n k_102_27 rfl
theorem k_102_28 : lk 102 28 = some (.getfield 15, 31, 9, 1, .null) := by decide +kernel
theorem x_102_28 : Tr sc d 102 (28, [l0, l1, l2, l3, l4], [.ref k0], h) Q = (okp h k0 9 = true ∧ ∃ q, hR h k0 1 = some q ∧ Tr sc d 102 (31, [l0, l1, l2, l3, l4], [.ref q], h) Q) := t_getr k_102_28
theorem k_102_31 : lk 102 31 = some (.iload_n 1, 32, 1, 0, .null) := by decide +kernel
theorem x_102_31 : Tr sc d 102 (31, [l0, some (.int x), l2, l3, l4], [.ref k0], h) Q = Tr sc d 102 (32, [l0, some (.int x), l2, l3, l4], [.int x, .ref k0], h) Q := t_iload_n k_102_31 rfl
theorem k_102_32 : lk 102 32 = some (.aaload, 33, 0, 0, .null) := by decide +kernel
theorem x_102_32 : Tr sc d 102 (32, [l0, l1, l2, l3, l4], [.int i1, .ref k0], h) Q = (((okp h k0 14 || okp h k0 15) && inb i1 (LN k0)) = true ∧ ∃ q, hR h k0 i1.toNatClampNeg = some q ∧ Tr sc d 102 (33, [l0, l1, l2, l3, l4], [.ref q], h) Q) := t_aald k_102_32
theorem k_102_33 : lk 102 33 = some (.iload_n 2, 34, 2, 0, .null) := by decide +kernel
theorem x_102_33 : Tr sc d 102 (33, [l0, l1, some (.int x), l3, l4], [.ref k0], h) Q = Tr sc d 102 (34, [l0, l1, some (.int x), l3, l4], [.int x, .ref k0], h) Q := t_iload_n k_102_33 rfl
theorem k_102_34 : lk 102 34 = some (.invokevirtual 129, 37, 43, 1, .null) := by decide +kernel
theorem x_102_34 : Tr sc (d + 1) 102 (34, [l0, l1, l2, l3, l4], [.int i1, .ref k0], h) Q = (okp h k0 5 = true ∧ Tr sc d 43 (ent0 43 [.ref k0, .int i1] h) (fun z => Tr sc (d + 1) 102 (37, [l0, l1, l2, l3, l4], z.1.toList ++ [], z.2) Q)) := t_cv (as := [.int i1]) (r := []) k_102_34 rfl rfl (Nat.le_of_ble_eq_true rfl) (Nat.le_of_ble_eq_true rfl) (Nat.le_of_ble_eq_true rfl)
theorem k_102_37 : lk 102 37 = some (.ifCond .ne 9, 40, 46, 0, .null) := by decide +kernel
theorem x_102_37 : Tr sc d 102 (37, [l0, l1, l2, l3, l4], [.int i0], h) Q = if i0 = 0 then Tr sc d 102 (40, [l0, l1, l2, l3, l4], [], h) Q else Tr sc d 102 (46, [l0, l1, l2, l3, l4], [], h) Q := t_if k_102_37 rfl
theorem k_102_40 : lk 102 40 = some (.aload_n 0, 41, 0, 0, .null) := by decide +kernel
theorem x_102_40 : Tr sc d 102 (40, [some (.ref xk), l1, l2, l3, l4], [], h) Q = Tr sc d 102 (41, [some (.ref xk), l1, l2, l3, l4], [.ref xk], h) Q := t_aload_n k_102_40 rfl
theorem k_102_41 : lk 102 41 = some (.iconst 2, 42, 0, 0, .int 2) := by decide +kernel
theorem x_102_41 : Tr sc d 102 (41, [l0, l1, l2, l3, l4], [.ref k0], h) Q = Tr sc d 102 (42, [l0, l1, l2, l3, l4], [.int 2, .ref k0], h) Q := t_go k_102_41 rfl
theorem k_102_42 : lk 102 42 = some (.invokevirtual 118, 45, 144, 1, .null) := by decide +kernel
theorem x_102_42 : Tr sc (d + 1) 102 (42, [l0, l1, l2, l3, l4], [.int i1, .ref k0], h) Q = (okp h k0 9 = true ∧ Tr sc d 144 (ent0 144 [.ref k0, .int i1] h) (fun z => Tr sc (d + 1) 102 (45, [l0, l1, l2, l3, l4], z.1.toList ++ [], z.2) Q)) := t_cv (as := [.int i1]) (r := []) k_102_42 rfl rfl (Nat.le_of_ble_eq_true rfl) (Nat.le_of_ble_eq_true rfl) (Nat.le_of_ble_eq_true rfl)
theorem k_102_45 : lk 102 45 = some (.ireturn, 46, 0, 0, .null) := by decide +kernel
theorem x_102_45 : Tr sc d 102 (45, [l0, l1, l2, l3, l4], [.int i0], h) Q = Q (some (.int i0), h) := t_ret k_102_45 (by rw [r_102]; rfl)
theorem k_102_46 : lk 102 46 = some (.aload_n 0, 47, 0, 0, .null) := by decide +kernel
theorem x_102_46 : Tr sc d 102 (46, [some (.ref xk), l1, l2, l3, l4], [], h) Q = Tr sc d 102 (47, [some (.ref xk), l1, l2, l3, l4], [.ref xk], h) Q := t_aload_n k_102_46 rfl
theorem k_102_47 : lk 102 47 = some (.getfield 15, 50, 9, 1, .null) := by decide +kernel
theorem x_102_47 : Tr sc d 102 (47, [l0, l1, l2, l3, l4], [.ref k0], h) Q = (okp h k0 9 = true ∧ ∃ q, hR h k0 1 = some q ∧ Tr sc d 102 (50, [l0, l1, l2, l3, l4], [.ref q], h) Q) := t_getr k_102_47
theorem k_102_50 : lk 102 50 = some (.iload_n 1, 51, 1, 0, .null) := by decide +kernel
theorem x_102_50 : Tr sc d 102 (50, [l0, some (.int x), l2, l3, l4], [.ref k0], h) Q = Tr sc d 102 (51, [l0, some (.int x), l2, l3, l4], [.int x, .ref k0], h) Q := t_iload_n k_102_50 rfl
theorem k_102_51 : lk 102 51 = some (.aaload, 52, 0, 0, .null) := by decide +kernel
theorem x_102_51 : Tr sc d 102 (51, [l0, l1, l2, l3, l4], [.int i1, .ref k0], h) Q = (((okp h k0 14 || okp h k0 15) && inb i1 (LN k0)) = true ∧ ∃ q, hR h k0 i1.toNatClampNeg = some q ∧ Tr sc d 102 (52, [l0, l1, l2, l3, l4], [.ref q], h) Q) := t_aald k_102_51
theorem k_102_52 : lk 102 52 = some (.getfield 132, 55, 5, 0, .null) := by decide +kernel
theorem x_102_52 : Tr sc d 102 (52, [l0, l1, l2, l3, l4], [.ref k0], h) Q = (okp h k0 5 = true ∧ ∃ q, hR h k0 0 = some q ∧ Tr sc d 102 (55, [l0, l1, l2, l3, l4], [.ref q], h) Q) := t_getr k_102_52
theorem k_102_55 : lk 102 55 = some (.iload_n 2, 56, 2, 0, .null) := by decide +kernel
theorem x_102_55 : Tr sc d 102 (55, [l0, l1, some (.int x), l3, l4], [.ref k0], h) Q = Tr sc d 102 (56, [l0, l1, some (.int x), l3, l4], [.int x, .ref k0], h) Q := t_iload_n k_102_55 rfl
theorem k_102_56 : lk 102 56 = some (.iaload, 57, 0, 0, .null) := by decide +kernel
theorem x_102_56 : Tr sc d 102 (56, [l0, l1, l2, l3, l4], [.int i1, .ref k0], h) Q = (iOk sc h k0 i1 ∧ Tr sc d 102 (57, [l0, l1, l2, l3, l4], [.int (iRd sc h k0 i1)], h) Q) := t_iald k_102_56
theorem k_102_57 : lk 102 57 = some (.istore 4, 59, 4, 0, .null) := by decide +kernel
theorem x_102_57 : Tr sc d 102 (57, [l0, l1, l2, l3, l4], [.int i0], h) Q = Tr sc d 102 (59, [l0, l1, l2, cl2 l3, some (.int i0)], [], h) Q := t_istore k_102_57 (Nat.le_of_ble_eq_true rfl)
theorem k_102_59 : lk 102 59 = some (.aload_n 0, 60, 0, 0, .null) := by decide +kernel
theorem x_102_59 : Tr sc d 102 (59, [some (.ref xk), l1, l2, l3, l4], [], h) Q = Tr sc d 102 (60, [some (.ref xk), l1, l2, l3, l4], [.ref xk], h) Q := t_aload_n k_102_59 rfl
theorem k_102_60 : lk 102 60 = some (.getfield 15, 63, 9, 1, .null) := by decide +kernel
theorem x_102_60 : Tr sc d 102 (60, [l0, l1, l2, l3, l4], [.ref k0], h) Q = (okp h k0 9 = true ∧ ∃ q, hR h k0 1 = some q ∧ Tr sc d 102 (63, [l0, l1, l2, l3, l4], [.ref q], h) Q) := t_getr k_102_60
theorem k_102_63 : lk 102 63 = some (.iload_n 1, 64, 1, 0, .null) := by decide +kernel
theorem x_102_63 : Tr sc d 102 (63, [l0, some (.int x), l2, l3, l4], [.ref k0], h) Q = Tr sc d 102 (64, [l0, some (.int x), l2, l3, l4], [.int x, .ref k0], h) Q := t_iload_n k_102_63 rfl
theorem k_102_64 : lk 102 64 = some (.aaload, 65, 0, 0, .null) := by decide +kernel
theorem x_102_64 : Tr sc d 102 (64, [l0, l1, l2, l3, l4], [.int i1, .ref k0], h) Q = (((okp h k0 14 || okp h k0 15) && inb i1 (LN k0)) = true ∧ ∃ q, hR h k0 i1.toNatClampNeg = some q ∧ Tr sc d 102 (65, [l0, l1, l2, l3, l4], [.ref q], h) Q) := t_aald k_102_64
theorem k_102_65 : lk 102 65 = some (.getfield 132, 68, 5, 0, .null) := by decide +kernel
theorem x_102_65 : Tr sc d 102 (65, [l0, l1, l2, l3, l4], [.ref k0], h) Q = (okp h k0 5 = true ∧ ∃ q, hR h k0 0 = some q ∧ Tr sc d 102 (68, [l0, l1, l2, l3, l4], [.ref q], h) Q) := t_getr k_102_65
theorem k_102_68 : lk 102 68 = some (.iload_n 2, 69, 2, 0, .null) := by decide +kernel
theorem x_102_68 : Tr sc d 102 (68, [l0, l1, some (.int x), l3, l4], [.ref k0], h) Q = Tr sc d 102 (69, [l0, l1, some (.int x), l3, l4], [.int x, .ref k0], h) Q := t_iload_n k_102_68 rfl
theorem k_102_69 : lk 102 69 = some (.iload_n 3, 70, 3, 0, .null) := by decide +kernel
theorem x_102_69 : Tr sc d 102 (69, [l0, l1, l2, some (.int x), l4], [.int i1, .ref k0], h) Q = Tr sc d 102 (70, [l0, l1, l2, some (.int x), l4], [.int x, .int i1, .ref k0], h) Q := t_iload_n k_102_69 rfl
theorem k_102_70 : lk 102 70 = some (.i2b, 71, 0, 0, .null) := by decide +kernel
theorem x_102_70 : Tr sc d 102 (70, [l0, l1, l2, l3, l4], [.int i2, .int i1, .ref k0], h) Q = Tr sc d 102 (71, [l0, l1, l2, l3, l4], [.int i2.toInt8.toInt32, .int i1, .ref k0], h) Q := t_go k_102_70 rfl
theorem k_102_71 : lk 102 71 = some (.iastore, 72, 0, 0, .null) := by decide +kernel
theorem x_102_71 : Tr sc d 102 (71, [l0, l1, l2, l3, l4], [.int i2, .int i1, .ref k0], h) Q = ((okp h k0 11 && inb i1 (LN k0)) = true ∧ Tr sc d 102 (72, [l0, l1, l2, l3, l4], [], (sI h k0 i1.toNatClampNeg i2)) Q) := t_gd k_102_71 rfl
theorem k_102_72 : lk 102 72 = some (.iload 4, 74, 4, 0, .null) := by decide +kernel
theorem x_102_72 : Tr sc d 102 (72, [l0, l1, l2, l3, some (.int x)], [], h) Q = Tr sc d 102 (74, [l0, l1, l2, l3, some (.int x)], [.int x], h) Q := t_iload k_102_72 rfl
theorem k_102_74 : lk 102 74 = some (.sipush 1000, 77, 0, 0, .int 1000) := by decide +kernel
theorem x_102_74 : Tr sc d 102 (74, [l0, l1, l2, l3, l4], [.int i0], h) Q = Tr sc d 102 (77, [l0, l1, l2, l3, l4], [.int 1000, .int i0], h) Q := t_go k_102_74 rfl
theorem k_102_77 : lk 102 77 = some (.iadd, 78, 0, 0, .null) := by decide +kernel
theorem x_102_77 : Tr sc d 102 (77, [l0, l1, l2, l3, l4], [.int i1, .int i0], h) Q = Tr sc d 102 (78, [l0, l1, l2, l3, l4], [.int (i0 + i1)], h) Q := t_go k_102_77 rfl
theorem k_102_78 : lk 102 78 = some (.ireturn, 79, 0, 0, .null) := by decide +kernel
theorem x_102_78 : Tr sc d 102 (78, [l0, l1, l2, l3, l4], [.int i0], h) Q = Q (some (.int i0), h) := t_ret k_102_78 (by rw [r_102]; rfl)
theorem e_102 : Tr sc d 102 (ent0 102 [.ref k0, .int i1, .int i2, .int i3] h) Q = Tr sc d 102 (0, [some (.ref k0), some (.int i1), some (.int i2), some (.int i3), none], [], h) Q := by
  have e : mL 102 = 5 := by decide +kernel
  unfold ent0
  rw [e]
  rfl
theorem r_103 : mR 103 = some .int := by decide +kernel
theorem k_103_0 : lk 103 0 = some (.iload_n 1, 1, 1, 0, .null) := by decide +kernel
theorem x_103_0 : Tr sc d 103 (0, [l0, some (.int x)], [], h) Q = Tr sc d 103 (1, [l0, some (.int x)], [.int x], h) Q := t_iload_n k_103_0 rfl
theorem k_103_1 : lk 103 1 = some (.invokestatic 152, 4, 141, 1, .null) := by decide +kernel
theorem x_103_1 : Tr sc (d + 1) 103 (1, [l0, l1], [.int i0], h) Q = Tr sc d 141 (ent0 141 [.int i0] h) (fun z => Tr sc (d + 1) 103 (4, [l0, l1], z.1.toList ++ [], z.2) Q) := t_cs (as := [.int i0]) (r := []) k_103_1 (by decide) rfl rfl (Nat.le_of_ble_eq_true rfl) (Nat.le_of_ble_eq_true rfl)
theorem k_103_4 : lk 103 4 = some (.ifCond .ne 5, 7, 9, 0, .null) := by decide +kernel
theorem x_103_4 : Tr sc d 103 (4, [l0, l1], [.int i0], h) Q = if i0 = 0 then Tr sc d 103 (7, [l0, l1], [], h) Q else Tr sc d 103 (9, [l0, l1], [], h) Q := t_if k_103_4 rfl
theorem k_103_7 : lk 103 7 = some (.iconst (-1), 8, 0, 0, .int (-1)) := by decide +kernel
theorem x_103_7 : Tr sc d 103 (7, [l0, l1], [], h) Q = Tr sc d 103 (8, [l0, l1], [.int (-1)], h) Q := t_go k_103_7 rfl
theorem k_103_8 : lk 103 8 = some (.ireturn, 9, 0, 0, .null) := by decide +kernel
theorem x_103_8 : Tr sc d 103 (8, [l0, l1], [.int i0], h) Q = Q (some (.int i0), h) := t_ret k_103_8 (by rw [r_103]; rfl)
theorem k_103_9 : lk 103 9 = some (.aload_n 0, 10, 0, 0, .null) := by decide +kernel
theorem x_103_9 : Tr sc d 103 (9, [some (.ref xk), l1], [], h) Q = Tr sc d 103 (10, [some (.ref xk), l1], [.ref xk], h) Q := t_aload_n k_103_9 rfl
theorem k_103_10 : lk 103 10 = some (.getfield 15, 13, 9, 1, .null) := by decide +kernel
theorem x_103_10 : Tr sc d 103 (10, [l0, l1], [.ref k0], h) Q = (okp h k0 9 = true ∧ ∃ q, hR h k0 1 = some q ∧ Tr sc d 103 (13, [l0, l1], [.ref q], h) Q) := t_getr k_103_10
theorem k_103_13 : lk 103 13 = some (.iload_n 1, 14, 1, 0, .null) := by decide +kernel
theorem x_103_13 : Tr sc d 103 (13, [l0, some (.int x)], [.ref k0], h) Q = Tr sc d 103 (14, [l0, some (.int x)], [.int x, .ref k0], h) Q := t_iload_n k_103_13 rfl
theorem k_103_14 : lk 103 14 = some (.aaload, 15, 0, 0, .null) := by decide +kernel
theorem x_103_14 : Tr sc d 103 (14, [l0, l1], [.int i1, .ref k0], h) Q = (((okp h k0 14 || okp h k0 15) && inb i1 (LN k0)) = true ∧ ∃ q, hR h k0 i1.toNatClampNeg = some q ∧ Tr sc d 103 (15, [l0, l1], [.ref q], h) Q) := t_aald k_103_14
theorem k_103_15 : lk 103 15 = some (.invokevirtual 125, 18, 42, 0, .null) := by decide +kernel
theorem x_103_15 : Tr sc (d + 1) 103 (15, [l0, l1], [.ref k0], h) Q = (okp h k0 5 = true ∧ Tr sc d 42 (ent0 42 [.ref k0] h) (fun z => Tr sc (d + 1) 103 (18, [l0, l1], z.1.toList ++ [], z.2) Q)) := t_cv (as := []) (r := []) k_103_15 rfl rfl (Nat.le_of_ble_eq_true rfl) (Nat.le_of_ble_eq_true rfl) (Nat.le_of_ble_eq_true rfl)
theorem k_103_18 : lk 103 18 = some (.ifCond .eq 9, 21, 27, 0, .null) := by decide +kernel
theorem x_103_18 : Tr sc d 103 (18, [l0, l1], [.int i0], h) Q = if i0 = 0 then Tr sc d 103 (27, [l0, l1], [], h) Q else Tr sc d 103 (21, [l0, l1], [], h) Q := t_if k_103_18 rfl
theorem k_103_21 : lk 103 21 = some (.aload_n 0, 22, 0, 0, .null) := by decide +kernel
theorem x_103_21 : Tr sc d 103 (21, [some (.ref xk), l1], [], h) Q = Tr sc d 103 (22, [some (.ref xk), l1], [.ref xk], h) Q := t_aload_n k_103_21 rfl
theorem k_103_22 : lk 103 22 = some (.iconst 1, 23, 0, 0, .int 1) := by decide +kernel
theorem x_103_22 : Tr sc d 103 (22, [l0, l1], [.ref k0], h) Q = Tr sc d 103 (23, [l0, l1], [.int 1, .ref k0], h) Q := t_go k_103_22 rfl
theorem k_103_23 : lk 103 23 = some (.invokevirtual 118, 26, 144, 1, .null) := by decide +kernel
theorem x_103_23 : Tr sc (d + 1) 103 (23, [l0, l1], [.int i1, .ref k0], h) Q = (okp h k0 9 = true ∧ Tr sc d 144 (ent0 144 [.ref k0, .int i1] h) (fun z => Tr sc (d + 1) 103 (26, [l0, l1], z.1.toList ++ [], z.2) Q)) := t_cv (as := [.int i1]) (r := []) k_103_23 rfl rfl (Nat.le_of_ble_eq_true rfl) (Nat.le_of_ble_eq_true rfl) (Nat.le_of_ble_eq_true rfl)
theorem k_103_26 : lk 103 26 = some (.ireturn, 27, 0, 0, .null) := by decide +kernel
theorem x_103_26 : Tr sc d 103 (26, [l0, l1], [.int i0], h) Q = Q (some (.int i0), h) := t_ret k_103_26 (by rw [r_103]; rfl)
theorem k_103_27 : lk 103 27 = some (.aload_n 0, 28, 0, 0, .null) := by decide +kernel
theorem x_103_27 : Tr sc d 103 (27, [some (.ref xk), l1], [], h) Q = Tr sc d 103 (28, [some (.ref xk), l1], [.ref xk], h) Q := t_aload_n k_103_27 rfl
theorem k_103_28 : lk 103 28 = some (.getfield 32, 31, 9, 4, .null) := by decide +kernel
theorem x_103_28 : Tr sc d 103 (28, [l0, l1], [.ref k0], h) Q = (okp h k0 9 = true ∧ ∃ q, hR h k0 4 = some q ∧ Tr sc d 103 (31, [l0, l1], [.ref q], h) Q) := t_getr k_103_28
theorem k_103_31 : lk 103 31 = some (.aload_n 0, 32, 0, 0, .null) := by decide +kernel
theorem x_103_31 : Tr sc d 103 (31, [some (.ref xk), l1], [.ref k0], h) Q = Tr sc d 103 (32, [some (.ref xk), l1], [.ref xk, .ref k0], h) Q := t_aload_n k_103_31 rfl
theorem k_103_32 : lk 103 32 = some (.getfield 15, 35, 9, 1, .null) := by decide +kernel
theorem x_103_32 : Tr sc d 103 (32, [l0, l1], [.ref k1, .ref k0], h) Q = (okp h k1 9 = true ∧ ∃ q, hR h k1 1 = some q ∧ Tr sc d 103 (35, [l0, l1], [.ref q, .ref k0], h) Q) := t_getr k_103_32
theorem k_103_35 : lk 103 35 = some (.iload_n 1, 36, 1, 0, .null) := by decide +kernel
theorem x_103_35 : Tr sc d 103 (35, [l0, some (.int x)], [.ref k1, .ref k0], h) Q = Tr sc d 103 (36, [l0, some (.int x)], [.int x, .ref k1, .ref k0], h) Q := t_iload_n k_103_35 rfl
theorem k_103_36 : lk 103 36 = some (.aaload, 37, 0, 0, .null) := by decide +kernel
theorem x_103_36 : Tr sc d 103 (36, [l0, l1], [.int i2, .ref k1, .ref k0], h) Q = (((okp h k1 14 || okp h k1 15) && inb i2 (LN k1)) = true ∧ ∃ q, hR h k1 i2.toNatClampNeg = some q ∧ Tr sc d 103 (37, [l0, l1], [.ref q, .ref k0], h) Q) := t_aald k_103_36
theorem k_103_37 : lk 103 37 = some (.aload_n 0, 38, 0, 0, .null) := by decide +kernel
theorem x_103_37 : Tr sc d 103 (37, [some (.ref xk), l1], [.ref k1, .ref k0], h) Q = Tr sc d 103 (38, [some (.ref xk), l1], [.ref xk, .ref k1, .ref k0], h) Q := t_aload_n k_103_37 rfl
theorem k_103_38 : lk 103 38 = some (.getfield 25, 41, 9, 3, .null) := by decide +kernel
theorem x_103_38 : Tr sc d 103 (38, [l0, l1], [.ref k2, .ref k1, .ref k0], h) Q = (okp h k2 9 = true ∧ ∃ q, hR h k2 3 = some q ∧ Tr sc d 103 (41, [l0, l1], [.ref q, .ref k1, .ref k0], h) Q) := t_getr k_103_38
theorem k_103_41 : lk 103 41 = some (.invokevirtual 155, 44, 36, 2, .null) := by decide +kernel
theorem x_103_41 : Tr sc (d + 1) 103 (41, [l0, l1], [.ref k2, .ref k1, .ref k0], h) Q = (okp h k0 4 = true ∧ Tr sc d 36 (ent0 36 [.ref k0, .ref k1, .ref k2] h) (fun z => Tr sc (d + 1) 103 (44, [l0, l1], z.1.toList ++ [], z.2) Q)) := t_cv (as := [.ref k1, .ref k2]) (r := []) k_103_41 rfl rfl (Nat.le_of_ble_eq_true rfl) (Nat.le_of_ble_eq_true rfl) (Nat.le_of_ble_eq_true rfl)
theorem k_103_44 : lk 103 44 = some (.ireturn, 45, 0, 0, .null) := by decide +kernel
theorem x_103_44 : Tr sc d 103 (44, [l0, l1], [.int i0], h) Q = Q (some (.int i0), h) := t_ret k_103_44 (by rw [r_103]; rfl)
theorem e_103 : Tr sc d 103 (ent0 103 [.ref k0, .int i1] h) Q = Tr sc d 103 (0, [some (.ref k0), some (.int i1)], [], h) Q := by
  have e : mL 103 = 2 := by decide +kernel
  unfold ent0
  rw [e]
  rfl
theorem r_104 : mR 104 = some .int := by decide +kernel
theorem k_104_0 : lk 104 0 = some (.iload_n 1, 1, 1, 0, .null) := by decide +kernel
theorem x_104_0 : Tr sc d 104 (0, [l0, some (.int x), l2], [], h) Q = Tr sc d 104 (1, [l0, some (.int x), l2], [.int x], h) Q := t_iload_n k_104_0 rfl
theorem k_104_1 : lk 104 1 = some (.invokestatic 159, 4, 142, 1, .null) := by decide +kernel
theorem x_104_1 : Tr sc (d + 1) 104 (1, [l0, l1, l2], [.int i0], h) Q = Tr sc d 142 (ent0 142 [.int i0] h) (fun z => Tr sc (d + 1) 104 (4, [l0, l1, l2], z.1.toList ++ [], z.2) Q) := t_cs (as := [.int i0]) (r := []) k_104_1 (by decide) rfl rfl (Nat.le_of_ble_eq_true rfl) (Nat.le_of_ble_eq_true rfl)
theorem k_104_4 : lk 104 4 = some (.ifCond .eq 10, 7, 14, 0, .null) := by decide +kernel
theorem x_104_4 : Tr sc d 104 (4, [l0, l1, l2], [.int i0], h) Q = if i0 = 0 then Tr sc d 104 (14, [l0, l1, l2], [], h) Q else Tr sc d 104 (7, [l0, l1, l2], [], h) Q := t_if k_104_4 rfl
theorem k_104_7 : lk 104 7 = some (.iload_n 2, 8, 2, 0, .null) := by decide +kernel
theorem x_104_7 : Tr sc d 104 (7, [l0, l1, some (.int x)], [], h) Q = Tr sc d 104 (8, [l0, l1, some (.int x)], [.int x], h) Q := t_iload_n k_104_7 rfl
theorem k_104_8 : lk 104 8 = some (.invokestatic 152, 11, 141, 1, .null) := by decide +kernel
theorem x_104_8 : Tr sc (d + 1) 104 (8, [l0, l1, l2], [.int i0], h) Q = Tr sc d 141 (ent0 141 [.int i0] h) (fun z => Tr sc (d + 1) 104 (11, [l0, l1, l2], z.1.toList ++ [], z.2) Q) := t_cs (as := [.int i0]) (r := []) k_104_8 (by decide) rfl rfl (Nat.le_of_ble_eq_true rfl) (Nat.le_of_ble_eq_true rfl)
theorem k_104_11 : lk 104 11 = some (.ifCond .ne 5, 14, 16, 0, .null) := by decide +kernel
theorem x_104_11 : Tr sc d 104 (11, [l0, l1, l2], [.int i0], h) Q = if i0 = 0 then Tr sc d 104 (14, [l0, l1, l2], [], h) Q else Tr sc d 104 (16, [l0, l1, l2], [], h) Q := t_if k_104_11 rfl
theorem k_104_14 : lk 104 14 = some (.iconst (-1), 15, 0, 0, .int (-1)) := by decide +kernel
theorem x_104_14 : Tr sc d 104 (14, [l0, l1, l2], [], h) Q = Tr sc d 104 (15, [l0, l1, l2], [.int (-1)], h) Q := t_go k_104_14 rfl
theorem k_104_15 : lk 104 15 = some (.ireturn, 16, 0, 0, .null) := by decide +kernel
theorem x_104_15 : Tr sc d 104 (15, [l0, l1, l2], [.int i0], h) Q = Q (some (.int i0), h) := t_ret k_104_15 (by rw [r_104]; rfl)
theorem k_104_16 : lk 104 16 = some (.aload_n 0, 17, 0, 0, .null) := by decide +kernel
theorem x_104_16 : Tr sc d 104 (16, [some (.ref xk), l1, l2], [], h) Q = Tr sc d 104 (17, [some (.ref xk), l1, l2], [.ref xk], h) Q := t_aload_n k_104_16 rfl
theorem k_104_17 : lk 104 17 = some (.getfield 15, 20, 9, 1, .null) := by decide +kernel
theorem x_104_17 : Tr sc d 104 (17, [l0, l1, l2], [.ref k0], h) Q = (okp h k0 9 = true ∧ ∃ q, hR h k0 1 = some q ∧ Tr sc d 104 (20, [l0, l1, l2], [.ref q], h) Q) := t_getr k_104_17
theorem k_104_20 : lk 104 20 = some (.iload_n 2, 21, 2, 0, .null) := by decide +kernel
theorem x_104_20 : Tr sc d 104 (20, [l0, l1, some (.int x)], [.ref k0], h) Q = Tr sc d 104 (21, [l0, l1, some (.int x)], [.int x, .ref k0], h) Q := t_iload_n k_104_20 rfl
theorem k_104_21 : lk 104 21 = some (.aaload, 22, 0, 0, .null) := by decide +kernel
theorem x_104_21 : Tr sc d 104 (21, [l0, l1, l2], [.int i1, .ref k0], h) Q = (((okp h k0 14 || okp h k0 15) && inb i1 (LN k0)) = true ∧ ∃ q, hR h k0 i1.toNatClampNeg = some q ∧ Tr sc d 104 (22, [l0, l1, l2], [.ref q], h) Q) := t_aald k_104_21
theorem k_104_22 : lk 104 22 = some (.invokevirtual 125, 25, 42, 0, .null) := by decide +kernel
theorem x_104_22 : Tr sc (d + 1) 104 (22, [l0, l1, l2], [.ref k0], h) Q = (okp h k0 5 = true ∧ Tr sc d 42 (ent0 42 [.ref k0] h) (fun z => Tr sc (d + 1) 104 (25, [l0, l1, l2], z.1.toList ++ [], z.2) Q)) := t_cv (as := []) (r := []) k_104_22 rfl rfl (Nat.le_of_ble_eq_true rfl) (Nat.le_of_ble_eq_true rfl) (Nat.le_of_ble_eq_true rfl)
theorem k_104_25 : lk 104 25 = some (.ifCond .eq 9, 28, 34, 0, .null) := by decide +kernel
theorem x_104_25 : Tr sc d 104 (25, [l0, l1, l2], [.int i0], h) Q = if i0 = 0 then Tr sc d 104 (34, [l0, l1, l2], [], h) Q else Tr sc d 104 (28, [l0, l1, l2], [], h) Q := t_if k_104_25 rfl
theorem k_104_28 : lk 104 28 = some (.aload_n 0, 29, 0, 0, .null) := by decide +kernel
theorem x_104_28 : Tr sc d 104 (28, [some (.ref xk), l1, l2], [], h) Q = Tr sc d 104 (29, [some (.ref xk), l1, l2], [.ref xk], h) Q := t_aload_n k_104_28 rfl
theorem k_104_29 : lk 104 29 = some (.iconst 1, 30, 0, 0, .int 1) := by decide +kernel
theorem x_104_29 : Tr sc d 104 (29, [l0, l1, l2], [.ref k0], h) Q = Tr sc d 104 (30, [l0, l1, l2], [.int 1, .ref k0], h) Q := t_go k_104_29 rfl
theorem k_104_30 : lk 104 30 = some (.invokevirtual 118, 33, 144, 1, .null) := by decide +kernel
theorem x_104_30 : Tr sc (d + 1) 104 (30, [l0, l1, l2], [.int i1, .ref k0], h) Q = (okp h k0 9 = true ∧ Tr sc d 144 (ent0 144 [.ref k0, .int i1] h) (fun z => Tr sc (d + 1) 104 (33, [l0, l1, l2], z.1.toList ++ [], z.2) Q)) := t_cv (as := [.int i1]) (r := []) k_104_30 rfl rfl (Nat.le_of_ble_eq_true rfl) (Nat.le_of_ble_eq_true rfl) (Nat.le_of_ble_eq_true rfl)
theorem k_104_33 : lk 104 33 = some (.ireturn, 34, 0, 0, .null) := by decide +kernel
theorem x_104_33 : Tr sc d 104 (33, [l0, l1, l2], [.int i0], h) Q = Q (some (.int i0), h) := t_ret k_104_33 (by rw [r_104]; rfl)
theorem k_104_34 : lk 104 34 = some (.aload_n 0, 35, 0, 0, .null) := by decide +kernel
theorem x_104_34 : Tr sc d 104 (34, [some (.ref xk), l1, l2], [], h) Q = Tr sc d 104 (35, [some (.ref xk), l1, l2], [.ref xk], h) Q := t_aload_n k_104_34 rfl
theorem k_104_35 : lk 104 35 = some (.getfield 32, 38, 9, 4, .null) := by decide +kernel
theorem x_104_35 : Tr sc d 104 (35, [l0, l1, l2], [.ref k0], h) Q = (okp h k0 9 = true ∧ ∃ q, hR h k0 4 = some q ∧ Tr sc d 104 (38, [l0, l1, l2], [.ref q], h) Q) := t_getr k_104_35
theorem k_104_38 : lk 104 38 = some (.aload_n 0, 39, 0, 0, .null) := by decide +kernel
theorem x_104_38 : Tr sc d 104 (38, [some (.ref xk), l1, l2], [.ref k0], h) Q = Tr sc d 104 (39, [some (.ref xk), l1, l2], [.ref xk, .ref k0], h) Q := t_aload_n k_104_38 rfl
theorem k_104_39 : lk 104 39 = some (.getfield 15, 42, 9, 1, .null) := by decide +kernel
theorem x_104_39 : Tr sc d 104 (39, [l0, l1, l2], [.ref k1, .ref k0], h) Q = (okp h k1 9 = true ∧ ∃ q, hR h k1 1 = some q ∧ Tr sc d 104 (42, [l0, l1, l2], [.ref q, .ref k0], h) Q) := t_getr k_104_39
theorem k_104_42 : lk 104 42 = some (.iload_n 2, 43, 2, 0, .null) := by decide +kernel
theorem x_104_42 : Tr sc d 104 (42, [l0, l1, some (.int x)], [.ref k1, .ref k0], h) Q = Tr sc d 104 (43, [l0, l1, some (.int x)], [.int x, .ref k1, .ref k0], h) Q := t_iload_n k_104_42 rfl
theorem k_104_43 : lk 104 43 = some (.aaload, 44, 0, 0, .null) := by decide +kernel
theorem x_104_43 : Tr sc d 104 (43, [l0, l1, l2], [.int i2, .ref k1, .ref k0], h) Q = (((okp h k1 14 || okp h k1 15) && inb i2 (LN k1)) = true ∧ ∃ q, hR h k1 i2.toNatClampNeg = some q ∧ Tr sc d 104 (44, [l0, l1, l2], [.ref q, .ref k0], h) Q) := t_aald k_104_43
theorem k_104_44 : lk 104 44 = some (.aload_n 0, 45, 0, 0, .null) := by decide +kernel
theorem x_104_44 : Tr sc d 104 (44, [some (.ref xk), l1, l2], [.ref k1, .ref k0], h) Q = Tr sc d 104 (45, [some (.ref xk), l1, l2], [.ref xk, .ref k1, .ref k0], h) Q := t_aload_n k_104_44 rfl
theorem k_104_45 : lk 104 45 = some (.getfield 25, 48, 9, 3, .null) := by decide +kernel
theorem x_104_45 : Tr sc d 104 (45, [l0, l1, l2], [.ref k2, .ref k1, .ref k0], h) Q = (okp h k2 9 = true ∧ ∃ q, hR h k2 3 = some q ∧ Tr sc d 104 (48, [l0, l1, l2], [.ref q, .ref k1, .ref k0], h) Q) := t_getr k_104_45
theorem k_104_48 : lk 104 48 = some (.invokevirtual 155, 51, 36, 2, .null) := by decide +kernel
theorem x_104_48 : Tr sc (d + 1) 104 (48, [l0, l1, l2], [.ref k2, .ref k1, .ref k0], h) Q = (okp h k0 4 = true ∧ Tr sc d 36 (ent0 36 [.ref k0, .ref k1, .ref k2] h) (fun z => Tr sc (d + 1) 104 (51, [l0, l1, l2], z.1.toList ++ [], z.2) Q)) := t_cv (as := [.ref k1, .ref k2]) (r := []) k_104_48 rfl rfl (Nat.le_of_ble_eq_true rfl) (Nat.le_of_ble_eq_true rfl) (Nat.le_of_ble_eq_true rfl)
theorem k_104_51 : lk 104 51 = some (.bipush (-9), 53, 0, 0, .int (-9)) := by decide +kernel
theorem x_104_51 : Tr sc d 104 (51, [l0, l1, l2], [.int i0], h) Q = Tr sc d 104 (53, [l0, l1, l2], [.int (-9), .int i0], h) Q := t_go k_104_51 rfl
theorem k_104_53 : lk 104 53 = some (.if_icmp .eq 6, 56, 59, 0, .null) := by decide +kernel
theorem x_104_53 : Tr sc d 104 (53, [l0, l1, l2], [.int i1, .int i0], h) Q = if i0 = i1 then Tr sc d 104 (59, [l0, l1, l2], [], h) Q else Tr sc d 104 (56, [l0, l1, l2], [], h) Q := t_if k_104_53 rfl
theorem k_104_56 : lk 104 56 = some (.bipush (-4), 58, 0, 0, .int (-4)) := by decide +kernel
theorem x_104_56 : Tr sc d 104 (56, [l0, l1, l2], [], h) Q = Tr sc d 104 (58, [l0, l1, l2], [.int (-4)], h) Q := t_go k_104_56 rfl
theorem k_104_58 : lk 104 58 = some (.ireturn, 59, 0, 0, .null) := by decide +kernel
theorem x_104_58 : Tr sc d 104 (58, [l0, l1, l2], [.int i0], h) Q = Q (some (.int i0), h) := t_ret k_104_58 (by rw [r_104]; rfl)
theorem k_104_59 : lk 104 59 = some (.aload_n 0, 60, 0, 0, .null) := by decide +kernel
theorem x_104_59 : Tr sc d 104 (59, [some (.ref xk), l1, l2], [], h) Q = Tr sc d 104 (60, [some (.ref xk), l1, l2], [.ref xk], h) Q := t_aload_n k_104_59 rfl
theorem k_104_60 : lk 104 60 = some (.iload_n 1, 61, 1, 0, .null) := by decide +kernel
theorem x_104_60 : Tr sc d 104 (60, [l0, some (.int x), l2], [.ref k0], h) Q = Tr sc d 104 (61, [l0, some (.int x), l2], [.int x, .ref k0], h) Q := t_iload_n k_104_60 rfl
theorem k_104_61 : lk 104 61 = some (.invokevirtual 162, 64, 149, 1, .null) := by decide +kernel
theorem x_104_61 : Tr sc (d + 1) 104 (61, [l0, l1, l2], [.int i1, .ref k0], h) Q = (okp h k0 9 = true ∧ Tr sc d 149 (ent0 149 [.ref k0, .int i1] h) (fun z => Tr sc (d + 1) 104 (64, [l0, l1, l2], z.1.toList ++ [], z.2) Q)) := t_cv (as := [.int i1]) (r := []) k_104_61 rfl rfl (Nat.le_of_ble_eq_true rfl) (Nat.le_of_ble_eq_true rfl) (Nat.le_of_ble_eq_true rfl)
theorem k_104_64 : lk 104 64 = some (.ireturn, 65, 0, 0, .null) := by decide +kernel
theorem x_104_64 : Tr sc d 104 (64, [l0, l1, l2], [.int i0], h) Q = Q (some (.int i0), h) := t_ret k_104_64 (by rw [r_104]; rfl)
theorem e_104 : Tr sc d 104 (ent0 104 [.ref k0, .int i1, .int i2] h) Q = Tr sc d 104 (0, [some (.ref k0), some (.int i1), some (.int i2)], [], h) Q := by
  have e : mL 104 = 3 := by decide +kernel
  unfold ent0
  rw [e]
  rfl
theorem r_105 : mR 105 = some .int := by decide +kernel
theorem k_105_0 : lk 105 0 = some (.aload_n 0, 1, 0, 0, .null) := by decide +kernel
theorem x_105_0 : Tr sc d 105 (0, [some (.ref xk), l1, l2, l3, l4, l5, l6], [], h) Q = Tr sc d 105 (1, [some (.ref xk), l1, l2, l3, l4, l5, l6], [.ref xk], h) Q := t_aload_n k_105_0 rfl
theorem k_105_1 : lk 105 1 = some (.iload_n 1, 2, 1, 0, .null) := by decide +kernel
theorem x_105_1 : Tr sc d 105 (1, [l0, some (.int x), l2, l3, l4, l5, l6], [.ref k0], h) Q = Tr sc d 105 (2, [l0, some (.int x), l2, l3, l4, l5, l6], [.int x, .ref k0], h) Q := t_iload_n k_105_1 rfl
theorem k_105_2 : lk 105 2 = some (.iload_n 2, 3, 2, 0, .null) := by decide +kernel
theorem x_105_2 : Tr sc d 105 (2, [l0, l1, some (.int x), l3, l4, l5, l6], [.int i1, .ref k0], h) Q = Tr sc d 105 (3, [l0, l1, some (.int x), l3, l4, l5, l6], [.int x, .int i1, .ref k0], h) Q := t_iload_n k_105_2 rfl
theorem k_105_3 : lk 105 3 = some (.iload_n 3, 4, 3, 0, .null) := by decide +kernel
theorem x_105_3 : Tr sc d 105 (3, [l0, l1, l2, some (.int x), l4, l5, l6], [.int i2, .int i1, .ref k0], h) Q = Tr sc d 105 (4, [l0, l1, l2, some (.int x), l4, l5, l6], [.int x, .int i2, .int i1, .ref k0], h) Q := t_iload_n k_105_3 rfl
theorem k_105_4 : lk 105 4 = some (.invokevirtual 165, 7, 148, 3, .null) := by decide +kernel
theorem x_105_4 : Tr sc (d + 1) 105 (4, [l0, l1, l2, l3, l4, l5, l6], [.int i3, .int i2, .int i1, .ref k0], h) Q = (okp h k0 9 = true ∧ Tr sc d 148 (ent0 148 [.ref k0, .int i1, .int i2, .int i3] h) (fun z => Tr sc (d + 1) 105 (7, [l0, l1, l2, l3, l4, l5, l6], z.1.toList ++ [], z.2) Q)) := t_cv (as := [.int i1, .int i2, .int i3]) (r := []) k_105_4 rfl rfl (Nat.le_of_ble_eq_true rfl) (Nat.le_of_ble_eq_true rfl) (Nat.le_of_ble_eq_true rfl)
theorem k_105_7 : lk 105 7 = some (.istore 4, 9, 4, 0, .null) := by decide +kernel
theorem x_105_7 : Tr sc d 105 (7, [l0, l1, l2, l3, l4, l5, l6], [.int i0], h) Q = Tr sc d 105 (9, [l0, l1, l2, cl2 l3, some (.int i0), l5, l6], [], h) Q := t_istore k_105_7 (Nat.le_of_ble_eq_true rfl)
theorem k_105_9 : lk 105 9 = some (.iload 4, 11, 4, 0, .null) := by decide +kernel
theorem x_105_9 : Tr sc d 105 (9, [l0, l1, l2, l3, some (.int x), l5, l6], [], h) Q = Tr sc d 105 (11, [l0, l1, l2, l3, some (.int x), l5, l6], [.int x], h) Q := t_iload k_105_9 rfl
theorem k_105_11 : lk 105 11 = some (.ifCond .eq 6, 14, 17, 0, .null) := by decide +kernel
theorem x_105_11 : Tr sc d 105 (11, [l0, l1, l2, l3, l4, l5, l6], [.int i0], h) Q = if i0 = 0 then Tr sc d 105 (17, [l0, l1, l2, l3, l4, l5, l6], [], h) Q else Tr sc d 105 (14, [l0, l1, l2, l3, l4, l5, l6], [], h) Q := t_if k_105_11 rfl
theorem k_105_14 : lk 105 14 = some (.iload 4, 16, 4, 0, .null) := by decide +kernel
theorem x_105_14 : Tr sc d 105 (14, [l0, l1, l2, l3, some (.int x), l5, l6], [], h) Q = Tr sc d 105 (16, [l0, l1, l2, l3, some (.int x), l5, l6], [.int x], h) Q := t_iload k_105_14 rfl
theorem k_105_16 : lk 105 16 = some (.ireturn, 17, 0, 0, .null) := by decide +kernel
theorem x_105_16 : Tr sc d 105 (16, [l0, l1, l2, l3, l4, l5, l6], [.int i0], h) Q = Q (some (.int i0), h) := t_ret k_105_16 (by rw [r_105]; rfl)
theorem k_105_17 : lk 105 17 = some (.aload_n 0, 18, 0, 0, .null) := by decide +kernel
theorem x_105_17 : Tr sc d 105 (17, [some (.ref xk), l1, l2, l3, l4, l5, l6], [], h) Q = Tr sc d 105 (18, [some (.ref xk), l1, l2, l3, l4, l5, l6], [.ref xk], h) Q := t_aload_n k_105_17 rfl
theorem k_105_18 : lk 105 18 = some (.getfield 11, 21, 9, 0, .null) := by decide +kernel
theorem x_105_18 : Tr sc d 105 (18, [l0, l1, l2, l3, l4, l5, l6], [.ref k0], h) Q = (okp h k0 9 = true ∧ ∃ q, hR h k0 0 = some q ∧ Tr sc d 105 (21, [l0, l1, l2, l3, l4, l5, l6], [.ref q], h) Q) := t_getr k_105_18
theorem k_105_21 : lk 105 21 = some (.iload_n 3, 22, 3, 0, .null) := by decide +kernel
theorem x_105_21 : Tr sc d 105 (21, [l0, l1, l2, some (.int x), l4, l5, l6], [.ref k0], h) Q = Tr sc d 105 (22, [l0, l1, l2, some (.int x), l4, l5, l6], [.int x, .ref k0], h) Q := t_iload_n k_105_21 rfl
theorem k_105_22 : lk 105 22 = some (.aaload, 23, 0, 0, .null) := by decide +kernel
theorem x_105_22 : Tr sc d 105 (22, [l0, l1, l2, l3, l4, l5, l6], [.int i1, .ref k0], h) Q = (((okp h k0 14 || okp h k0 15) && inb i1 (LN k0)) = true ∧ ∃ q, hR h k0 i1.toNatClampNeg = some q ∧ Tr sc d 105 (23, [l0, l1, l2, l3, l4, l5, l6], [.ref q], h) Q) := t_aald k_105_22
theorem k_105_23 : lk 105 23 = some (.astore 5, 25, 5, 0, .null) := by decide +kernel
theorem x_105_23 : Tr sc d 105 (23, [l0, l1, l2, l3, l4, l5, l6], [.ref k0], h) Q = Tr sc d 105 (25, [l0, l1, l2, l3, cl2 l4, some (.ref k0), l6], [], h) Q := t_astore k_105_23 (Nat.le_of_ble_eq_true rfl)
theorem k_105_25 : lk 105 25 = some (.iconst 0, 26, 0, 0, .int 0) := by decide +kernel
theorem x_105_25 : Tr sc d 105 (25, [l0, l1, l2, l3, l4, l5, l6], [], h) Q = Tr sc d 105 (26, [l0, l1, l2, l3, l4, l5, l6], [.int 0], h) Q := t_go k_105_25 rfl
theorem k_105_26 : lk 105 26 = some (.istore 6, 28, 6, 0, .null) := by decide +kernel
theorem x_105_26 : Tr sc d 105 (26, [l0, l1, l2, l3, l4, l5, l6], [.int i0], h) Q = Tr sc d 105 (28, [l0, l1, l2, l3, l4, cl2 l5, some (.int i0)], [], h) Q := t_istore k_105_26 (Nat.le_of_ble_eq_true rfl)
theorem k_105_28 : lk 105 28 = some (.iload 6, 30, 6, 0, .null) := by decide +kernel
theorem x_105_28 : Tr sc d 105 (28, [l0, l1, l2, l3, l4, l5, some (.int x)], [], h) Q = Tr sc d 105 (30, [l0, l1, l2, l3, l4, l5, some (.int x)], [.int x], h) Q := t_iload k_105_28 rfl
theorem k_105_30 : lk 105 30 = some (.aload 5, 32, 5, 0, .null) := by decide +kernel
theorem x_105_30 : Tr sc d 105 (30, [l0, l1, l2, l3, l4, some (.ref xk), l6], [.int i0], h) Q = Tr sc d 105 (32, [l0, l1, l2, l3, l4, some (.ref xk), l6], [.ref xk, .int i0], h) Q := t_aload k_105_30 rfl
theorem k_105_32 : lk 105 32 = some (.getfield 135, 35, 5, 1, .int 0) := by decide +kernel
theorem x_105_32 : Tr sc d 105 (32, [l0, l1, l2, l3, l4, l5, l6], [.ref k1, .int i0], h) Q = (okp h k1 5 = true ∧ Tr sc d 105 (35, [l0, l1, l2, l3, l4, l5, l6], [.int (hI h k1 1), .int i0], h) Q) := t_gd k_105_32 rfl
theorem k_105_35 : lk 105 35 = some (.if_icmp .ge 40, 38, 75, 0, .null) := by decide +kernel
theorem x_105_35 : Tr sc d 105 (35, [l0, l1, l2, l3, l4, l5, l6], [.int i1, .int i0], h) Q = if i1 ≤ i0 then Tr sc d 105 (75, [l0, l1, l2, l3, l4, l5, l6], [], h) Q else Tr sc d 105 (38, [l0, l1, l2, l3, l4, l5, l6], [], h) Q := t_if k_105_35 rfl
theorem k_105_38 : lk 105 38 = some (.aload 5, 40, 5, 0, .null) := by decide +kernel
theorem x_105_38 : Tr sc d 105 (38, [l0, l1, l2, l3, l4, some (.ref xk), l6], [], h) Q = Tr sc d 105 (40, [l0, l1, l2, l3, l4, some (.ref xk), l6], [.ref xk], h) Q := t_aload k_105_38 rfl
theorem k_105_40 : lk 105 40 = some (.getfield 132, 43, 5, 0, .null) := by decide +kernel
theorem x_105_40 : Tr sc d 105 (40, [l0, l1, l2, l3, l4, l5, l6], [.ref k0], h) Q = (okp h k0 5 = true ∧ ∃ q, hR h k0 0 = some q ∧ Tr sc d 105 (43, [l0, l1, l2, l3, l4, l5, l6], [.ref q], h) Q) := t_getr k_105_40
theorem k_105_43 : lk 105 43 = some (.iload 6, 45, 6, 0, .null) := by decide +kernel
theorem x_105_43 : Tr sc d 105 (43, [l0, l1, l2, l3, l4, l5, some (.int x)], [.ref k0], h) Q = Tr sc d 105 (45, [l0, l1, l2, l3, l4, l5, some (.int x)], [.int x, .ref k0], h) Q := t_iload k_105_43 rfl
theorem k_105_45 : lk 105 45 = some (.iaload, 46, 0, 0, .null) := by decide +kernel
theorem x_105_45 : Tr sc d 105 (45, [l0, l1, l2, l3, l4, l5, l6], [.int i1, .ref k0], h) Q = (iOk sc h k0 i1 ∧ Tr sc d 105 (46, [l0, l1, l2, l3, l4, l5, l6], [.int (iRd sc h k0 i1)], h) Q) := t_iald k_105_45
theorem k_105_46 : lk 105 46 = some (.iconst 1, 47, 0, 0, .int 1) := by decide +kernel
theorem x_105_46 : Tr sc d 105 (46, [l0, l1, l2, l3, l4, l5, l6], [.int i0], h) Q = Tr sc d 105 (47, [l0, l1, l2, l3, l4, l5, l6], [.int 1, .int i0], h) Q := t_go k_105_46 rfl
theorem k_105_47 : lk 105 47 = some (.if_icmp .lt 16, 50, 63, 0, .null) := by decide +kernel
theorem x_105_47 : Tr sc d 105 (47, [l0, l1, l2, l3, l4, l5, l6], [.int i1, .int i0], h) Q = if i0 < i1 then Tr sc d 105 (63, [l0, l1, l2, l3, l4, l5, l6], [], h) Q else Tr sc d 105 (50, [l0, l1, l2, l3, l4, l5, l6], [], h) Q := t_if k_105_47 rfl
theorem k_105_50 : lk 105 50 = some (.aload 5, 52, 5, 0, .null) := by decide +kernel
theorem x_105_50 : Tr sc d 105 (50, [l0, l1, l2, l3, l4, some (.ref xk), l6], [], h) Q = Tr sc d 105 (52, [l0, l1, l2, l3, l4, some (.ref xk), l6], [.ref xk], h) Q := t_aload k_105_50 rfl
theorem k_105_52 : lk 105 52 = some (.getfield 132, 55, 5, 0, .null) := by decide +kernel
theorem x_105_52 : Tr sc d 105 (52, [l0, l1, l2, l3, l4, l5, l6], [.ref k0], h) Q = (okp h k0 5 = true ∧ ∃ q, hR h k0 0 = some q ∧ Tr sc d 105 (55, [l0, l1, l2, l3, l4, l5, l6], [.ref q], h) Q) := t_getr k_105_52
theorem k_105_55 : lk 105 55 = some (.iload 6, 57, 6, 0, .null) := by decide +kernel
theorem x_105_55 : Tr sc d 105 (55, [l0, l1, l2, l3, l4, l5, some (.int x)], [.ref k0], h) Q = Tr sc d 105 (57, [l0, l1, l2, l3, l4, l5, some (.int x)], [.int x, .ref k0], h) Q := t_iload k_105_55 rfl
theorem k_105_57 : lk 105 57 = some (.iaload, 58, 0, 0, .null) := by decide +kernel
theorem x_105_57 : Tr sc d 105 (57, [l0, l1, l2, l3, l4, l5, l6], [.int i1, .ref k0], h) Q = (iOk sc h k0 i1 ∧ Tr sc d 105 (58, [l0, l1, l2, l3, l4, l5, l6], [.int (iRd sc h k0 i1)], h) Q) := t_iald k_105_57
theorem k_105_58 : lk 105 58 = some (.bipush 99, 60, 0, 0, .int 99) := by decide +kernel
theorem x_105_58 : Tr sc d 105 (58, [l0, l1, l2, l3, l4, l5, l6], [.int i0], h) Q = Tr sc d 105 (60, [l0, l1, l2, l3, l4, l5, l6], [.int 99, .int i0], h) Q := t_go k_105_58 rfl
theorem k_105_60 : lk 105 60 = some (.if_icmp .le 9, 63, 69, 0, .null) := by decide +kernel
theorem x_105_60 : Tr sc d 105 (60, [l0, l1, l2, l3, l4, l5, l6], [.int i1, .int i0], h) Q = if i0 ≤ i1 then Tr sc d 105 (69, [l0, l1, l2, l3, l4, l5, l6], [], h) Q else Tr sc d 105 (63, [l0, l1, l2, l3, l4, l5, l6], [], h) Q := t_if k_105_60 rfl
theorem k_105_63 : lk 105 63 = some (.aload_n 0, 64, 0, 0, .null) := by decide +kernel
theorem x_105_63 : Tr sc d 105 (63, [some (.ref xk), l1, l2, l3, l4, l5, l6], [], h) Q = Tr sc d 105 (64, [some (.ref xk), l1, l2, l3, l4, l5, l6], [.ref xk], h) Q := t_aload_n k_105_63 rfl
theorem k_105_64 : lk 105 64 = some (.iconst 3, 65, 0, 0, .int 3) := by decide +kernel
theorem x_105_64 : Tr sc d 105 (64, [l0, l1, l2, l3, l4, l5, l6], [.ref k0], h) Q = Tr sc d 105 (65, [l0, l1, l2, l3, l4, l5, l6], [.int 3, .ref k0], h) Q := t_go k_105_64 rfl
theorem k_105_65 : lk 105 65 = some (.invokevirtual 118, 68, 144, 1, .null) := by decide +kernel
theorem x_105_65 : Tr sc (d + 1) 105 (65, [l0, l1, l2, l3, l4, l5, l6], [.int i1, .ref k0], h) Q = (okp h k0 9 = true ∧ Tr sc d 144 (ent0 144 [.ref k0, .int i1] h) (fun z => Tr sc (d + 1) 105 (68, [l0, l1, l2, l3, l4, l5, l6], z.1.toList ++ [], z.2) Q)) := t_cv (as := [.int i1]) (r := []) k_105_65 rfl rfl (Nat.le_of_ble_eq_true rfl) (Nat.le_of_ble_eq_true rfl) (Nat.le_of_ble_eq_true rfl)
theorem k_105_68 : lk 105 68 = some (.ireturn, 69, 0, 0, .null) := by decide +kernel
theorem x_105_68 : Tr sc d 105 (68, [l0, l1, l2, l3, l4, l5, l6], [.int i0], h) Q = Q (some (.int i0), h) := t_ret k_105_68 (by rw [r_105]; rfl)
theorem k_105_69 : lk 105 69 = some (.iinc 6 1, 72, 6, 0, .int 1) := by decide +kernel
theorem x_105_69 : Tr sc d 105 (69, [l0, l1, l2, l3, l4, l5, some (.int x)], [], h) Q = Tr sc d 105 (72, [l0, l1, l2, l3, l4, cl2 l5, some (.int (x + 1))], [], h) Q := t_inc k_105_69 rfl (Nat.le_of_ble_eq_true rfl)
theorem k_105_72 : lk 105 72 = some (.goto (-44), 75, 28, 0, .null) := by decide +kernel
theorem x_105_72 : Tr sc d 105 (72, [l0, l1, l2, l3, l4, l5, l6], [], h) Q = Tr sc d 105 (28, [l0, l1, l2, l3, l4, l5, l6], [], h) Q := t_go k_105_72 rfl
theorem k_105_75 : lk 105 75 = some (.aload_n 0, 76, 0, 0, .null) := by decide +kernel
theorem x_105_75 : Tr sc d 105 (75, [some (.ref xk), l1, l2, l3, l4, l5, l6], [], h) Q = Tr sc d 105 (76, [some (.ref xk), l1, l2, l3, l4, l5, l6], [.ref xk], h) Q := t_aload_n k_105_75 rfl
theorem k_105_76 : lk 105 76 = some (.getfield 20, 79, 9, 2, .null) := by decide +kernel
theorem x_105_76 : Tr sc d 105 (76, [l0, l1, l2, l3, l4, l5, l6], [.ref k0], h) Q = (okp h k0 9 = true ∧ ∃ q, hR h k0 2 = some q ∧ Tr sc d 105 (79, [l0, l1, l2, l3, l4, l5, l6], [.ref q], h) Q) := t_getr k_105_76
theorem k_105_79 : lk 105 79 = some (.iload_n 1, 80, 1, 0, .null) := by decide +kernel
theorem x_105_79 : Tr sc d 105 (79, [l0, some (.int x), l2, l3, l4, l5, l6], [.ref k0], h) Q = Tr sc d 105 (80, [l0, some (.int x), l2, l3, l4, l5, l6], [.int x, .ref k0], h) Q := t_iload_n k_105_79 rfl
theorem k_105_80 : lk 105 80 = some (.aaload, 81, 0, 0, .null) := by decide +kernel
theorem x_105_80 : Tr sc d 105 (80, [l0, l1, l2, l3, l4, l5, l6], [.int i1, .ref k0], h) Q = (((okp h k0 14 || okp h k0 15) && inb i1 (LN k0)) = true ∧ ∃ q, hR h k0 i1.toNatClampNeg = some q ∧ Tr sc d 105 (81, [l0, l1, l2, l3, l4, l5, l6], [.ref q], h) Q) := t_aald k_105_80
theorem k_105_81 : lk 105 81 = some (.aload_n 0, 82, 0, 0, .null) := by decide +kernel
theorem x_105_81 : Tr sc d 105 (81, [some (.ref xk), l1, l2, l3, l4, l5, l6], [.ref k0], h) Q = Tr sc d 105 (82, [some (.ref xk), l1, l2, l3, l4, l5, l6], [.ref xk, .ref k0], h) Q := t_aload_n k_105_81 rfl
theorem k_105_82 : lk 105 82 = some (.getfield 20, 85, 9, 2, .null) := by decide +kernel
theorem x_105_82 : Tr sc d 105 (82, [l0, l1, l2, l3, l4, l5, l6], [.ref k1, .ref k0], h) Q = (okp h k1 9 = true ∧ ∃ q, hR h k1 2 = some q ∧ Tr sc d 105 (85, [l0, l1, l2, l3, l4, l5, l6], [.ref q, .ref k0], h) Q) := t_getr k_105_82
theorem k_105_85 : lk 105 85 = some (.iload_n 2, 86, 2, 0, .null) := by decide +kernel
theorem x_105_85 : Tr sc d 105 (85, [l0, l1, some (.int x), l3, l4, l5, l6], [.ref k1, .ref k0], h) Q = Tr sc d 105 (86, [l0, l1, some (.int x), l3, l4, l5, l6], [.int x, .ref k1, .ref k0], h) Q := t_iload_n k_105_85 rfl
theorem k_105_86 : lk 105 86 = some (.aaload, 87, 0, 0, .null) := by decide +kernel
theorem x_105_86 : Tr sc d 105 (86, [l0, l1, l2, l3, l4, l5, l6], [.int i2, .ref k1, .ref k0], h) Q = (((okp h k1 14 || okp h k1 15) && inb i2 (LN k1)) = true ∧ ∃ q, hR h k1 i2.toNatClampNeg = some q ∧ Tr sc d 105 (87, [l0, l1, l2, l3, l4, l5, l6], [.ref q, .ref k0], h) Q) := t_aald k_105_86
theorem k_105_87 : lk 105 87 = some (.invokevirtual 169, 90, 53, 1, .null) := by decide +kernel
theorem x_105_87 : Tr sc (d + 1) 105 (87, [l0, l1, l2, l3, l4, l5, l6], [.ref k1, .ref k0], h) Q = (okp h k0 6 = true ∧ Tr sc d 53 (ent0 53 [.ref k0, .ref k1] h) (fun z => Tr sc (d + 1) 105 (90, [l0, l1, l2, l3, l4, l5, l6], z.1.toList ++ [], z.2) Q)) := t_cv (as := [.ref k1]) (r := []) k_105_87 rfl rfl (Nat.le_of_ble_eq_true rfl) (Nat.le_of_ble_eq_true rfl) (Nat.le_of_ble_eq_true rfl)
theorem k_105_90 : lk 105 90 = some (.aload_n 0, 91, 0, 0, .null) := by decide +kernel
theorem x_105_90 : Tr sc d 105 (90, [some (.ref xk), l1, l2, l3, l4, l5, l6], [], h) Q = Tr sc d 105 (91, [some (.ref xk), l1, l2, l3, l4, l5, l6], [.ref xk], h) Q := t_aload_n k_105_90 rfl
theorem k_105_91 : lk 105 91 = some (.getfield 20, 94, 9, 2, .null) := by decide +kernel
theorem x_105_91 : Tr sc d 105 (91, [l0, l1, l2, l3, l4, l5, l6], [.ref k0], h) Q = (okp h k0 9 = true ∧ ∃ q, hR h k0 2 = some q ∧ Tr sc d 105 (94, [l0, l1, l2, l3, l4, l5, l6], [.ref q], h) Q) := t_getr k_105_91
theorem k_105_94 : lk 105 94 = some (.iload_n 1, 95, 1, 0, .null) := by decide +kernel
theorem x_105_94 : Tr sc d 105 (94, [l0, some (.int x), l2, l3, l4, l5, l6], [.ref k0], h) Q = Tr sc d 105 (95, [l0, some (.int x), l2, l3, l4, l5, l6], [.int x, .ref k0], h) Q := t_iload_n k_105_94 rfl
theorem k_105_95 : lk 105 95 = some (.aaload, 96, 0, 0, .null) := by decide +kernel
theorem x_105_95 : Tr sc d 105 (95, [l0, l1, l2, l3, l4, l5, l6], [.int i1, .ref k0], h) Q = (((okp h k0 14 || okp h k0 15) && inb i1 (LN k0)) = true ∧ ∃ q, hR h k0 i1.toNatClampNeg = some q ∧ Tr sc d 105 (96, [l0, l1, l2, l3, l4, l5, l6], [.ref q], h) Q) := t_aald k_105_95
theorem k_105_96 : lk 105 96 = some (.iconst 3, 97, 0, 0, .int 3) := by decide +kernel
theorem x_105_96 : Tr sc d 105 (96, [l0, l1, l2, l3, l4, l5, l6], [.ref k0], h) Q = Tr sc d 105 (97, [l0, l1, l2, l3, l4, l5, l6], [.int 3, .ref k0], h) Q := t_go k_105_96 rfl
theorem k_105_97 : lk 105 97 = some (.aload 5, 99, 5, 0, .null) := by decide +kernel
theorem x_105_97 : Tr sc d 105 (97, [l0, l1, l2, l3, l4, some (.ref xk), l6], [.int i1, .ref k0], h) Q = Tr sc d 105 (99, [l0, l1, l2, l3, l4, some (.ref xk), l6], [.ref xk, .int i1, .ref k0], h) Q := t_aload k_105_97 rfl
theorem k_105_99 : lk 105 99 = some (.invokevirtual 173, 102, 54, 2, .null) := by decide +kernel
theorem x_105_99 : Tr sc (d + 1) 105 (99, [l0, l1, l2, l3, l4, l5, l6], [.ref k2, .int i1, .ref k0], h) Q = (okp h k0 6 = true ∧ Tr sc d 54 (ent0 54 [.ref k0, .int i1, .ref k2] h) (fun z => Tr sc (d + 1) 105 (102, [l0, l1, l2, l3, l4, l5, l6], z.1.toList ++ [], z.2) Q)) := t_cv (as := [.int i1, .ref k2]) (r := []) k_105_99 rfl rfl (Nat.le_of_ble_eq_true rfl) (Nat.le_of_ble_eq_true rfl) (Nat.le_of_ble_eq_true rfl)
theorem k_105_102 : lk 105 102 = some (.aload_n 0, 103, 0, 0, .null) := by decide +kernel
theorem x_105_102 : Tr sc d 105 (102, [some (.ref xk), l1, l2, l3, l4, l5, l6], [], h) Q = Tr sc d 105 (103, [some (.ref xk), l1, l2, l3, l4, l5, l6], [.ref xk], h) Q := t_aload_n k_105_102 rfl
theorem k_105_103 : lk 105 103 = some (.getfield 20, 106, 9, 2, .null) := by decide +kernel
theorem x_105_103 : Tr sc d 105 (103, [l0, l1, l2, l3, l4, l5, l6], [.ref k0], h) Q = (okp h k0 9 = true ∧ ∃ q, hR h k0 2 = some q ∧ Tr sc d 105 (106, [l0, l1, l2, l3, l4, l5, l6], [.ref q], h) Q) := t_getr k_105_103
theorem k_105_106 : lk 105 106 = some (.iload_n 1, 107, 1, 0, .null) := by decide +kernel
theorem x_105_106 : Tr sc d 105 (106, [l0, some (.int x), l2, l3, l4, l5, l6], [.ref k0], h) Q = Tr sc d 105 (107, [l0, some (.int x), l2, l3, l4, l5, l6], [.int x, .ref k0], h) Q := t_iload_n k_105_106 rfl
theorem k_105_107 : lk 105 107 = some (.aaload, 108, 0, 0, .null) := by decide +kernel
theorem x_105_107 : Tr sc d 105 (107, [l0, l1, l2, l3, l4, l5, l6], [.int i1, .ref k0], h) Q = (((okp h k0 14 || okp h k0 15) && inb i1 (LN k0)) = true ∧ ∃ q, hR h k0 i1.toNatClampNeg = some q ∧ Tr sc d 105 (108, [l0, l1, l2, l3, l4, l5, l6], [.ref q], h) Q) := t_aald k_105_107
theorem k_105_108 : lk 105 108 = some (.invokevirtual 177, 111, 57, 0, .null) := by decide +kernel
theorem x_105_108 : Tr sc (d + 1) 105 (108, [l0, l1, l2, l3, l4, l5, l6], [.ref k0], h) Q = (okp h k0 6 = true ∧ Tr sc d 57 (ent0 57 [.ref k0] h) (fun z => Tr sc (d + 1) 105 (111, [l0, l1, l2, l3, l4, l5, l6], z.1.toList ++ [], z.2) Q)) := t_cv (as := []) (r := []) k_105_108 rfl rfl (Nat.le_of_ble_eq_true rfl) (Nat.le_of_ble_eq_true rfl) (Nat.le_of_ble_eq_true rfl)
theorem k_105_111 : lk 105 111 = some (.ireturn, 112, 0, 0, .null) := by decide +kernel
theorem x_105_111 : Tr sc d 105 (111, [l0, l1, l2, l3, l4, l5, l6], [.int i0], h) Q = Q (some (.int i0), h) := t_ret k_105_111 (by rw [r_105]; rfl)
theorem e_105 : Tr sc d 105 (ent0 105 [.ref k0, .int i1, .int i2, .int i3] h) Q = Tr sc d 105 (0, [some (.ref k0), some (.int i1), some (.int i2), some (.int i3), none, none, none], [], h) Q := by
  have e : mL 105 = 7 := by decide +kernel
  unfold ent0
  rw [e]
  rfl
theorem r_106 : mR 106 = some .int := by decide +kernel
theorem k_106_0 : lk 106 0 = some (.aload_n 0, 1, 0, 0, .null) := by decide +kernel
theorem x_106_0 : Tr sc d 106 (0, [some (.ref xk), l1, l2, l3, l4, l5, l6], [], h) Q = Tr sc d 106 (1, [some (.ref xk), l1, l2, l3, l4, l5, l6], [.ref xk], h) Q := t_aload_n k_106_0 rfl
theorem k_106_1 : lk 106 1 = some (.iload_n 1, 2, 1, 0, .null) := by decide +kernel
theorem x_106_1 : Tr sc d 106 (1, [l0, some (.int x), l2, l3, l4, l5, l6], [.ref k0], h) Q = Tr sc d 106 (2, [l0, some (.int x), l2, l3, l4, l5, l6], [.int x, .ref k0], h) Q := t_iload_n k_106_1 rfl
theorem k_106_2 : lk 106 2 = some (.iload_n 2, 3, 2, 0, .null) := by decide +kernel
theorem x_106_2 : Tr sc d 106 (2, [l0, l1, some (.int x), l3, l4, l5, l6], [.int i1, .ref k0], h) Q = Tr sc d 106 (3, [l0, l1, some (.int x), l3, l4, l5, l6], [.int x, .int i1, .ref k0], h) Q := t_iload_n k_106_2 rfl
theorem k_106_3 : lk 106 3 = some (.iload_n 3, 4, 3, 0, .null) := by decide +kernel
theorem x_106_3 : Tr sc d 106 (3, [l0, l1, l2, some (.int x), l4, l5, l6], [.int i2, .int i1, .ref k0], h) Q = Tr sc d 106 (4, [l0, l1, l2, some (.int x), l4, l5, l6], [.int x, .int i2, .int i1, .ref k0], h) Q := t_iload_n k_106_3 rfl
theorem k_106_4 : lk 106 4 = some (.invokevirtual 165, 7, 148, 3, .null) := by decide +kernel
theorem x_106_4 : Tr sc (d + 1) 106 (4, [l0, l1, l2, l3, l4, l5, l6], [.int i3, .int i2, .int i1, .ref k0], h) Q = (okp h k0 9 = true ∧ Tr sc d 148 (ent0 148 [.ref k0, .int i1, .int i2, .int i3] h) (fun z => Tr sc (d + 1) 106 (7, [l0, l1, l2, l3, l4, l5, l6], z.1.toList ++ [], z.2) Q)) := t_cv (as := [.int i1, .int i2, .int i3]) (r := []) k_106_4 rfl rfl (Nat.le_of_ble_eq_true rfl) (Nat.le_of_ble_eq_true rfl) (Nat.le_of_ble_eq_true rfl)
theorem k_106_7 : lk 106 7 = some (.istore 4, 9, 4, 0, .null) := by decide +kernel
theorem x_106_7 : Tr sc d 106 (7, [l0, l1, l2, l3, l4, l5, l6], [.int i0], h) Q = Tr sc d 106 (9, [l0, l1, l2, cl2 l3, some (.int i0), l5, l6], [], h) Q := t_istore k_106_7 (Nat.le_of_ble_eq_true rfl)
theorem k_106_9 : lk 106 9 = some (.iload 4, 11, 4, 0, .null) := by decide +kernel
theorem x_106_9 : Tr sc d 106 (9, [l0, l1, l2, l3, some (.int x), l5, l6], [], h) Q = Tr sc d 106 (11, [l0, l1, l2, l3, some (.int x), l5, l6], [.int x], h) Q := t_iload k_106_9 rfl
theorem k_106_11 : lk 106 11 = some (.ifCond .eq 6, 14, 17, 0, .null) := by decide +kernel
theorem x_106_11 : Tr sc d 106 (11, [l0, l1, l2, l3, l4, l5, l6], [.int i0], h) Q = if i0 = 0 then Tr sc d 106 (17, [l0, l1, l2, l3, l4, l5, l6], [], h) Q else Tr sc d 106 (14, [l0, l1, l2, l3, l4, l5, l6], [], h) Q := t_if k_106_11 rfl
theorem k_106_14 : lk 106 14 = some (.iload 4, 16, 4, 0, .null) := by decide +kernel
theorem x_106_14 : Tr sc d 106 (14, [l0, l1, l2, l3, some (.int x), l5, l6], [], h) Q = Tr sc d 106 (16, [l0, l1, l2, l3, some (.int x), l5, l6], [.int x], h) Q := t_iload k_106_14 rfl
theorem k_106_16 : lk 106 16 = some (.ireturn, 17, 0, 0, .null) := by decide +kernel
theorem x_106_16 : Tr sc d 106 (16, [l0, l1, l2, l3, l4, l5, l6], [.int i0], h) Q = Q (some (.int i0), h) := t_ret k_106_16 (by rw [r_106]; rfl)
theorem k_106_17 : lk 106 17 = some (.aload_n 0, 18, 0, 0, .null) := by decide +kernel
theorem x_106_17 : Tr sc d 106 (17, [some (.ref xk), l1, l2, l3, l4, l5, l6], [], h) Q = Tr sc d 106 (18, [some (.ref xk), l1, l2, l3, l4, l5, l6], [.ref xk], h) Q := t_aload_n k_106_17 rfl
theorem k_106_18 : lk 106 18 = some (.getfield 11, 21, 9, 0, .null) := by decide +kernel
theorem x_106_18 : Tr sc d 106 (18, [l0, l1, l2, l3, l4, l5, l6], [.ref k0], h) Q = (okp h k0 9 = true ∧ ∃ q, hR h k0 0 = some q ∧ Tr sc d 106 (21, [l0, l1, l2, l3, l4, l5, l6], [.ref q], h) Q) := t_getr k_106_18
theorem k_106_21 : lk 106 21 = some (.iload_n 3, 22, 3, 0, .null) := by decide +kernel
theorem x_106_21 : Tr sc d 106 (21, [l0, l1, l2, some (.int x), l4, l5, l6], [.ref k0], h) Q = Tr sc d 106 (22, [l0, l1, l2, some (.int x), l4, l5, l6], [.int x, .ref k0], h) Q := t_iload_n k_106_21 rfl
theorem k_106_22 : lk 106 22 = some (.aaload, 23, 0, 0, .null) := by decide +kernel
theorem x_106_22 : Tr sc d 106 (22, [l0, l1, l2, l3, l4, l5, l6], [.int i1, .ref k0], h) Q = (((okp h k0 14 || okp h k0 15) && inb i1 (LN k0)) = true ∧ ∃ q, hR h k0 i1.toNatClampNeg = some q ∧ Tr sc d 106 (23, [l0, l1, l2, l3, l4, l5, l6], [.ref q], h) Q) := t_aald k_106_22
theorem k_106_23 : lk 106 23 = some (.astore 5, 25, 5, 0, .null) := by decide +kernel
theorem x_106_23 : Tr sc d 106 (23, [l0, l1, l2, l3, l4, l5, l6], [.ref k0], h) Q = Tr sc d 106 (25, [l0, l1, l2, l3, cl2 l4, some (.ref k0), l6], [], h) Q := t_astore k_106_23 (Nat.le_of_ble_eq_true rfl)
theorem k_106_25 : lk 106 25 = some (.iconst 0, 26, 0, 0, .int 0) := by decide +kernel
theorem x_106_25 : Tr sc d 106 (25, [l0, l1, l2, l3, l4, l5, l6], [], h) Q = Tr sc d 106 (26, [l0, l1, l2, l3, l4, l5, l6], [.int 0], h) Q := t_go k_106_25 rfl
theorem k_106_26 : lk 106 26 = some (.istore 6, 28, 6, 0, .null) := by decide +kernel
theorem x_106_26 : Tr sc d 106 (26, [l0, l1, l2, l3, l4, l5, l6], [.int i0], h) Q = Tr sc d 106 (28, [l0, l1, l2, l3, l4, cl2 l5, some (.int i0)], [], h) Q := t_istore k_106_26 (Nat.le_of_ble_eq_true rfl)
theorem k_106_28 : lk 106 28 = some (.iload 6, 30, 6, 0, .null) := by decide +kernel
theorem x_106_28 : Tr sc d 106 (28, [l0, l1, l2, l3, l4, l5, some (.int x)], [], h) Q = Tr sc d 106 (30, [l0, l1, l2, l3, l4, l5, some (.int x)], [.int x], h) Q := t_iload k_106_28 rfl
theorem k_106_30 : lk 106 30 = some (.aload 5, 32, 5, 0, .null) := by decide +kernel
theorem x_106_30 : Tr sc d 106 (30, [l0, l1, l2, l3, l4, some (.ref xk), l6], [.int i0], h) Q = Tr sc d 106 (32, [l0, l1, l2, l3, l4, some (.ref xk), l6], [.ref xk, .int i0], h) Q := t_aload k_106_30 rfl
theorem k_106_32 : lk 106 32 = some (.getfield 135, 35, 5, 1, .int 0) := by decide +kernel
theorem x_106_32 : Tr sc d 106 (32, [l0, l1, l2, l3, l4, l5, l6], [.ref k1, .int i0], h) Q = (okp h k1 5 = true ∧ Tr sc d 106 (35, [l0, l1, l2, l3, l4, l5, l6], [.int (hI h k1 1), .int i0], h) Q) := t_gd k_106_32 rfl
theorem k_106_35 : lk 106 35 = some (.if_icmp .ge 48, 38, 83, 0, .null) := by decide +kernel
theorem x_106_35 : Tr sc d 106 (35, [l0, l1, l2, l3, l4, l5, l6], [.int i1, .int i0], h) Q = if i1 ≤ i0 then Tr sc d 106 (83, [l0, l1, l2, l3, l4, l5, l6], [], h) Q else Tr sc d 106 (38, [l0, l1, l2, l3, l4, l5, l6], [], h) Q := t_if k_106_35 rfl
theorem k_106_38 : lk 106 38 = some (.aload 5, 40, 5, 0, .null) := by decide +kernel
theorem x_106_38 : Tr sc d 106 (38, [l0, l1, l2, l3, l4, some (.ref xk), l6], [], h) Q = Tr sc d 106 (40, [l0, l1, l2, l3, l4, some (.ref xk), l6], [.ref xk], h) Q := t_aload k_106_38 rfl
theorem k_106_40 : lk 106 40 = some (.getfield 132, 43, 5, 0, .null) := by decide +kernel
theorem x_106_40 : Tr sc d 106 (40, [l0, l1, l2, l3, l4, l5, l6], [.ref k0], h) Q = (okp h k0 5 = true ∧ ∃ q, hR h k0 0 = some q ∧ Tr sc d 106 (43, [l0, l1, l2, l3, l4, l5, l6], [.ref q], h) Q) := t_getr k_106_40
theorem k_106_43 : lk 106 43 = some (.iload 6, 45, 6, 0, .null) := by decide +kernel
theorem x_106_43 : Tr sc d 106 (43, [l0, l1, l2, l3, l4, l5, some (.int x)], [.ref k0], h) Q = Tr sc d 106 (45, [l0, l1, l2, l3, l4, l5, some (.int x)], [.int x, .ref k0], h) Q := t_iload k_106_43 rfl
theorem k_106_45 : lk 106 45 = some (.iaload, 46, 0, 0, .null) := by decide +kernel
theorem x_106_45 : Tr sc d 106 (45, [l0, l1, l2, l3, l4, l5, l6], [.int i1, .ref k0], h) Q = (iOk sc h k0 i1 ∧ Tr sc d 106 (46, [l0, l1, l2, l3, l4, l5, l6], [.int (iRd sc h k0 i1)], h) Q) := t_iald k_106_45
theorem k_106_46 : lk 106 46 = some (.ifCond .lt 25, 49, 71, 0, .null) := by decide +kernel
theorem x_106_46 : Tr sc d 106 (46, [l0, l1, l2, l3, l4, l5, l6], [.int i0], h) Q = if i0 < 0 then Tr sc d 106 (71, [l0, l1, l2, l3, l4, l5, l6], [], h) Q else Tr sc d 106 (49, [l0, l1, l2, l3, l4, l5, l6], [], h) Q := t_if k_106_46 rfl
theorem k_106_49 : lk 106 49 = some (.aload 5, 51, 5, 0, .null) := by decide +kernel
theorem x_106_49 : Tr sc d 106 (49, [l0, l1, l2, l3, l4, some (.ref xk), l6], [], h) Q = Tr sc d 106 (51, [l0, l1, l2, l3, l4, some (.ref xk), l6], [.ref xk], h) Q := t_aload k_106_49 rfl
theorem k_106_51 : lk 106 51 = some (.getfield 132, 54, 5, 0, .null) := by decide +kernel
theorem x_106_51 : Tr sc d 106 (51, [l0, l1, l2, l3, l4, l5, l6], [.ref k0], h) Q = (okp h k0 5 = true ∧ ∃ q, hR h k0 0 = some q ∧ Tr sc d 106 (54, [l0, l1, l2, l3, l4, l5, l6], [.ref q], h) Q) := t_getr k_106_51
theorem k_106_54 : lk 106 54 = some (.iload 6, 56, 6, 0, .null) := by decide +kernel
theorem x_106_54 : Tr sc d 106 (54, [l0, l1, l2, l3, l4, l5, some (.int x)], [.ref k0], h) Q = Tr sc d 106 (56, [l0, l1, l2, l3, l4, l5, some (.int x)], [.int x, .ref k0], h) Q := t_iload k_106_54 rfl
theorem k_106_56 : lk 106 56 = some (.iaload, 57, 0, 0, .null) := by decide +kernel
theorem x_106_56 : Tr sc d 106 (56, [l0, l1, l2, l3, l4, l5, l6], [.int i1, .ref k0], h) Q = (iOk sc h k0 i1 ∧ Tr sc d 106 (57, [l0, l1, l2, l3, l4, l5, l6], [.int (iRd sc h k0 i1)], h) Q) := t_iald k_106_56
theorem k_106_57 : lk 106 57 = some (.iconst 1, 58, 0, 0, .int 1) := by decide +kernel
theorem x_106_57 : Tr sc d 106 (57, [l0, l1, l2, l3, l4, l5, l6], [.int i0], h) Q = Tr sc d 106 (58, [l0, l1, l2, l3, l4, l5, l6], [.int 1, .int i0], h) Q := t_go k_106_57 rfl
theorem k_106_58 : lk 106 58 = some (.aload_n 0, 59, 0, 0, .null) := by decide +kernel
theorem x_106_58 : Tr sc d 106 (58, [some (.ref xk), l1, l2, l3, l4, l5, l6], [.int i1, .int i0], h) Q = Tr sc d 106 (59, [some (.ref xk), l1, l2, l3, l4, l5, l6], [.ref xk, .int i1, .int i0], h) Q := t_aload_n k_106_58 rfl
theorem k_106_59 : lk 106 59 = some (.getfield 20, 62, 9, 2, .null) := by decide +kernel
theorem x_106_59 : Tr sc d 106 (59, [l0, l1, l2, l3, l4, l5, l6], [.ref k2, .int i1, .int i0], h) Q = (okp h k2 9 = true ∧ ∃ q, hR h k2 2 = some q ∧ Tr sc d 106 (62, [l0, l1, l2, l3, l4, l5, l6], [.ref q, .int i1, .int i0], h) Q) := t_getr k_106_59
theorem k_106_62 : lk 106 62 = some (.iload_n 2, 63, 2, 0, .null) := by decide +kernel
theorem x_106_62 : Tr sc d 106 (62, [l0, l1, some (.int x), l3, l4, l5, l6], [.ref k2, .int i1, .int i0], h) Q = Tr sc d 106 (63, [l0, l1, some (.int x), l3, l4, l5, l6], [.int x, .ref k2, .int i1, .int i0], h) Q := t_iload_n k_106_62 rfl
theorem k_106_63 : lk 106 63 = some (.aaload, 64, 0, 0, .null) := by decide +kernel
theorem x_106_63 : Tr sc d 106 (63, [l0, l1, l2, l3, l4, l5, l6], [.int i3, .ref k2, .int i1, .int i0], h) Q = (((okp h k2 14 || okp h k2 15) && inb i3 (LN k2)) = true ∧ ∃ q, hR h k2 i3.toNatClampNeg = some q ∧ Tr sc d 106 (64, [l0, l1, l2, l3, l4, l5, l6], [.ref q, .int i1, .int i0], h) Q) := t_aald k_106_63
theorem k_106_64 : lk 106 64 = some (.getfield 181, 67, 6, 8, .int 0) := by decide +kernel
theorem x_106_64 : Tr sc d 106 (64, [l0, l1, l2, l3, l4, l5, l6], [.ref k2, .int i1, .int i0], h) Q = (okp h k2 6 = true ∧ Tr sc d 106 (67, [l0, l1, l2, l3, l4, l5, l6], [.int (hI h k2 8), .int i1, .int i0], h) Q) := t_gd k_106_64 rfl
theorem k_106_67 : lk 106 67 = some (.ishl, 68, 0, 0, .null) := by decide +kernel
theorem x_106_67 : Tr sc d 106 (67, [l0, l1, l2, l3, l4, l5, l6], [.int i2, .int i1, .int i0], h) Q = Tr sc d 106 (68, [l0, l1, l2, l3, l4, l5, l6], [.int (i1 <<< (i2 &&& 31)), .int i0], h) Q := t_go k_106_67 rfl
theorem k_106_68 : lk 106 68 = some (.if_icmp .lt 9, 71, 77, 0, .null) := by decide +kernel
theorem x_106_68 : Tr sc d 106 (68, [l0, l1, l2, l3, l4, l5, l6], [.int i1, .int i0], h) Q = if i0 < i1 then Tr sc d 106 (77, [l0, l1, l2, l3, l4, l5, l6], [], h) Q else Tr sc d 106 (71, [l0, l1, l2, l3, l4, l5, l6], [], h) Q := t_if k_106_68 rfl
theorem k_106_71 : lk 106 71 = some (.aload_n 0, 72, 0, 0, .null) := by decide +kernel
theorem x_106_71 : Tr sc d 106 (71, [some (.ref xk), l1, l2, l3, l4, l5, l6], [], h) Q = Tr sc d 106 (72, [some (.ref xk), l1, l2, l3, l4, l5, l6], [.ref xk], h) Q := t_aload_n k_106_71 rfl
theorem k_106_72 : lk 106 72 = some (.iconst 3, 73, 0, 0, .int 3) := by decide +kernel
theorem x_106_72 : Tr sc d 106 (72, [l0, l1, l2, l3, l4, l5, l6], [.ref k0], h) Q = Tr sc d 106 (73, [l0, l1, l2, l3, l4, l5, l6], [.int 3, .ref k0], h) Q := t_go k_106_72 rfl
theorem k_106_73 : lk 106 73 = some (.invokevirtual 118, 76, 144, 1, .null) := by decide +kernel
theorem x_106_73 : Tr sc (d + 1) 106 (73, [l0, l1, l2, l3, l4, l5, l6], [.int i1, .ref k0], h) Q = (okp h k0 9 = true ∧ Tr sc d 144 (ent0 144 [.ref k0, .int i1] h) (fun z => Tr sc (d + 1) 106 (76, [l0, l1, l2, l3, l4, l5, l6], z.1.toList ++ [], z.2) Q)) := t_cv (as := [.int i1]) (r := []) k_106_73 rfl rfl (Nat.le_of_ble_eq_true rfl) (Nat.le_of_ble_eq_true rfl) (Nat.le_of_ble_eq_true rfl)
theorem k_106_76 : lk 106 76 = some (.ireturn, 77, 0, 0, .null) := by decide +kernel
theorem x_106_76 : Tr sc d 106 (76, [l0, l1, l2, l3, l4, l5, l6], [.int i0], h) Q = Q (some (.int i0), h) := t_ret k_106_76 (by rw [r_106]; rfl)
theorem k_106_77 : lk 106 77 = some (.iinc 6 1, 80, 6, 0, .int 1) := by decide +kernel
theorem x_106_77 : Tr sc d 106 (77, [l0, l1, l2, l3, l4, l5, some (.int x)], [], h) Q = Tr sc d 106 (80, [l0, l1, l2, l3, l4, cl2 l5, some (.int (x + 1))], [], h) Q := t_inc k_106_77 rfl (Nat.le_of_ble_eq_true rfl)
theorem k_106_80 : lk 106 80 = some (.goto (-52), 83, 28, 0, .null) := by decide +kernel
theorem x_106_80 : Tr sc d 106 (80, [l0, l1, l2, l3, l4, l5, l6], [], h) Q = Tr sc d 106 (28, [l0, l1, l2, l3, l4, l5, l6], [], h) Q := t_go k_106_80 rfl
theorem k_106_83 : lk 106 83 = some (.aload_n 0, 84, 0, 0, .null) := by decide +kernel
theorem x_106_83 : Tr sc d 106 (83, [some (.ref xk), l1, l2, l3, l4, l5, l6], [], h) Q = Tr sc d 106 (84, [some (.ref xk), l1, l2, l3, l4, l5, l6], [.ref xk], h) Q := t_aload_n k_106_83 rfl
theorem k_106_84 : lk 106 84 = some (.getfield 20, 87, 9, 2, .null) := by decide +kernel
theorem x_106_84 : Tr sc d 106 (84, [l0, l1, l2, l3, l4, l5, l6], [.ref k0], h) Q = (okp h k0 9 = true ∧ ∃ q, hR h k0 2 = some q ∧ Tr sc d 106 (87, [l0, l1, l2, l3, l4, l5, l6], [.ref q], h) Q) := t_getr k_106_84
theorem k_106_87 : lk 106 87 = some (.iload_n 1, 88, 1, 0, .null) := by decide +kernel
theorem x_106_87 : Tr sc d 106 (87, [l0, some (.int x), l2, l3, l4, l5, l6], [.ref k0], h) Q = Tr sc d 106 (88, [l0, some (.int x), l2, l3, l4, l5, l6], [.int x, .ref k0], h) Q := t_iload_n k_106_87 rfl
theorem k_106_88 : lk 106 88 = some (.aaload, 89, 0, 0, .null) := by decide +kernel
theorem x_106_88 : Tr sc d 106 (88, [l0, l1, l2, l3, l4, l5, l6], [.int i1, .ref k0], h) Q = (((okp h k0 14 || okp h k0 15) && inb i1 (LN k0)) = true ∧ ∃ q, hR h k0 i1.toNatClampNeg = some q ∧ Tr sc d 106 (89, [l0, l1, l2, l3, l4, l5, l6], [.ref q], h) Q) := t_aald k_106_88
theorem k_106_89 : lk 106 89 = some (.aload_n 0, 90, 0, 0, .null) := by decide +kernel
theorem x_106_89 : Tr sc d 106 (89, [some (.ref xk), l1, l2, l3, l4, l5, l6], [.ref k0], h) Q = Tr sc d 106 (90, [some (.ref xk), l1, l2, l3, l4, l5, l6], [.ref xk, .ref k0], h) Q := t_aload_n k_106_89 rfl
theorem k_106_90 : lk 106 90 = some (.getfield 20, 93, 9, 2, .null) := by decide +kernel
theorem x_106_90 : Tr sc d 106 (90, [l0, l1, l2, l3, l4, l5, l6], [.ref k1, .ref k0], h) Q = (okp h k1 9 = true ∧ ∃ q, hR h k1 2 = some q ∧ Tr sc d 106 (93, [l0, l1, l2, l3, l4, l5, l6], [.ref q, .ref k0], h) Q) := t_getr k_106_90
theorem k_106_93 : lk 106 93 = some (.iload_n 2, 94, 2, 0, .null) := by decide +kernel
theorem x_106_93 : Tr sc d 106 (93, [l0, l1, some (.int x), l3, l4, l5, l6], [.ref k1, .ref k0], h) Q = Tr sc d 106 (94, [l0, l1, some (.int x), l3, l4, l5, l6], [.int x, .ref k1, .ref k0], h) Q := t_iload_n k_106_93 rfl
theorem k_106_94 : lk 106 94 = some (.aaload, 95, 0, 0, .null) := by decide +kernel
theorem x_106_94 : Tr sc d 106 (94, [l0, l1, l2, l3, l4, l5, l6], [.int i2, .ref k1, .ref k0], h) Q = (((okp h k1 14 || okp h k1 15) && inb i2 (LN k1)) = true ∧ ∃ q, hR h k1 i2.toNatClampNeg = some q ∧ Tr sc d 106 (95, [l0, l1, l2, l3, l4, l5, l6], [.ref q, .ref k0], h) Q) := t_aald k_106_94
theorem k_106_95 : lk 106 95 = some (.invokevirtual 169, 98, 53, 1, .null) := by decide +kernel
theorem x_106_95 : Tr sc (d + 1) 106 (95, [l0, l1, l2, l3, l4, l5, l6], [.ref k1, .ref k0], h) Q = (okp h k0 6 = true ∧ Tr sc d 53 (ent0 53 [.ref k0, .ref k1] h) (fun z => Tr sc (d + 1) 106 (98, [l0, l1, l2, l3, l4, l5, l6], z.1.toList ++ [], z.2) Q)) := t_cv (as := [.ref k1]) (r := []) k_106_95 rfl rfl (Nat.le_of_ble_eq_true rfl) (Nat.le_of_ble_eq_true rfl) (Nat.le_of_ble_eq_true rfl)
theorem k_106_98 : lk 106 98 = some (.aload_n 0, 99, 0, 0, .null) := by decide +kernel
theorem x_106_98 : Tr sc d 106 (98, [some (.ref xk), l1, l2, l3, l4, l5, l6], [], h) Q = Tr sc d 106 (99, [some (.ref xk), l1, l2, l3, l4, l5, l6], [.ref xk], h) Q := t_aload_n k_106_98 rfl
theorem k_106_99 : lk 106 99 = some (.getfield 20, 102, 9, 2, .null) := by decide +kernel
theorem x_106_99 : Tr sc d 106 (99, [l0, l1, l2, l3, l4, l5, l6], [.ref k0], h) Q = (okp h k0 9 = true ∧ ∃ q, hR h k0 2 = some q ∧ Tr sc d 106 (102, [l0, l1, l2, l3, l4, l5, l6], [.ref q], h) Q) := t_getr k_106_99
theorem k_106_102 : lk 106 102 = some (.iload_n 1, 103, 1, 0, .null) := by decide +kernel
theorem x_106_102 : Tr sc d 106 (102, [l0, some (.int x), l2, l3, l4, l5, l6], [.ref k0], h) Q = Tr sc d 106 (103, [l0, some (.int x), l2, l3, l4, l5, l6], [.int x, .ref k0], h) Q := t_iload_n k_106_102 rfl
theorem k_106_103 : lk 106 103 = some (.aaload, 104, 0, 0, .null) := by decide +kernel
theorem x_106_103 : Tr sc d 106 (103, [l0, l1, l2, l3, l4, l5, l6], [.int i1, .ref k0], h) Q = (((okp h k0 14 || okp h k0 15) && inb i1 (LN k0)) = true ∧ ∃ q, hR h k0 i1.toNatClampNeg = some q ∧ Tr sc d 106 (104, [l0, l1, l2, l3, l4, l5, l6], [.ref q], h) Q) := t_aald k_106_103
theorem k_106_104 : lk 106 104 = some (.iconst 4, 105, 0, 0, .int 4) := by decide +kernel
theorem x_106_104 : Tr sc d 106 (104, [l0, l1, l2, l3, l4, l5, l6], [.ref k0], h) Q = Tr sc d 106 (105, [l0, l1, l2, l3, l4, l5, l6], [.int 4, .ref k0], h) Q := t_go k_106_104 rfl
theorem k_106_105 : lk 106 105 = some (.aload 5, 107, 5, 0, .null) := by decide +kernel
theorem x_106_105 : Tr sc d 106 (105, [l0, l1, l2, l3, l4, some (.ref xk), l6], [.int i1, .ref k0], h) Q = Tr sc d 106 (107, [l0, l1, l2, l3, l4, some (.ref xk), l6], [.ref xk, .int i1, .ref k0], h) Q := t_aload k_106_105 rfl
theorem k_106_107 : lk 106 107 = some (.invokevirtual 173, 110, 54, 2, .null) := by decide +kernel
theorem x_106_107 : Tr sc (d + 1) 106 (107, [l0, l1, l2, l3, l4, l5, l6], [.ref k2, .int i1, .ref k0], h) Q = (okp h k0 6 = true ∧ Tr sc d 54 (ent0 54 [.ref k0, .int i1, .ref k2] h) (fun z => Tr sc (d + 1) 106 (110, [l0, l1, l2, l3, l4, l5, l6], z.1.toList ++ [], z.2) Q)) := t_cv (as := [.int i1, .ref k2]) (r := []) k_106_107 rfl rfl (Nat.le_of_ble_eq_true rfl) (Nat.le_of_ble_eq_true rfl) (Nat.le_of_ble_eq_true rfl)
theorem k_106_110 : lk 106 110 = some (.aload_n 0, 111, 0, 0, .null) := by decide +kernel
theorem x_106_110 : Tr sc d 106 (110, [some (.ref xk), l1, l2, l3, l4, l5, l6], [], h) Q = Tr sc d 106 (111, [some (.ref xk), l1, l2, l3, l4, l5, l6], [.ref xk], h) Q := t_aload_n k_106_110 rfl
theorem k_106_111 : lk 106 111 = some (.getfield 20, 114, 9, 2, .null) := by decide +kernel
theorem x_106_111 : Tr sc d 106 (111, [l0, l1, l2, l3, l4, l5, l6], [.ref k0], h) Q = (okp h k0 9 = true ∧ ∃ q, hR h k0 2 = some q ∧ Tr sc d 106 (114, [l0, l1, l2, l3, l4, l5, l6], [.ref q], h) Q) := t_getr k_106_111
theorem k_106_114 : lk 106 114 = some (.iload_n 1, 115, 1, 0, .null) := by decide +kernel
theorem x_106_114 : Tr sc d 106 (114, [l0, some (.int x), l2, l3, l4, l5, l6], [.ref k0], h) Q = Tr sc d 106 (115, [l0, some (.int x), l2, l3, l4, l5, l6], [.int x, .ref k0], h) Q := t_iload_n k_106_114 rfl
theorem k_106_115 : lk 106 115 = some (.aaload, 116, 0, 0, .null) := by decide +kernel
theorem x_106_115 : Tr sc d 106 (115, [l0, l1, l2, l3, l4, l5, l6], [.int i1, .ref k0], h) Q = (((okp h k0 14 || okp h k0 15) && inb i1 (LN k0)) = true ∧ ∃ q, hR h k0 i1.toNatClampNeg = some q ∧ Tr sc d 106 (116, [l0, l1, l2, l3, l4, l5, l6], [.ref q], h) Q) := t_aald k_106_115
theorem k_106_116 : lk 106 116 = some (.invokevirtual 184, 119, 59, 0, .null) := by decide +kernel
theorem x_106_116 : Tr sc (d + 1) 106 (116, [l0, l1, l2, l3, l4, l5, l6], [.ref k0], h) Q = (okp h k0 6 = true ∧ Tr sc d 59 (ent0 59 [.ref k0] h) (fun z => Tr sc (d + 1) 106 (119, [l0, l1, l2, l3, l4, l5, l6], z.1.toList ++ [], z.2) Q)) := t_cv (as := []) (r := []) k_106_116 rfl rfl (Nat.le_of_ble_eq_true rfl) (Nat.le_of_ble_eq_true rfl) (Nat.le_of_ble_eq_true rfl)
theorem k_106_119 : lk 106 119 = some (.ireturn, 120, 0, 0, .null) := by decide +kernel
theorem x_106_119 : Tr sc d 106 (119, [l0, l1, l2, l3, l4, l5, l6], [.int i0], h) Q = Q (some (.int i0), h) := t_ret k_106_119 (by rw [r_106]; rfl)
theorem e_106 : Tr sc d 106 (ent0 106 [.ref k0, .int i1, .int i2, .int i3] h) Q = Tr sc d 106 (0, [some (.ref k0), some (.int i1), some (.int i2), some (.int i3), none, none, none], [], h) Q := by
  have e : mL 106 = 7 := by decide +kernel
  unfold ent0
  rw [e]
  rfl
theorem r_107 : mR 107 = some .int := by decide +kernel
theorem k_107_0 : lk 107 0 = some (.iload_n 1, 1, 1, 0, .null) := by decide +kernel
theorem x_107_0 : Tr sc d 107 (0, [l0, some (.int x), l2, l3, l4, l5, l6], [], h) Q = Tr sc d 107 (1, [l0, some (.int x), l2, l3, l4, l5, l6], [.int x], h) Q := t_iload_n k_107_0 rfl
theorem k_107_1 : lk 107 1 = some (.invokestatic 159, 4, 142, 1, .null) := by decide +kernel
theorem x_107_1 : Tr sc (d + 1) 107 (1, [l0, l1, l2, l3, l4, l5, l6], [.int i0], h) Q = Tr sc d 142 (ent0 142 [.int i0] h) (fun z => Tr sc (d + 1) 107 (4, [l0, l1, l2, l3, l4, l5, l6], z.1.toList ++ [], z.2) Q) := t_cs (as := [.int i0]) (r := []) k_107_1 (by decide) rfl rfl (Nat.le_of_ble_eq_true rfl) (Nat.le_of_ble_eq_true rfl)
theorem k_107_4 : lk 107 4 = some (.ifCond .eq 10, 7, 14, 0, .null) := by decide +kernel
theorem x_107_4 : Tr sc d 107 (4, [l0, l1, l2, l3, l4, l5, l6], [.int i0], h) Q = if i0 = 0 then Tr sc d 107 (14, [l0, l1, l2, l3, l4, l5, l6], [], h) Q else Tr sc d 107 (7, [l0, l1, l2, l3, l4, l5, l6], [], h) Q := t_if k_107_4 rfl
theorem k_107_7 : lk 107 7 = some (.iload_n 2, 8, 2, 0, .null) := by decide +kernel
theorem x_107_7 : Tr sc d 107 (7, [l0, l1, some (.int x), l3, l4, l5, l6], [], h) Q = Tr sc d 107 (8, [l0, l1, some (.int x), l3, l4, l5, l6], [.int x], h) Q := t_iload_n k_107_7 rfl
theorem k_107_8 : lk 107 8 = some (.invokestatic 114, 11, 140, 1, .null) := by decide +kernel
theorem x_107_8 : Tr sc (d + 1) 107 (8, [l0, l1, l2, l3, l4, l5, l6], [.int i0], h) Q = Tr sc d 140 (ent0 140 [.int i0] h) (fun z => Tr sc (d + 1) 107 (11, [l0, l1, l2, l3, l4, l5, l6], z.1.toList ++ [], z.2) Q) := t_cs (as := [.int i0]) (r := []) k_107_8 (by decide) rfl rfl (Nat.le_of_ble_eq_true rfl) (Nat.le_of_ble_eq_true rfl)
theorem k_107_11 : lk 107 11 = some (.ifCond .ne 5, 14, 16, 0, .null) := by decide +kernel
theorem x_107_11 : Tr sc d 107 (11, [l0, l1, l2, l3, l4, l5, l6], [.int i0], h) Q = if i0 = 0 then Tr sc d 107 (14, [l0, l1, l2, l3, l4, l5, l6], [], h) Q else Tr sc d 107 (16, [l0, l1, l2, l3, l4, l5, l6], [], h) Q := t_if k_107_11 rfl
theorem k_107_14 : lk 107 14 = some (.iconst (-1), 15, 0, 0, .int (-1)) := by decide +kernel
theorem x_107_14 : Tr sc d 107 (14, [l0, l1, l2, l3, l4, l5, l6], [], h) Q = Tr sc d 107 (15, [l0, l1, l2, l3, l4, l5, l6], [.int (-1)], h) Q := t_go k_107_14 rfl
theorem k_107_15 : lk 107 15 = some (.ireturn, 16, 0, 0, .null) := by decide +kernel
theorem x_107_15 : Tr sc d 107 (15, [l0, l1, l2, l3, l4, l5, l6], [.int i0], h) Q = Q (some (.int i0), h) := t_ret k_107_15 (by rw [r_107]; rfl)
theorem k_107_16 : lk 107 16 = some (.aload_n 0, 17, 0, 0, .null) := by decide +kernel
theorem x_107_16 : Tr sc d 107 (16, [some (.ref xk), l1, l2, l3, l4, l5, l6], [], h) Q = Tr sc d 107 (17, [some (.ref xk), l1, l2, l3, l4, l5, l6], [.ref xk], h) Q := t_aload_n k_107_16 rfl
theorem k_107_17 : lk 107 17 = some (.getfield 11, 20, 9, 0, .null) := by decide +kernel
theorem x_107_17 : Tr sc d 107 (17, [l0, l1, l2, l3, l4, l5, l6], [.ref k0], h) Q = (okp h k0 9 = true ∧ ∃ q, hR h k0 0 = some q ∧ Tr sc d 107 (20, [l0, l1, l2, l3, l4, l5, l6], [.ref q], h) Q) := t_getr k_107_17
theorem k_107_20 : lk 107 20 = some (.iload_n 2, 21, 2, 0, .null) := by decide +kernel
theorem x_107_20 : Tr sc d 107 (20, [l0, l1, some (.int x), l3, l4, l5, l6], [.ref k0], h) Q = Tr sc d 107 (21, [l0, l1, some (.int x), l3, l4, l5, l6], [.int x, .ref k0], h) Q := t_iload_n k_107_20 rfl
theorem k_107_21 : lk 107 21 = some (.aaload, 22, 0, 0, .null) := by decide +kernel
theorem x_107_21 : Tr sc d 107 (21, [l0, l1, l2, l3, l4, l5, l6], [.int i1, .ref k0], h) Q = (((okp h k0 14 || okp h k0 15) && inb i1 (LN k0)) = true ∧ ∃ q, hR h k0 i1.toNatClampNeg = some q ∧ Tr sc d 107 (22, [l0, l1, l2, l3, l4, l5, l6], [.ref q], h) Q) := t_aald k_107_21
theorem k_107_22 : lk 107 22 = some (.invokevirtual 125, 25, 42, 0, .null) := by decide +kernel
theorem x_107_22 : Tr sc (d + 1) 107 (22, [l0, l1, l2, l3, l4, l5, l6], [.ref k0], h) Q = (okp h k0 5 = true ∧ Tr sc d 42 (ent0 42 [.ref k0] h) (fun z => Tr sc (d + 1) 107 (25, [l0, l1, l2, l3, l4, l5, l6], z.1.toList ++ [], z.2) Q)) := t_cv (as := []) (r := []) k_107_22 rfl rfl (Nat.le_of_ble_eq_true rfl) (Nat.le_of_ble_eq_true rfl) (Nat.le_of_ble_eq_true rfl)
theorem k_107_25 : lk 107 25 = some (.ifCond .eq 9, 28, 34, 0, .null) := by decide +kernel
theorem x_107_25 : Tr sc d 107 (25, [l0, l1, l2, l3, l4, l5, l6], [.int i0], h) Q = if i0 = 0 then Tr sc d 107 (34, [l0, l1, l2, l3, l4, l5, l6], [], h) Q else Tr sc d 107 (28, [l0, l1, l2, l3, l4, l5, l6], [], h) Q := t_if k_107_25 rfl
theorem k_107_28 : lk 107 28 = some (.aload_n 0, 29, 0, 0, .null) := by decide +kernel
theorem x_107_28 : Tr sc d 107 (28, [some (.ref xk), l1, l2, l3, l4, l5, l6], [], h) Q = Tr sc d 107 (29, [some (.ref xk), l1, l2, l3, l4, l5, l6], [.ref xk], h) Q := t_aload_n k_107_28 rfl
theorem k_107_29 : lk 107 29 = some (.iconst 1, 30, 0, 0, .int 1) := by decide +kernel
theorem x_107_29 : Tr sc d 107 (29, [l0, l1, l2, l3, l4, l5, l6], [.ref k0], h) Q = Tr sc d 107 (30, [l0, l1, l2, l3, l4, l5, l6], [.int 1, .ref k0], h) Q := t_go k_107_29 rfl
theorem k_107_30 : lk 107 30 = some (.invokevirtual 118, 33, 144, 1, .null) := by decide +kernel
theorem x_107_30 : Tr sc (d + 1) 107 (30, [l0, l1, l2, l3, l4, l5, l6], [.int i1, .ref k0], h) Q = (okp h k0 9 = true ∧ Tr sc d 144 (ent0 144 [.ref k0, .int i1] h) (fun z => Tr sc (d + 1) 107 (33, [l0, l1, l2, l3, l4, l5, l6], z.1.toList ++ [], z.2) Q)) := t_cv (as := [.int i1]) (r := []) k_107_30 rfl rfl (Nat.le_of_ble_eq_true rfl) (Nat.le_of_ble_eq_true rfl) (Nat.le_of_ble_eq_true rfl)
theorem k_107_33 : lk 107 33 = some (.ireturn, 34, 0, 0, .null) := by decide +kernel
theorem x_107_33 : Tr sc d 107 (33, [l0, l1, l2, l3, l4, l5, l6], [.int i0], h) Q = Q (some (.int i0), h) := t_ret k_107_33 (by rw [r_107]; rfl)
theorem k_107_34 : lk 107 34 = some (.aload_n 0, 35, 0, 0, .null) := by decide +kernel
theorem x_107_34 : Tr sc d 107 (34, [some (.ref xk), l1, l2, l3, l4, l5, l6], [], h) Q = Tr sc d 107 (35, [some (.ref xk), l1, l2, l3, l4, l5, l6], [.ref xk], h) Q := t_aload_n k_107_34 rfl
theorem k_107_35 : lk 107 35 = some (.getfield 11, 38, 9, 0, .null) := by decide +kernel
theorem x_107_35 : Tr sc d 107 (35, [l0, l1, l2, l3, l4, l5, l6], [.ref k0], h) Q = (okp h k0 9 = true ∧ ∃ q, hR h k0 0 = some q ∧ Tr sc d 107 (38, [l0, l1, l2, l3, l4, l5, l6], [.ref q], h) Q) := t_getr k_107_35
theorem k_107_38 : lk 107 38 = some (.iload_n 2, 39, 2, 0, .null) := by decide +kernel
theorem x_107_38 : Tr sc d 107 (38, [l0, l1, some (.int x), l3, l4, l5, l6], [.ref k0], h) Q = Tr sc d 107 (39, [l0, l1, some (.int x), l3, l4, l5, l6], [.int x, .ref k0], h) Q := t_iload_n k_107_38 rfl
theorem k_107_39 : lk 107 39 = some (.aaload, 40, 0, 0, .null) := by decide +kernel
theorem x_107_39 : Tr sc d 107 (39, [l0, l1, l2, l3, l4, l5, l6], [.int i1, .ref k0], h) Q = (((okp h k0 14 || okp h k0 15) && inb i1 (LN k0)) = true ∧ ∃ q, hR h k0 i1.toNatClampNeg = some q ∧ Tr sc d 107 (40, [l0, l1, l2, l3, l4, l5, l6], [.ref q], h) Q) := t_aald k_107_39
theorem k_107_40 : lk 107 40 = some (.getfield 135, 43, 5, 1, .int 0) := by decide +kernel
theorem x_107_40 : Tr sc d 107 (40, [l0, l1, l2, l3, l4, l5, l6], [.ref k0], h) Q = (okp h k0 5 = true ∧ Tr sc d 107 (43, [l0, l1, l2, l3, l4, l5, l6], [.int (hI h k0 1)], h) Q) := t_gd k_107_40 rfl
theorem k_107_43 : lk 107 43 = some (.istore_n 3, 44, 3, 0, .null) := by decide +kernel
theorem x_107_43 : Tr sc d 107 (43, [l0, l1, l2, l3, l4, l5, l6], [.int i0], h) Q = Tr sc d 107 (44, [l0, l1, cl2 l2, some (.int i0), l4, l5, l6], [], h) Q := t_istore_n k_107_43 (Nat.le_of_ble_eq_true rfl)
theorem k_107_44 : lk 107 44 = some (.iload_n 3, 45, 3, 0, .null) := by decide +kernel
theorem x_107_44 : Tr sc d 107 (44, [l0, l1, l2, some (.int x), l4, l5, l6], [], h) Q = Tr sc d 107 (45, [l0, l1, l2, some (.int x), l4, l5, l6], [.int x], h) Q := t_iload_n k_107_44 rfl
theorem k_107_45 : lk 107 45 = some (.iconst 2, 46, 0, 0, .int 2) := by decide +kernel
theorem x_107_45 : Tr sc d 107 (45, [l0, l1, l2, l3, l4, l5, l6], [.int i0], h) Q = Tr sc d 107 (46, [l0, l1, l2, l3, l4, l5, l6], [.int 2, .int i0], h) Q := t_go k_107_45 rfl
theorem k_107_46 : lk 107 46 = some (.if_icmp .lt 8, 49, 54, 0, .null) := by decide +kernel
theorem x_107_46 : Tr sc d 107 (46, [l0, l1, l2, l3, l4, l5, l6], [.int i1, .int i0], h) Q = if i0 < i1 then Tr sc d 107 (54, [l0, l1, l2, l3, l4, l5, l6], [], h) Q else Tr sc d 107 (49, [l0, l1, l2, l3, l4, l5, l6], [], h) Q := t_if k_107_46 rfl
theorem k_107_49 : lk 107 49 = some (.iload_n 3, 50, 3, 0, .null) := by decide +kernel
theorem x_107_49 : Tr sc d 107 (49, [l0, l1, l2, some (.int x), l4, l5, l6], [], h) Q = Tr sc d 107 (50, [l0, l1, l2, some (.int x), l4, l5, l6], [.int x], h) Q := t_iload_n k_107_49 rfl
theorem k_107_50 : lk 107 50 = some (.iconst 4, 51, 0, 0, .int 4) := by decide +kernel
theorem x_107_50 : Tr sc d 107 (50, [l0, l1, l2, l3, l4, l5, l6], [.int i0], h) Q = Tr sc d 107 (51, [l0, l1, l2, l3, l4, l5, l6], [.int 4, .int i0], h) Q := t_go k_107_50 rfl
theorem k_107_51 : lk 107 51 = some (.if_icmp .le 9, 54, 60, 0, .null) := by decide +kernel
theorem x_107_51 : Tr sc d 107 (51, [l0, l1, l2, l3, l4, l5, l6], [.int i1, .int i0], h) Q = if i0 ≤ i1 then Tr sc d 107 (60, [l0, l1, l2, l3, l4, l5, l6], [], h) Q else Tr sc d 107 (54, [l0, l1, l2, l3, l4, l5, l6], [], h) Q := t_if k_107_51 rfl
theorem k_107_54 : lk 107 54 = some (.aload_n 0, 55, 0, 0, .null) := by decide +kernel
theorem x_107_54 : Tr sc d 107 (54, [some (.ref xk), l1, l2, l3, l4, l5, l6], [], h) Q = Tr sc d 107 (55, [some (.ref xk), l1, l2, l3, l4, l5, l6], [.ref xk], h) Q := t_aload_n k_107_54 rfl
theorem k_107_55 : lk 107 55 = some (.iconst 5, 56, 0, 0, .int 5) := by decide +kernel
theorem x_107_55 : Tr sc d 107 (55, [l0, l1, l2, l3, l4, l5, l6], [.ref k0], h) Q = Tr sc d 107 (56, [l0, l1, l2, l3, l4, l5, l6], [.int 5, .ref k0], h) Q := t_go k_107_55 rfl
theorem k_107_56 : lk 107 56 = some (.invokevirtual 118, 59, 144, 1, .null) := by decide +kernel
theorem x_107_56 : Tr sc (d + 1) 107 (56, [l0, l1, l2, l3, l4, l5, l6], [.int i1, .ref k0], h) Q = (okp h k0 9 = true ∧ Tr sc d 144 (ent0 144 [.ref k0, .int i1] h) (fun z => Tr sc (d + 1) 107 (59, [l0, l1, l2, l3, l4, l5, l6], z.1.toList ++ [], z.2) Q)) := t_cv (as := [.int i1]) (r := []) k_107_56 rfl rfl (Nat.le_of_ble_eq_true rfl) (Nat.le_of_ble_eq_true rfl) (Nat.le_of_ble_eq_true rfl)
theorem k_107_59 : lk 107 59 = some (.ireturn, 60, 0, 0, .null) := by decide +kernel
theorem x_107_59 : Tr sc d 107 (59, [l0, l1, l2, l3, l4, l5, l6], [.int i0], h) Q = Q (some (.int i0), h) := t_ret k_107_59 (by rw [r_107]; rfl)
theorem k_107_60 : lk 107 60 = some (.iconst 0, 61, 0, 0, .int 0) := by decide +kernel
theorem x_107_60 : Tr sc d 107 (60, [l0, l1, l2, l3, l4, l5, l6], [], h) Q = Tr sc d 107 (61, [l0, l1, l2, l3, l4, l5, l6], [.int 0], h) Q := t_go k_107_60 rfl
theorem k_107_61 : lk 107 61 = some (.istore 4, 63, 4, 0, .null) := by decide +kernel
theorem x_107_61 : Tr sc d 107 (61, [l0, l1, l2, l3, l4, l5, l6], [.int i0], h) Q = Tr sc d 107 (63, [l0, l1, l2, cl2 l3, some (.int i0), l5, l6], [], h) Q := t_istore k_107_61 (Nat.le_of_ble_eq_true rfl)
theorem k_107_63 : lk 107 63 = some (.iconst 0, 64, 0, 0, .int 0) := by decide +kernel
theorem x_107_63 : Tr sc d 107 (63, [l0, l1, l2, l3, l4, l5, l6], [], h) Q = Tr sc d 107 (64, [l0, l1, l2, l3, l4, l5, l6], [.int 0], h) Q := t_go k_107_63 rfl
theorem k_107_64 : lk 107 64 = some (.istore 5, 66, 5, 0, .null) := by decide +kernel
theorem x_107_64 : Tr sc d 107 (64, [l0, l1, l2, l3, l4, l5, l6], [.int i0], h) Q = Tr sc d 107 (66, [l0, l1, l2, l3, cl2 l4, some (.int i0), l6], [], h) Q := t_istore k_107_64 (Nat.le_of_ble_eq_true rfl)
theorem k_107_66 : lk 107 66 = some (.iload 5, 68, 5, 0, .null) := by decide +kernel
theorem x_107_66 : Tr sc d 107 (66, [l0, l1, l2, l3, l4, some (.int x), l6], [], h) Q = Tr sc d 107 (68, [l0, l1, l2, l3, l4, some (.int x), l6], [.int x], h) Q := t_iload k_107_66 rfl
theorem k_107_68 : lk 107 68 = some (.iload_n 3, 69, 3, 0, .null) := by decide +kernel
theorem x_107_68 : Tr sc d 107 (68, [l0, l1, l2, some (.int x), l4, l5, l6], [.int i0], h) Q = Tr sc d 107 (69, [l0, l1, l2, some (.int x), l4, l5, l6], [.int x, .int i0], h) Q := t_iload_n k_107_68 rfl
theorem k_107_69 : lk 107 69 = some (.if_icmp .ge 52, 72, 121, 0, .null) := by decide +kernel
theorem x_107_69 : Tr sc d 107 (69, [l0, l1, l2, l3, l4, l5, l6], [.int i1, .int i0], h) Q = if i1 ≤ i0 then Tr sc d 107 (121, [l0, l1, l2, l3, l4, l5, l6], [], h) Q else Tr sc d 107 (72, [l0, l1, l2, l3, l4, l5, l6], [], h) Q := t_if k_107_69 rfl
theorem k_107_72 : lk 107 72 = some (.aload_n 0, 73, 0, 0, .null) := by decide +kernel
theorem x_107_72 : Tr sc d 107 (72, [some (.ref xk), l1, l2, l3, l4, l5, l6], [], h) Q = Tr sc d 107 (73, [some (.ref xk), l1, l2, l3, l4, l5, l6], [.ref xk], h) Q := t_aload_n k_107_72 rfl
theorem k_107_73 : lk 107 73 = some (.getfield 11, 76, 9, 0, .null) := by decide +kernel
theorem x_107_73 : Tr sc d 107 (73, [l0, l1, l2, l3, l4, l5, l6], [.ref k0], h) Q = (okp h k0 9 = true ∧ ∃ q, hR h k0 0 = some q ∧ Tr sc d 107 (76, [l0, l1, l2, l3, l4, l5, l6], [.ref q], h) Q) := t_getr k_107_73
theorem k_107_76 : lk 107 76 = some (.iload_n 2, 77, 2, 0, .null) := by decide +kernel
theorem x_107_76 : Tr sc d 107 (76, [l0, l1, some (.int x), l3, l4, l5, l6], [.ref k0], h) Q = Tr sc d 107 (77, [l0, l1, some (.int x), l3, l4, l5, l6], [.int x, .ref k0], h) Q := t_iload_n k_107_76 rfl
theorem k_107_77 : lk 107 77 = some (.aaload, 78, 0, 0, .null) := by decide +kernel
theorem x_107_77 : Tr sc d 107 (77, [l0, l1, l2, l3, l4, l5, l6], [.int i1, .ref k0], h) Q = (((okp h k0 14 || okp h k0 15) && inb i1 (LN k0)) = true ∧ ∃ q, hR h k0 i1.toNatClampNeg = some q ∧ Tr sc d 107 (78, [l0, l1, l2, l3, l4, l5, l6], [.ref q], h) Q) := t_aald k_107_77
theorem k_107_78 : lk 107 78 = some (.getfield 132, 81, 5, 0, .null) := by decide +kernel
theorem x_107_78 : Tr sc d 107 (78, [l0, l1, l2, l3, l4, l5, l6], [.ref k0], h) Q = (okp h k0 5 = true ∧ ∃ q, hR h k0 0 = some q ∧ Tr sc d 107 (81, [l0, l1, l2, l3, l4, l5, l6], [.ref q], h) Q) := t_getr k_107_78
theorem k_107_81 : lk 107 81 = some (.iload 5, 83, 5, 0, .null) := by decide +kernel
theorem x_107_81 : Tr sc d 107 (81, [l0, l1, l2, l3, l4, some (.int x), l6], [.ref k0], h) Q = Tr sc d 107 (83, [l0, l1, l2, l3, l4, some (.int x), l6], [.int x, .ref k0], h) Q := t_iload k_107_81 rfl
theorem k_107_83 : lk 107 83 = some (.iaload, 84, 0, 0, .null) := by decide +kernel
theorem x_107_83 : Tr sc d 107 (83, [l0, l1, l2, l3, l4, l5, l6], [.int i1, .ref k0], h) Q = (iOk sc h k0 i1 ∧ Tr sc d 107 (84, [l0, l1, l2, l3, l4, l5, l6], [.int (iRd sc h k0 i1)], h) Q) := t_iald k_107_83
theorem k_107_84 : lk 107 84 = some (.istore 6, 86, 6, 0, .null) := by decide +kernel
theorem x_107_84 : Tr sc d 107 (84, [l0, l1, l2, l3, l4, l5, l6], [.int i0], h) Q = Tr sc d 107 (86, [l0, l1, l2, l3, l4, cl2 l5, some (.int i0)], [], h) Q := t_istore k_107_84 (Nat.le_of_ble_eq_true rfl)
theorem k_107_86 : lk 107 86 = some (.iload 6, 88, 6, 0, .null) := by decide +kernel
theorem x_107_86 : Tr sc d 107 (86, [l0, l1, l2, l3, l4, l5, some (.int x)], [], h) Q = Tr sc d 107 (88, [l0, l1, l2, l3, l4, l5, some (.int x)], [.int x], h) Q := t_iload k_107_86 rfl
theorem k_107_88 : lk 107 88 = some (.ifCond .lt 11, 91, 99, 0, .null) := by decide +kernel
theorem x_107_88 : Tr sc d 107 (88, [l0, l1, l2, l3, l4, l5, l6], [.int i0], h) Q = if i0 < 0 then Tr sc d 107 (99, [l0, l1, l2, l3, l4, l5, l6], [], h) Q else Tr sc d 107 (91, [l0, l1, l2, l3, l4, l5, l6], [], h) Q := t_if k_107_88 rfl
theorem k_107_91 : lk 107 91 = some (.iload 6, 93, 6, 0, .null) := by decide +kernel
theorem x_107_91 : Tr sc d 107 (91, [l0, l1, l2, l3, l4, l5, some (.int x)], [], h) Q = Tr sc d 107 (93, [l0, l1, l2, l3, l4, l5, some (.int x)], [.int x], h) Q := t_iload k_107_91 rfl
theorem k_107_93 : lk 107 93 = some (.iconst 1, 94, 0, 0, .int 1) := by decide +kernel
theorem x_107_93 : Tr sc d 107 (93, [l0, l1, l2, l3, l4, l5, l6], [.int i0], h) Q = Tr sc d 107 (94, [l0, l1, l2, l3, l4, l5, l6], [.int 1, .int i0], h) Q := t_go k_107_93 rfl
theorem k_107_94 : lk 107 94 = some (.iload_n 3, 95, 3, 0, .null) := by decide +kernel
theorem x_107_94 : Tr sc d 107 (94, [l0, l1, l2, some (.int x), l4, l5, l6], [.int i1, .int i0], h) Q = Tr sc d 107 (95, [l0, l1, l2, some (.int x), l4, l5, l6], [.int x, .int i1, .int i0], h) Q := t_iload_n k_107_94 rfl
theorem k_107_95 : lk 107 95 = some (.ishl, 96, 0, 0, .null) := by decide +kernel
theorem x_107_95 : Tr sc d 107 (95, [l0, l1, l2, l3, l4, l5, l6], [.int i2, .int i1, .int i0], h) Q = Tr sc d 107 (96, [l0, l1, l2, l3, l4, l5, l6], [.int (i1 <<< (i2 &&& 31)), .int i0], h) Q := t_go k_107_95 rfl
theorem k_107_96 : lk 107 96 = some (.if_icmp .lt 9, 99, 105, 0, .null) := by decide +kernel
theorem x_107_96 : Tr sc d 107 (96, [l0, l1, l2, l3, l4, l5, l6], [.int i1, .int i0], h) Q = if i0 < i1 then Tr sc d 107 (105, [l0, l1, l2, l3, l4, l5, l6], [], h) Q else Tr sc d 107 (99, [l0, l1, l2, l3, l4, l5, l6], [], h) Q := t_if k_107_96 rfl
theorem k_107_99 : lk 107 99 = some (.aload_n 0, 100, 0, 0, .null) := by decide +kernel
theorem x_107_99 : Tr sc d 107 (99, [some (.ref xk), l1, l2, l3, l4, l5, l6], [], h) Q = Tr sc d 107 (100, [some (.ref xk), l1, l2, l3, l4, l5, l6], [.ref xk], h) Q := t_aload_n k_107_99 rfl
theorem k_107_100 : lk 107 100 = some (.iconst 3, 101, 0, 0, .int 3) := by decide +kernel
theorem x_107_100 : Tr sc d 107 (100, [l0, l1, l2, l3, l4, l5, l6], [.ref k0], h) Q = Tr sc d 107 (101, [l0, l1, l2, l3, l4, l5, l6], [.int 3, .ref k0], h) Q := t_go k_107_100 rfl
theorem k_107_101 : lk 107 101 = some (.invokevirtual 118, 104, 144, 1, .null) := by decide +kernel
theorem x_107_101 : Tr sc (d + 1) 107 (101, [l0, l1, l2, l3, l4, l5, l6], [.int i1, .ref k0], h) Q = (okp h k0 9 = true ∧ Tr sc d 144 (ent0 144 [.ref k0, .int i1] h) (fun z => Tr sc (d + 1) 107 (104, [l0, l1, l2, l3, l4, l5, l6], z.1.toList ++ [], z.2) Q)) := t_cv (as := [.int i1]) (r := []) k_107_101 rfl rfl (Nat.le_of_ble_eq_true rfl) (Nat.le_of_ble_eq_true rfl) (Nat.le_of_ble_eq_true rfl)
theorem k_107_104 : lk 107 104 = some (.ireturn, 105, 0, 0, .null) := by decide +kernel
theorem x_107_104 : Tr sc d 107 (104, [l0, l1, l2, l3, l4, l5, l6], [.int i0], h) Q = Q (some (.int i0), h) := t_ret k_107_104 (by rw [r_107]; rfl)
theorem k_107_105 : lk 107 105 = some (.iload 4, 107, 4, 0, .null) := by decide +kernel
theorem x_107_105 : Tr sc d 107 (105, [l0, l1, l2, l3, some (.int x), l5, l6], [], h) Q = Tr sc d 107 (107, [l0, l1, l2, l3, some (.int x), l5, l6], [.int x], h) Q := t_iload k_107_105 rfl
theorem k_107_107 : lk 107 107 = some (.iload 6, 109, 6, 0, .null) := by decide +kernel
theorem x_107_107 : Tr sc d 107 (107, [l0, l1, l2, l3, l4, l5, some (.int x)], [.int i0], h) Q = Tr sc d 107 (109, [l0, l1, l2, l3, l4, l5, some (.int x)], [.int x, .int i0], h) Q := t_iload k_107_107 rfl
theorem k_107_109 : lk 107 109 = some (.invokestatic 187, 112, 251, 1, .null) := by decide +kernel
theorem x_107_109 : Tr sc (d + 1) 107 (109, [l0, l1, l2, l3, l4, l5, l6], [.int i1, .int i0], h) Q = Tr sc d 251 (ent0 251 [.int i1] h) (fun z => Tr sc (d + 1) 107 (112, [l0, l1, l2, l3, l4, l5, l6], z.1.toList ++ [.int i0], z.2) Q) := t_cs (as := [.int i1]) (r := [.int i0]) k_107_109 (by decide) rfl rfl (Nat.le_of_ble_eq_true rfl) (Nat.le_of_ble_eq_true rfl)
theorem k_107_112 : lk 107 112 = some (.iadd, 113, 0, 0, .null) := by decide +kernel
theorem x_107_112 : Tr sc d 107 (112, [l0, l1, l2, l3, l4, l5, l6], [.int i1, .int i0], h) Q = Tr sc d 107 (113, [l0, l1, l2, l3, l4, l5, l6], [.int (i0 + i1)], h) Q := t_go k_107_112 rfl
theorem k_107_113 : lk 107 113 = some (.istore 4, 115, 4, 0, .null) := by decide +kernel
theorem x_107_113 : Tr sc d 107 (113, [l0, l1, l2, l3, l4, l5, l6], [.int i0], h) Q = Tr sc d 107 (115, [l0, l1, l2, cl2 l3, some (.int i0), l5, l6], [], h) Q := t_istore k_107_113 (Nat.le_of_ble_eq_true rfl)
theorem k_107_115 : lk 107 115 = some (.iinc 5 1, 118, 5, 0, .int 1) := by decide +kernel
theorem x_107_115 : Tr sc d 107 (115, [l0, l1, l2, l3, l4, some (.int x), l6], [], h) Q = Tr sc d 107 (118, [l0, l1, l2, l3, cl2 l4, some (.int (x + 1)), l6], [], h) Q := t_inc k_107_115 rfl (Nat.le_of_ble_eq_true rfl)
theorem k_107_118 : lk 107 118 = some (.goto (-52), 121, 66, 0, .null) := by decide +kernel
theorem x_107_118 : Tr sc d 107 (118, [l0, l1, l2, l3, l4, l5, l6], [], h) Q = Tr sc d 107 (66, [l0, l1, l2, l3, l4, l5, l6], [], h) Q := t_go k_107_118 rfl
theorem k_107_121 : lk 107 121 = some (.iload 4, 123, 4, 0, .null) := by decide +kernel
theorem x_107_121 : Tr sc d 107 (121, [l0, l1, l2, l3, some (.int x), l5, l6], [], h) Q = Tr sc d 107 (123, [l0, l1, l2, l3, some (.int x), l5, l6], [.int x], h) Q := t_iload k_107_121 rfl
theorem k_107_123 : lk 107 123 = some (.ifCond .eq 10, 126, 133, 0, .null) := by decide +kernel
theorem x_107_123 : Tr sc d 107 (123, [l0, l1, l2, l3, l4, l5, l6], [.int i0], h) Q = if i0 = 0 then Tr sc d 107 (133, [l0, l1, l2, l3, l4, l5, l6], [], h) Q else Tr sc d 107 (126, [l0, l1, l2, l3, l4, l5, l6], [], h) Q := t_if k_107_123 rfl
theorem k_107_126 : lk 107 126 = some (.iload 4, 128, 4, 0, .null) := by decide +kernel
theorem x_107_126 : Tr sc d 107 (126, [l0, l1, l2, l3, some (.int x), l5, l6], [], h) Q = Tr sc d 107 (128, [l0, l1, l2, l3, some (.int x), l5, l6], [.int x], h) Q := t_iload k_107_126 rfl
theorem k_107_128 : lk 107 128 = some (.bipush 6, 130, 0, 0, .int 6) := by decide +kernel
theorem x_107_128 : Tr sc d 107 (128, [l0, l1, l2, l3, l4, l5, l6], [.int i0], h) Q = Tr sc d 107 (130, [l0, l1, l2, l3, l4, l5, l6], [.int 6, .int i0], h) Q := t_go k_107_128 rfl
theorem k_107_130 : lk 107 130 = some (.if_icmp .le 9, 133, 139, 0, .null) := by decide +kernel
theorem x_107_130 : Tr sc d 107 (130, [l0, l1, l2, l3, l4, l5, l6], [.int i1, .int i0], h) Q = if i0 ≤ i1 then Tr sc d 107 (139, [l0, l1, l2, l3, l4, l5, l6], [], h) Q else Tr sc d 107 (133, [l0, l1, l2, l3, l4, l5, l6], [], h) Q := t_if k_107_130 rfl
theorem k_107_133 : lk 107 133 = some (.aload_n 0, 134, 0, 0, .null) := by decide +kernel
theorem x_107_133 : Tr sc d 107 (133, [some (.ref xk), l1, l2, l3, l4, l5, l6], [], h) Q = Tr sc d 107 (134, [some (.ref xk), l1, l2, l3, l4, l5, l6], [.ref xk], h) Q := t_aload_n k_107_133 rfl
theorem k_107_134 : lk 107 134 = some (.iconst 3, 135, 0, 0, .int 3) := by decide +kernel
theorem x_107_134 : Tr sc d 107 (134, [l0, l1, l2, l3, l4, l5, l6], [.ref k0], h) Q = Tr sc d 107 (135, [l0, l1, l2, l3, l4, l5, l6], [.int 3, .ref k0], h) Q := t_go k_107_134 rfl
theorem k_107_135 : lk 107 135 = some (.invokevirtual 118, 138, 144, 1, .null) := by decide +kernel
theorem x_107_135 : Tr sc (d + 1) 107 (135, [l0, l1, l2, l3, l4, l5, l6], [.int i1, .ref k0], h) Q = (okp h k0 9 = true ∧ Tr sc d 144 (ent0 144 [.ref k0, .int i1] h) (fun z => Tr sc (d + 1) 107 (138, [l0, l1, l2, l3, l4, l5, l6], z.1.toList ++ [], z.2) Q)) := t_cv (as := [.int i1]) (r := []) k_107_135 rfl rfl (Nat.le_of_ble_eq_true rfl) (Nat.le_of_ble_eq_true rfl) (Nat.le_of_ble_eq_true rfl)
theorem k_107_138 : lk 107 138 = some (.ireturn, 139, 0, 0, .null) := by decide +kernel
theorem x_107_138 : Tr sc d 107 (138, [l0, l1, l2, l3, l4, l5, l6], [.int i0], h) Q = Q (some (.int i0), h) := t_ret k_107_138 (by rw [r_107]; rfl)
theorem k_107_139 : lk 107 139 = some (.aload_n 0, 140, 0, 0, .null) := by decide +kernel
theorem x_107_139 : Tr sc d 107 (139, [some (.ref xk), l1, l2, l3, l4, l5, l6], [], h) Q = Tr sc d 107 (140, [some (.ref xk), l1, l2, l3, l4, l5, l6], [.ref xk], h) Q := t_aload_n k_107_139 rfl
theorem k_107_140 : lk 107 140 = some (.getfield 25, 143, 9, 3, .null) := by decide +kernel
theorem x_107_140 : Tr sc d 107 (140, [l0, l1, l2, l3, l4, l5, l6], [.ref k0], h) Q = (okp h k0 9 = true ∧ ∃ q, hR h k0 3 = some q ∧ Tr sc d 107 (143, [l0, l1, l2, l3, l4, l5, l6], [.ref q], h) Q) := t_getr k_107_140
theorem k_107_143 : lk 107 143 = some (.aload_n 0, 144, 0, 0, .null) := by decide +kernel
theorem x_107_143 : Tr sc d 107 (143, [some (.ref xk), l1, l2, l3, l4, l5, l6], [.ref k0], h) Q = Tr sc d 107 (144, [some (.ref xk), l1, l2, l3, l4, l5, l6], [.ref xk, .ref k0], h) Q := t_aload_n k_107_143 rfl
theorem k_107_144 : lk 107 144 = some (.getfield 11, 147, 9, 0, .null) := by decide +kernel
theorem x_107_144 : Tr sc d 107 (144, [l0, l1, l2, l3, l4, l5, l6], [.ref k1, .ref k0], h) Q = (okp h k1 9 = true ∧ ∃ q, hR h k1 0 = some q ∧ Tr sc d 107 (147, [l0, l1, l2, l3, l4, l5, l6], [.ref q, .ref k0], h) Q) := t_getr k_107_144
theorem k_107_147 : lk 107 147 = some (.iload_n 2, 148, 2, 0, .null) := by decide +kernel
theorem x_107_147 : Tr sc d 107 (147, [l0, l1, some (.int x), l3, l4, l5, l6], [.ref k1, .ref k0], h) Q = Tr sc d 107 (148, [l0, l1, some (.int x), l3, l4, l5, l6], [.int x, .ref k1, .ref k0], h) Q := t_iload_n k_107_147 rfl
theorem k_107_148 : lk 107 148 = some (.aaload, 149, 0, 0, .null) := by decide +kernel
theorem x_107_148 : Tr sc d 107 (148, [l0, l1, l2, l3, l4, l5, l6], [.int i2, .ref k1, .ref k0], h) Q = (((okp h k1 14 || okp h k1 15) && inb i2 (LN k1)) = true ∧ ∃ q, hR h k1 i2.toNatClampNeg = some q ∧ Tr sc d 107 (149, [l0, l1, l2, l3, l4, l5, l6], [.ref q, .ref k0], h) Q) := t_aald k_107_148
theorem k_107_149 : lk 107 149 = some (.invokevirtual 192, 152, 55, 1, .null) := by decide +kernel
theorem x_107_149 : Tr sc (d + 1) 107 (149, [l0, l1, l2, l3, l4, l5, l6], [.ref k1, .ref k0], h) Q = (okp h k0 6 = true ∧ Tr sc d 55 (ent0 55 [.ref k0, .ref k1] h) (fun z => Tr sc (d + 1) 107 (152, [l0, l1, l2, l3, l4, l5, l6], z.1.toList ++ [], z.2) Q)) := t_cv (as := [.ref k1]) (r := []) k_107_149 rfl rfl (Nat.le_of_ble_eq_true rfl) (Nat.le_of_ble_eq_true rfl) (Nat.le_of_ble_eq_true rfl)
theorem k_107_152 : lk 107 152 = some (.aload_n 0, 153, 0, 0, .null) := by decide +kernel
theorem x_107_152 : Tr sc d 107 (152, [some (.ref xk), l1, l2, l3, l4, l5, l6], [], h) Q = Tr sc d 107 (153, [some (.ref xk), l1, l2, l3, l4, l5, l6], [.ref xk], h) Q := t_aload_n k_107_152 rfl
theorem k_107_153 : lk 107 153 = some (.iload_n 1, 154, 1, 0, .null) := by decide +kernel
theorem x_107_153 : Tr sc d 107 (153, [l0, some (.int x), l2, l3, l4, l5, l6], [.ref k0], h) Q = Tr sc d 107 (154, [l0, some (.int x), l2, l3, l4, l5, l6], [.int x, .ref k0], h) Q := t_iload_n k_107_153 rfl
theorem k_107_154 : lk 107 154 = some (.invokevirtual 162, 157, 149, 1, .null) := by decide +kernel
theorem x_107_154 : Tr sc (d + 1) 107 (154, [l0, l1, l2, l3, l4, l5, l6], [.int i1, .ref k0], h) Q = (okp h k0 9 = true ∧ Tr sc d 149 (ent0 149 [.ref k0, .int i1] h) (fun z => Tr sc (d + 1) 107 (157, [l0, l1, l2, l3, l4, l5, l6], z.1.toList ++ [], z.2) Q)) := t_cv (as := [.int i1]) (r := []) k_107_154 rfl rfl (Nat.le_of_ble_eq_true rfl) (Nat.le_of_ble_eq_true rfl) (Nat.le_of_ble_eq_true rfl)
theorem k_107_157 : lk 107 157 = some (.ireturn, 158, 0, 0, .null) := by decide +kernel
theorem x_107_157 : Tr sc d 107 (157, [l0, l1, l2, l3, l4, l5, l6], [.int i0], h) Q = Q (some (.int i0), h) := t_ret k_107_157 (by rw [r_107]; rfl)
theorem e_107 : Tr sc d 107 (ent0 107 [.ref k0, .int i1, .int i2] h) Q = Tr sc d 107 (0, [some (.ref k0), some (.int i1), some (.int i2), none, none, none, none], [], h) Q := by
  have e : mL 107 = 7 := by decide +kernel
  unfold ent0
  rw [e]
  rfl
theorem r_108 : mR 108 = some .int := by decide +kernel
theorem k_108_0 : lk 108 0 = some (.aload_n 0, 1, 0, 0, .null) := by decide +kernel
theorem x_108_0 : Tr sc d 108 (0, [some (.ref xk), l1, l2], [], h) Q = Tr sc d 108 (1, [some (.ref xk), l1, l2], [.ref xk], h) Q := t_aload_n k_108_0 rfl
theorem k_108_1 : lk 108 1 = some (.iload_n 1, 2, 1, 0, .null) := by decide +kernel
theorem x_108_1 : Tr sc d 108 (1, [l0, some (.int x), l2], [.ref k0], h) Q = Tr sc d 108 (2, [l0, some (.int x), l2], [.int x, .ref k0], h) Q := t_iload_n k_108_1 rfl
theorem k_108_2 : lk 108 2 = some (.iconst 1, 3, 0, 0, .int 1) := by decide +kernel
theorem x_108_2 : Tr sc d 108 (2, [l0, l1, l2], [.int i1, .ref k0], h) Q = Tr sc d 108 (3, [l0, l1, l2], [.int 1, .int i1, .ref k0], h) Q := t_go k_108_2 rfl
theorem k_108_3 : lk 108 3 = some (.invokevirtual 196, 6, 145, 2, .null) := by decide +kernel
theorem x_108_3 : Tr sc (d + 1) 108 (3, [l0, l1, l2], [.int i2, .int i1, .ref k0], h) Q = (okp h k0 9 = true ∧ Tr sc d 145 (ent0 145 [.ref k0, .int i1, .int i2] h) (fun z => Tr sc (d + 1) 108 (6, [l0, l1, l2], z.1.toList ++ [], z.2) Q)) := t_cv (as := [.int i1, .int i2]) (r := []) k_108_3 rfl rfl (Nat.le_of_ble_eq_true rfl) (Nat.le_of_ble_eq_true rfl) (Nat.le_of_ble_eq_true rfl)
theorem k_108_6 : lk 108 6 = some (.istore_n 2, 7, 2, 0, .null) := by decide +kernel
theorem x_108_6 : Tr sc d 108 (6, [l0, l1, l2], [.int i0], h) Q = Tr sc d 108 (7, [l0, cl2 l1, some (.int i0)], [], h) Q := t_istore_n k_108_6 (Nat.le_of_ble_eq_true rfl)
theorem k_108_7 : lk 108 7 = some (.iload_n 2, 8, 2, 0, .null) := by decide +kernel
theorem x_108_7 : Tr sc d 108 (7, [l0, l1, some (.int x)], [], h) Q = Tr sc d 108 (8, [l0, l1, some (.int x)], [.int x], h) Q := t_iload_n k_108_7 rfl
theorem k_108_8 : lk 108 8 = some (.ifCond .eq 5, 11, 13, 0, .null) := by decide +kernel
theorem x_108_8 : Tr sc d 108 (8, [l0, l1, l2], [.int i0], h) Q = if i0 = 0 then Tr sc d 108 (13, [l0, l1, l2], [], h) Q else Tr sc d 108 (11, [l0, l1, l2], [], h) Q := t_if k_108_8 rfl
theorem k_108_11 : lk 108 11 = some (.iload_n 2, 12, 2, 0, .null) := by decide +kernel
theorem x_108_11 : Tr sc d 108 (11, [l0, l1, some (.int x)], [], h) Q = Tr sc d 108 (12, [l0, l1, some (.int x)], [.int x], h) Q := t_iload_n k_108_11 rfl
theorem k_108_12 : lk 108 12 = some (.ireturn, 13, 0, 0, .null) := by decide +kernel
theorem x_108_12 : Tr sc d 108 (12, [l0, l1, l2], [.int i0], h) Q = Q (some (.int i0), h) := t_ret k_108_12 (by rw [r_108]; rfl)
theorem k_108_13 : lk 108 13 = some (.aload_n 0, 14, 0, 0, .null) := by decide +kernel
theorem x_108_13 : Tr sc d 108 (13, [some (.ref xk), l1, l2], [], h) Q = Tr sc d 108 (14, [some (.ref xk), l1, l2], [.ref xk], h) Q := t_aload_n k_108_13 rfl
theorem k_108_14 : lk 108 14 = some (.getfield 20, 17, 9, 2, .null) := by decide +kernel
theorem x_108_14 : Tr sc d 108 (14, [l0, l1, l2], [.ref k0], h) Q = (okp h k0 9 = true ∧ ∃ q, hR h k0 2 = some q ∧ Tr sc d 108 (17, [l0, l1, l2], [.ref q], h) Q) := t_getr k_108_14
theorem k_108_17 : lk 108 17 = some (.iload_n 1, 18, 1, 0, .null) := by decide +kernel
theorem x_108_17 : Tr sc d 108 (17, [l0, some (.int x), l2], [.ref k0], h) Q = Tr sc d 108 (18, [l0, some (.int x), l2], [.int x, .ref k0], h) Q := t_iload_n k_108_17 rfl
theorem k_108_18 : lk 108 18 = some (.aaload, 19, 0, 0, .null) := by decide +kernel
theorem x_108_18 : Tr sc d 108 (18, [l0, l1, l2], [.int i1, .ref k0], h) Q = (((okp h k0 14 || okp h k0 15) && inb i1 (LN k0)) = true ∧ ∃ q, hR h k0 i1.toNatClampNeg = some q ∧ Tr sc d 108 (19, [l0, l1, l2], [.ref q], h) Q) := t_aald k_108_18
theorem k_108_19 : lk 108 19 = some (.iconst (-1), 20, 0, 0, .int (-1)) := by decide +kernel
theorem x_108_19 : Tr sc d 108 (19, [l0, l1, l2], [.ref k0], h) Q = Tr sc d 108 (20, [l0, l1, l2], [.int (-1), .ref k0], h) Q := t_go k_108_19 rfl
theorem k_108_20 : lk 108 20 = some (.putfield 200, 23, 6, 6, .int 0) := by decide +kernel
theorem x_108_20 : Tr sc d 108 (20, [l0, l1, l2], [.int i1, .ref k0], h) Q = (okp h k0 6 = true ∧ Tr sc d 108 (23, [l0, l1, l2], [], (sI h k0 6 i1)) Q) := t_gd k_108_20 rfl
theorem k_108_23 : lk 108 23 = some (.iconst 1, 24, 0, 0, .int 1) := by decide +kernel
theorem x_108_23 : Tr sc d 108 (23, [l0, l1, l2], [], h) Q = Tr sc d 108 (24, [l0, l1, l2], [.int 1], h) Q := t_go k_108_23 rfl
theorem k_108_24 : lk 108 24 = some (.ireturn, 25, 0, 0, .null) := by decide +kernel
theorem x_108_24 : Tr sc d 108 (24, [l0, l1, l2], [.int i0], h) Q = Q (some (.int i0), h) := t_ret k_108_24 (by rw [r_108]; rfl)
theorem e_108 : Tr sc d 108 (ent0 108 [.ref k0, .int i1] h) Q = Tr sc d 108 (0, [some (.ref k0), some (.int i1), none], [], h) Q := by
  have e : mL 108 = 3 := by decide +kernel
  unfold ent0
  rw [e]
  rfl
theorem r_109 : mR 109 = some .int := by decide +kernel
theorem k_109_0 : lk 109 0 = some (.aload_n 0, 1, 0, 0, .null) := by decide +kernel
theorem x_109_0 : Tr sc d 109 (0, [some (.ref xk), l1, l2, l3, l4], [], h) Q = Tr sc d 109 (1, [some (.ref xk), l1, l2, l3, l4], [.ref xk], h) Q := t_aload_n k_109_0 rfl
theorem k_109_1 : lk 109 1 = some (.iload_n 1, 2, 1, 0, .null) := by decide +kernel
theorem x_109_1 : Tr sc d 109 (1, [l0, some (.int x), l2, l3, l4], [.ref k0], h) Q = Tr sc d 109 (2, [l0, some (.int x), l2, l3, l4], [.int x, .ref k0], h) Q := t_iload_n k_109_1 rfl
theorem k_109_2 : lk 109 2 = some (.iload_n 2, 3, 2, 0, .null) := by decide +kernel
theorem x_109_2 : Tr sc d 109 (2, [l0, l1, some (.int x), l3, l4], [.int i1, .ref k0], h) Q = Tr sc d 109 (3, [l0, l1, some (.int x), l3, l4], [.int x, .int i1, .ref k0], h) Q := t_iload_n k_109_2 rfl
theorem k_109_3 : lk 109 3 = some (.ifCond .lt 12, 6, 15, 0, .null) := by decide +kernel
theorem x_109_3 : Tr sc d 109 (3, [l0, l1, l2, l3, l4], [.int i2, .int i1, .ref k0], h) Q = if i2 < 0 then Tr sc d 109 (15, [l0, l1, l2, l3, l4], [.int i1, .ref k0], h) Q else Tr sc d 109 (6, [l0, l1, l2, l3, l4], [.int i1, .ref k0], h) Q := t_if k_109_3 rfl
theorem k_109_6 : lk 109 6 = some (.iload_n 2, 7, 2, 0, .null) := by decide +kernel
theorem x_109_6 : Tr sc d 109 (6, [l0, l1, some (.int x), l3, l4], [.int i1, .ref k0], h) Q = Tr sc d 109 (7, [l0, l1, some (.int x), l3, l4], [.int x, .int i1, .ref k0], h) Q := t_iload_n k_109_6 rfl
theorem k_109_7 : lk 109 7 = some (.iconst 2, 8, 0, 0, .int 2) := by decide +kernel
theorem x_109_7 : Tr sc d 109 (7, [l0, l1, l2, l3, l4], [.int i2, .int i1, .ref k0], h) Q = Tr sc d 109 (8, [l0, l1, l2, l3, l4], [.int 2, .int i2, .int i1, .ref k0], h) Q := t_go k_109_7 rfl
theorem k_109_8 : lk 109 8 = some (.if_icmp .gt 7, 11, 15, 0, .null) := by decide +kernel
theorem x_109_8 : Tr sc d 109 (8, [l0, l1, l2, l3, l4], [.int i3, .int i2, .int i1, .ref k0], h) Q = if i3 < i2 then Tr sc d 109 (15, [l0, l1, l2, l3, l4], [.int i1, .ref k0], h) Q else Tr sc d 109 (11, [l0, l1, l2, l3, l4], [.int i1, .ref k0], h) Q := t_if k_109_8 rfl
theorem k_109_11 : lk 109 11 = some (.iconst 1, 12, 0, 0, .int 1) := by decide +kernel
theorem x_109_11 : Tr sc d 109 (11, [l0, l1, l2, l3, l4], [.int i1, .ref k0], h) Q = Tr sc d 109 (12, [l0, l1, l2, l3, l4], [.int 1, .int i1, .ref k0], h) Q := t_go k_109_11 rfl
theorem k_109_12 : lk 109 12 = some (.goto 4, 15, 16, 0, .null) := by decide +kernel
theorem x_109_12 : Tr sc d 109 (12, [l0, l1, l2, l3, l4], [.int i2, .int i1, .ref k0], h) Q = Tr sc d 109 (16, [l0, l1, l2, l3, l4], [.int i2, .int i1, .ref k0], h) Q := t_go k_109_12 rfl
theorem k_109_15 : lk 109 15 = some (.iconst 0, 16, 0, 0, .int 0) := by decide +kernel
theorem x_109_15 : Tr sc d 109 (15, [l0, l1, l2, l3, l4], [.int i1, .ref k0], h) Q = Tr sc d 109 (16, [l0, l1, l2, l3, l4], [.int 0, .int i1, .ref k0], h) Q := t_go k_109_15 rfl
theorem k_109_16 : lk 109 16 = some (.invokevirtual 196, 19, 145, 2, .null) := by decide +kernel
theorem x_109_16 : Tr sc (d + 1) 109 (16, [l0, l1, l2, l3, l4], [.int i2, .int i1, .ref k0], h) Q = (okp h k0 9 = true ∧ Tr sc d 145 (ent0 145 [.ref k0, .int i1, .int i2] h) (fun z => Tr sc (d + 1) 109 (19, [l0, l1, l2, l3, l4], z.1.toList ++ [], z.2) Q)) := t_cv (as := [.int i1, .int i2]) (r := []) k_109_16 rfl rfl (Nat.le_of_ble_eq_true rfl) (Nat.le_of_ble_eq_true rfl) (Nat.le_of_ble_eq_true rfl)
theorem k_109_19 : lk 109 19 = some (.istore_n 3, 20, 3, 0, .null) := by decide +kernel
theorem x_109_19 : Tr sc d 109 (19, [l0, l1, l2, l3, l4], [.int i0], h) Q = Tr sc d 109 (20, [l0, l1, cl2 l2, some (.int i0), l4], [], h) Q := t_istore_n k_109_19 (Nat.le_of_ble_eq_true rfl)
theorem k_109_20 : lk 109 20 = some (.iload_n 3, 21, 3, 0, .null) := by decide +kernel
theorem x_109_20 : Tr sc d 109 (20, [l0, l1, l2, some (.int x), l4], [], h) Q = Tr sc d 109 (21, [l0, l1, l2, some (.int x), l4], [.int x], h) Q := t_iload_n k_109_20 rfl
theorem k_109_21 : lk 109 21 = some (.ifCond .eq 5, 24, 26, 0, .null) := by decide +kernel
theorem x_109_21 : Tr sc d 109 (21, [l0, l1, l2, l3, l4], [.int i0], h) Q = if i0 = 0 then Tr sc d 109 (26, [l0, l1, l2, l3, l4], [], h) Q else Tr sc d 109 (24, [l0, l1, l2, l3, l4], [], h) Q := t_if k_109_21 rfl
theorem k_109_24 : lk 109 24 = some (.iload_n 3, 25, 3, 0, .null) := by decide +kernel
theorem x_109_24 : Tr sc d 109 (24, [l0, l1, l2, some (.int x), l4], [], h) Q = Tr sc d 109 (25, [l0, l1, l2, some (.int x), l4], [.int x], h) Q := t_iload_n k_109_24 rfl
theorem k_109_25 : lk 109 25 = some (.ireturn, 26, 0, 0, .null) := by decide +kernel
theorem x_109_25 : Tr sc d 109 (25, [l0, l1, l2, l3, l4], [.int i0], h) Q = Q (some (.int i0), h) := t_ret k_109_25 (by rw [r_109]; rfl)
theorem k_109_26 : lk 109 26 = some (.aload_n 0, 27, 0, 0, .null) := by decide +kernel
theorem x_109_26 : Tr sc d 109 (26, [some (.ref xk), l1, l2, l3, l4], [], h) Q = Tr sc d 109 (27, [some (.ref xk), l1, l2, l3, l4], [.ref xk], h) Q := t_aload_n k_109_26 rfl
theorem k_109_27 : lk 109 27 = some (.getfield 20, 30, 9, 2, .null) := by decide +kernel
theorem x_109_27 : Tr sc d 109 (27, [l0, l1, l2, l3, l4], [.ref k0], h) Q = (okp h k0 9 = true ∧ ∃ q, hR h k0 2 = some q ∧ Tr sc d 109 (30, [l0, l1, l2, l3, l4], [.ref q], h) Q) := t_getr k_109_27
theorem k_109_30 : lk 109 30 = some (.iload_n 1, 31, 1, 0, .null) := by decide +kernel
theorem x_109_30 : Tr sc d 109 (30, [l0, some (.int x), l2, l3, l4], [.ref k0], h) Q = Tr sc d 109 (31, [l0, some (.int x), l2, l3, l4], [.int x, .ref k0], h) Q := t_iload_n k_109_30 rfl
theorem k_109_31 : lk 109 31 = some (.aaload, 32, 0, 0, .null) := by decide +kernel
theorem x_109_31 : Tr sc d 109 (31, [l0, l1, l2, l3, l4], [.int i1, .ref k0], h) Q = (((okp h k0 14 || okp h k0 15) && inb i1 (LN k0)) = true ∧ ∃ q, hR h k0 i1.toNatClampNeg = some q ∧ Tr sc d 109 (32, [l0, l1, l2, l3, l4], [.ref q], h) Q) := t_aald k_109_31
theorem k_109_32 : lk 109 32 = some (.astore 4, 34, 4, 0, .null) := by decide +kernel
theorem x_109_32 : Tr sc d 109 (32, [l0, l1, l2, l3, l4], [.ref k0], h) Q = Tr sc d 109 (34, [l0, l1, l2, cl2 l3, some (.ref k0)], [], h) Q := t_astore k_109_32 (Nat.le_of_ble_eq_true rfl)
theorem k_109_34 : lk 109 34 = some (.aload_n 0, 35, 0, 0, .null) := by decide +kernel
theorem x_109_34 : Tr sc d 109 (34, [some (.ref xk), l1, l2, l3, l4], [], h) Q = Tr sc d 109 (35, [some (.ref xk), l1, l2, l3, l4], [.ref xk], h) Q := t_aload_n k_109_34 rfl
theorem k_109_35 : lk 109 35 = some (.iload_n 2, 36, 2, 0, .null) := by decide +kernel
theorem x_109_35 : Tr sc d 109 (35, [l0, l1, some (.int x), l3, l4], [.ref k0], h) Q = Tr sc d 109 (36, [l0, l1, some (.int x), l3, l4], [.int x, .ref k0], h) Q := t_iload_n k_109_35 rfl
theorem k_109_36 : lk 109 36 = some (.ifCond .ne 11, 39, 47, 0, .null) := by decide +kernel
theorem x_109_36 : Tr sc d 109 (36, [l0, l1, l2, l3, l4], [.int i1, .ref k0], h) Q = if i1 = 0 then Tr sc d 109 (39, [l0, l1, l2, l3, l4], [.ref k0], h) Q else Tr sc d 109 (47, [l0, l1, l2, l3, l4], [.ref k0], h) Q := t_if k_109_36 rfl
theorem k_109_39 : lk 109 39 = some (.aload 4, 41, 4, 0, .null) := by decide +kernel
theorem x_109_39 : Tr sc d 109 (39, [l0, l1, l2, l3, some (.ref xk)], [.ref k0], h) Q = Tr sc d 109 (41, [l0, l1, l2, l3, some (.ref xk)], [.ref xk, .ref k0], h) Q := t_aload k_109_39 rfl
theorem k_109_41 : lk 109 41 = some (.getfield 200, 44, 6, 6, .int 0) := by decide +kernel
theorem x_109_41 : Tr sc d 109 (41, [l0, l1, l2, l3, l4], [.ref k1, .ref k0], h) Q = (okp h k1 6 = true ∧ Tr sc d 109 (44, [l0, l1, l2, l3, l4], [.int (hI h k1 6), .ref k0], h) Q) := t_gd k_109_41 rfl
theorem k_109_44 : lk 109 44 = some (.goto 21, 47, 65, 0, .null) := by decide +kernel
theorem x_109_44 : Tr sc d 109 (44, [l0, l1, l2, l3, l4], [.int i1, .ref k0], h) Q = Tr sc d 109 (65, [l0, l1, l2, l3, l4], [.int i1, .ref k0], h) Q := t_go k_109_44 rfl
theorem k_109_47 : lk 109 47 = some (.iload_n 2, 48, 2, 0, .null) := by decide +kernel
theorem x_109_47 : Tr sc d 109 (47, [l0, l1, some (.int x), l3, l4], [.ref k0], h) Q = Tr sc d 109 (48, [l0, l1, some (.int x), l3, l4], [.int x, .ref k0], h) Q := t_iload_n k_109_47 rfl
theorem k_109_48 : lk 109 48 = some (.iconst 1, 49, 0, 0, .int 1) := by decide +kernel
theorem x_109_48 : Tr sc d 109 (48, [l0, l1, l2, l3, l4], [.int i1, .ref k0], h) Q = Tr sc d 109 (49, [l0, l1, l2, l3, l4], [.int 1, .int i1, .ref k0], h) Q := t_go k_109_48 rfl
theorem k_109_49 : lk 109 49 = some (.if_icmp .ne 11, 52, 60, 0, .null) := by decide +kernel
theorem x_109_49 : Tr sc d 109 (49, [l0, l1, l2, l3, l4], [.int i2, .int i1, .ref k0], h) Q = if i1 = i2 then Tr sc d 109 (52, [l0, l1, l2, l3, l4], [.ref k0], h) Q else Tr sc d 109 (60, [l0, l1, l2, l3, l4], [.ref k0], h) Q := t_if k_109_49 rfl
theorem k_109_52 : lk 109 52 = some (.aload 4, 54, 4, 0, .null) := by decide +kernel
theorem x_109_52 : Tr sc d 109 (52, [l0, l1, l2, l3, some (.ref xk)], [.ref k0], h) Q = Tr sc d 109 (54, [l0, l1, l2, l3, some (.ref xk)], [.ref xk, .ref k0], h) Q := t_aload k_109_52 rfl
theorem k_109_54 : lk 109 54 = some (.getfield 203, 57, 6, 7, .int 0) := by decide +kernel
theorem x_109_54 : Tr sc d 109 (54, [l0, l1, l2, l3, l4], [.ref k1, .ref k0], h) Q = (okp h k1 6 = true ∧ Tr sc d 109 (57, [l0, l1, l2, l3, l4], [.int (hI h k1 7), .ref k0], h) Q) := t_gd k_109_54 rfl
theorem k_109_57 : lk 109 57 = some (.goto 8, 60, 65, 0, .null) := by decide +kernel
theorem x_109_57 : Tr sc d 109 (57, [l0, l1, l2, l3, l4], [.int i1, .ref k0], h) Q = Tr sc d 109 (65, [l0, l1, l2, l3, l4], [.int i1, .ref k0], h) Q := t_go k_109_57 rfl
theorem k_109_60 : lk 109 60 = some (.aload 4, 62, 4, 0, .null) := by decide +kernel
theorem x_109_60 : Tr sc d 109 (60, [l0, l1, l2, l3, some (.ref xk)], [.ref k0], h) Q = Tr sc d 109 (62, [l0, l1, l2, l3, some (.ref xk)], [.ref xk, .ref k0], h) Q := t_aload k_109_60 rfl
theorem k_109_62 : lk 109 62 = some (.getfield 181, 65, 6, 8, .int 0) := by decide +kernel
theorem x_109_62 : Tr sc d 109 (62, [l0, l1, l2, l3, l4], [.ref k1, .ref k0], h) Q = (okp h k1 6 = true ∧ Tr sc d 109 (65, [l0, l1, l2, l3, l4], [.int (hI h k1 8), .ref k0], h) Q) := t_gd k_109_62 rfl
theorem k_109_65 : lk 109 65 = some (.putfield 98, 68, 9, 15, .int 0) := by decide +kernel
theorem x_109_65 : Tr sc d 109 (65, [l0, l1, l2, l3, l4], [.int i1, .ref k0], h) Q = (okp h k0 9 = true ∧ Tr sc d 109 (68, [l0, l1, l2, l3, l4], [], (sI h k0 15 i1)) Q) := t_gd k_109_65 rfl
theorem k_109_68 : lk 109 68 = some (.iconst 1, 69, 0, 0, .int 1) := by decide +kernel
theorem x_109_68 : Tr sc d 109 (68, [l0, l1, l2, l3, l4], [], h) Q = Tr sc d 109 (69, [l0, l1, l2, l3, l4], [.int 1], h) Q := t_go k_109_68 rfl
theorem k_109_69 : lk 109 69 = some (.ireturn, 70, 0, 0, .null) := by decide +kernel
theorem x_109_69 : Tr sc d 109 (69, [l0, l1, l2, l3, l4], [.int i0], h) Q = Q (some (.int i0), h) := t_ret k_109_69 (by rw [r_109]; rfl)
theorem e_109 : Tr sc d 109 (ent0 109 [.ref k0, .int i1, .int i2] h) Q = Tr sc d 109 (0, [some (.ref k0), some (.int i1), some (.int i2), none, none], [], h) Q := by
  have e : mL 109 = 5 := by decide +kernel
  unfold ent0
  rw [e]
  rfl
theorem r_110 : mR 110 = some .int := by decide +kernel
theorem k_110_0 : lk 110 0 = some (.aload_n 0, 1, 0, 0, .null) := by decide +kernel
theorem x_110_0 : Tr sc d 110 (0, [some (.ref xk), l1, l2, l3, l4, l5], [], h) Q = Tr sc d 110 (1, [some (.ref xk), l1, l2, l3, l4, l5], [.ref xk], h) Q := t_aload_n k_110_0 rfl
theorem k_110_1 : lk 110 1 = some (.iload_n 1, 2, 1, 0, .null) := by decide +kernel
theorem x_110_1 : Tr sc d 110 (1, [l0, some (.int x), l2, l3, l4, l5], [.ref k0], h) Q = Tr sc d 110 (2, [l0, some (.int x), l2, l3, l4, l5], [.int x, .ref k0], h) Q := t_iload_n k_110_1 rfl
theorem k_110_2 : lk 110 2 = some (.iload_n 3, 3, 3, 0, .null) := by decide +kernel
theorem x_110_2 : Tr sc d 110 (2, [l0, l1, l2, some (.int x), l4, l5], [.int i1, .ref k0], h) Q = Tr sc d 110 (3, [l0, l1, l2, some (.int x), l4, l5], [.int x, .int i1, .ref k0], h) Q := t_iload_n k_110_2 rfl
theorem k_110_3 : lk 110 3 = some (.ifCond .lt 12, 6, 15, 0, .null) := by decide +kernel
theorem x_110_3 : Tr sc d 110 (3, [l0, l1, l2, l3, l4, l5], [.int i2, .int i1, .ref k0], h) Q = if i2 < 0 then Tr sc d 110 (15, [l0, l1, l2, l3, l4, l5], [.int i1, .ref k0], h) Q else Tr sc d 110 (6, [l0, l1, l2, l3, l4, l5], [.int i1, .ref k0], h) Q := t_if k_110_3 rfl
theorem k_110_6 : lk 110 6 = some (.iload_n 3, 7, 3, 0, .null) := by decide +kernel
theorem x_110_6 : Tr sc d 110 (6, [l0, l1, l2, some (.int x), l4, l5], [.int i1, .ref k0], h) Q = Tr sc d 110 (7, [l0, l1, l2, some (.int x), l4, l5], [.int x, .int i1, .ref k0], h) Q := t_iload_n k_110_6 rfl
theorem k_110_7 : lk 110 7 = some (.iconst 2, 8, 0, 0, .int 2) := by decide +kernel
theorem x_110_7 : Tr sc d 110 (7, [l0, l1, l2, l3, l4, l5], [.int i2, .int i1, .ref k0], h) Q = Tr sc d 110 (8, [l0, l1, l2, l3, l4, l5], [.int 2, .int i2, .int i1, .ref k0], h) Q := t_go k_110_7 rfl
theorem k_110_8 : lk 110 8 = some (.if_icmp .gt 7, 11, 15, 0, .null) := by decide +kernel
theorem x_110_8 : Tr sc d 110 (8, [l0, l1, l2, l3, l4, l5], [.int i3, .int i2, .int i1, .ref k0], h) Q = if i3 < i2 then Tr sc d 110 (15, [l0, l1, l2, l3, l4, l5], [.int i1, .ref k0], h) Q else Tr sc d 110 (11, [l0, l1, l2, l3, l4, l5], [.int i1, .ref k0], h) Q := t_if k_110_8 rfl
theorem k_110_11 : lk 110 11 = some (.iconst 1, 12, 0, 0, .int 1) := by decide +kernel
theorem x_110_11 : Tr sc d 110 (11, [l0, l1, l2, l3, l4, l5], [.int i1, .ref k0], h) Q = Tr sc d 110 (12, [l0, l1, l2, l3, l4, l5], [.int 1, .int i1, .ref k0], h) Q := t_go k_110_11 rfl
theorem k_110_12 : lk 110 12 = some (.goto 4, 15, 16, 0, .null) := by decide +kernel
theorem x_110_12 : Tr sc d 110 (12, [l0, l1, l2, l3, l4, l5], [.int i2, .int i1, .ref k0], h) Q = Tr sc d 110 (16, [l0, l1, l2, l3, l4, l5], [.int i2, .int i1, .ref k0], h) Q := t_go k_110_12 rfl
theorem k_110_15 : lk 110 15 = some (.iconst 0, 16, 0, 0, .int 0) := by decide +kernel
theorem x_110_15 : Tr sc d 110 (15, [l0, l1, l2, l3, l4, l5], [.int i1, .ref k0], h) Q = Tr sc d 110 (16, [l0, l1, l2, l3, l4, l5], [.int 0, .int i1, .ref k0], h) Q := t_go k_110_15 rfl
theorem k_110_16 : lk 110 16 = some (.invokevirtual 196, 19, 145, 2, .null) := by decide +kernel
theorem x_110_16 : Tr sc (d + 1) 110 (16, [l0, l1, l2, l3, l4, l5], [.int i2, .int i1, .ref k0], h) Q = (okp h k0 9 = true ∧ Tr sc d 145 (ent0 145 [.ref k0, .int i1, .int i2] h) (fun z => Tr sc (d + 1) 110 (19, [l0, l1, l2, l3, l4, l5], z.1.toList ++ [], z.2) Q)) := t_cv (as := [.int i1, .int i2]) (r := []) k_110_16 rfl rfl (Nat.le_of_ble_eq_true rfl) (Nat.le_of_ble_eq_true rfl) (Nat.le_of_ble_eq_true rfl)
theorem k_110_19 : lk 110 19 = some (.istore 4, 21, 4, 0, .null) := by decide +kernel
theorem x_110_19 : Tr sc d 110 (19, [l0, l1, l2, l3, l4, l5], [.int i0], h) Q = Tr sc d 110 (21, [l0, l1, l2, cl2 l3, some (.int i0), l5], [], h) Q := t_istore k_110_19 (Nat.le_of_ble_eq_true rfl)
theorem k_110_21 : lk 110 21 = some (.iload 4, 23, 4, 0, .null) := by decide +kernel
theorem x_110_21 : Tr sc d 110 (21, [l0, l1, l2, l3, some (.int x), l5], [], h) Q = Tr sc d 110 (23, [l0, l1, l2, l3, some (.int x), l5], [.int x], h) Q := t_iload k_110_21 rfl
theorem k_110_23 : lk 110 23 = some (.ifCond .eq 6, 26, 29, 0, .null) := by decide +kernel
theorem x_110_23 : Tr sc d 110 (23, [l0, l1, l2, l3, l4, l5], [.int i0], h) Q = if i0 = 0 then Tr sc d 110 (29, [l0, l1, l2, l3, l4, l5], [], h) Q else Tr sc d 110 (26, [l0, l1, l2, l3, l4, l5], [], h) Q := t_if k_110_23 rfl
theorem k_110_26 : lk 110 26 = some (.iload 4, 28, 4, 0, .null) := by decide +kernel
theorem x_110_26 : Tr sc d 110 (26, [l0, l1, l2, l3, some (.int x), l5], [], h) Q = Tr sc d 110 (28, [l0, l1, l2, l3, some (.int x), l5], [.int x], h) Q := t_iload k_110_26 rfl
theorem k_110_28 : lk 110 28 = some (.ireturn, 29, 0, 0, .null) := by decide +kernel
theorem x_110_28 : Tr sc d 110 (28, [l0, l1, l2, l3, l4, l5], [.int i0], h) Q = Q (some (.int i0), h) := t_ret k_110_28 (by rw [r_110]; rfl)
theorem k_110_29 : lk 110 29 = some (.aload_n 0, 30, 0, 0, .null) := by decide +kernel
theorem x_110_29 : Tr sc d 110 (29, [some (.ref xk), l1, l2, l3, l4, l5], [], h) Q = Tr sc d 110 (30, [some (.ref xk), l1, l2, l3, l4, l5], [.ref xk], h) Q := t_aload_n k_110_29 rfl
theorem k_110_30 : lk 110 30 = some (.getfield 20, 33, 9, 2, .null) := by decide +kernel
theorem x_110_30 : Tr sc d 110 (30, [l0, l1, l2, l3, l4, l5], [.ref k0], h) Q = (okp h k0 9 = true ∧ ∃ q, hR h k0 2 = some q ∧ Tr sc d 110 (33, [l0, l1, l2, l3, l4, l5], [.ref q], h) Q) := t_getr k_110_30
theorem k_110_33 : lk 110 33 = some (.iload_n 1, 34, 1, 0, .null) := by decide +kernel
theorem x_110_33 : Tr sc d 110 (33, [l0, some (.int x), l2, l3, l4, l5], [.ref k0], h) Q = Tr sc d 110 (34, [l0, some (.int x), l2, l3, l4, l5], [.int x, .ref k0], h) Q := t_iload_n k_110_33 rfl
theorem k_110_34 : lk 110 34 = some (.aaload, 35, 0, 0, .null) := by decide +kernel
theorem x_110_34 : Tr sc d 110 (34, [l0, l1, l2, l3, l4, l5], [.int i1, .ref k0], h) Q = (((okp h k0 14 || okp h k0 15) && inb i1 (LN k0)) = true ∧ ∃ q, hR h k0 i1.toNatClampNeg = some q ∧ Tr sc d 110 (35, [l0, l1, l2, l3, l4, l5], [.ref q], h) Q) := t_aald k_110_34
theorem k_110_35 : lk 110 35 = some (.astore 5, 37, 5, 0, .null) := by decide +kernel
theorem x_110_35 : Tr sc d 110 (35, [l0, l1, l2, l3, l4, l5], [.ref k0], h) Q = Tr sc d 110 (37, [l0, l1, l2, l3, cl2 l4, some (.ref k0)], [], h) Q := t_astore k_110_35 (Nat.le_of_ble_eq_true rfl)
theorem k_110_37 : lk 110 37 = some (.aload 5, 39, 5, 0, .null) := by decide +kernel
theorem x_110_37 : Tr sc d 110 (37, [l0, l1, l2, l3, l4, some (.ref xk)], [], h) Q = Tr sc d 110 (39, [l0, l1, l2, l3, l4, some (.ref xk)], [.ref xk], h) Q := t_aload k_110_37 rfl
theorem k_110_39 : lk 110 39 = some (.iload_n 2, 40, 2, 0, .null) := by decide +kernel
theorem x_110_39 : Tr sc d 110 (39, [l0, l1, some (.int x), l3, l4, l5], [.ref k0], h) Q = Tr sc d 110 (40, [l0, l1, some (.int x), l3, l4, l5], [.int x, .ref k0], h) Q := t_iload_n k_110_39 rfl
theorem k_110_40 : lk 110 40 = some (.invokevirtual 206, 43, 50, 1, .null) := by decide +kernel
theorem x_110_40 : Tr sc (d + 1) 110 (40, [l0, l1, l2, l3, l4, l5], [.int i1, .ref k0], h) Q = (okp h k0 6 = true ∧ Tr sc d 50 (ent0 50 [.ref k0, .int i1] h) (fun z => Tr sc (d + 1) 110 (43, [l0, l1, l2, l3, l4, l5], z.1.toList ++ [], z.2) Q)) := t_cv (as := [.int i1]) (r := []) k_110_40 rfl rfl (Nat.le_of_ble_eq_true rfl) (Nat.le_of_ble_eq_true rfl) (Nat.le_of_ble_eq_true rfl)
theorem k_110_43 : lk 110 43 = some (.ifCond .ne 9, 46, 52, 0, .null) := by decide +kernel
theorem x_110_43 : Tr sc d 110 (43, [l0, l1, l2, l3, l4, l5], [.int i0], h) Q = if i0 = 0 then Tr sc d 110 (46, [l0, l1, l2, l3, l4, l5], [], h) Q else Tr sc d 110 (52, [l0, l1, l2, l3, l4, l5], [], h) Q := t_if k_110_43 rfl
theorem k_110_46 : lk 110 46 = some (.aload_n 0, 47, 0, 0, .null) := by decide +kernel
theorem x_110_46 : Tr sc d 110 (46, [some (.ref xk), l1, l2, l3, l4, l5], [], h) Q = Tr sc d 110 (47, [some (.ref xk), l1, l2, l3, l4, l5], [.ref xk], h) Q := t_aload_n k_110_46 rfl
theorem k_110_47 : lk 110 47 = some (.iconst 2, 48, 0, 0, .int 2) := by decide +kernel
theorem x_110_47 : Tr sc d 110 (47, [l0, l1, l2, l3, l4, l5], [.ref k0], h) Q = Tr sc d 110 (48, [l0, l1, l2, l3, l4, l5], [.int 2, .ref k0], h) Q := t_go k_110_47 rfl
theorem k_110_48 : lk 110 48 = some (.invokevirtual 118, 51, 144, 1, .null) := by decide +kernel
theorem x_110_48 : Tr sc (d + 1) 110 (48, [l0, l1, l2, l3, l4, l5], [.int i1, .ref k0], h) Q = (okp h k0 9 = true ∧ Tr sc d 144 (ent0 144 [.ref k0, .int i1] h) (fun z => Tr sc (d + 1) 110 (51, [l0, l1, l2, l3, l4, l5], z.1.toList ++ [], z.2) Q)) := t_cv (as := [.int i1]) (r := []) k_110_48 rfl rfl (Nat.le_of_ble_eq_true rfl) (Nat.le_of_ble_eq_true rfl) (Nat.le_of_ble_eq_true rfl)
theorem k_110_51 : lk 110 51 = some (.ireturn, 52, 0, 0, .null) := by decide +kernel
theorem x_110_51 : Tr sc d 110 (51, [l0, l1, l2, l3, l4, l5], [.int i0], h) Q = Q (some (.int i0), h) := t_ret k_110_51 (by rw [r_110]; rfl)
theorem k_110_52 : lk 110 52 = some (.aload_n 0, 53, 0, 0, .null) := by decide +kernel
theorem x_110_52 : Tr sc d 110 (52, [some (.ref xk), l1, l2, l3, l4, l5], [], h) Q = Tr sc d 110 (53, [some (.ref xk), l1, l2, l3, l4, l5], [.ref xk], h) Q := t_aload_n k_110_52 rfl
theorem k_110_53 : lk 110 53 = some (.iload_n 3, 54, 3, 0, .null) := by decide +kernel
theorem x_110_53 : Tr sc d 110 (53, [l0, l1, l2, some (.int x), l4, l5], [.ref k0], h) Q = Tr sc d 110 (54, [l0, l1, l2, some (.int x), l4, l5], [.int x, .ref k0], h) Q := t_iload_n k_110_53 rfl
theorem k_110_54 : lk 110 54 = some (.ifCond .ne 13, 57, 67, 0, .null) := by decide +kernel
theorem x_110_54 : Tr sc d 110 (54, [l0, l1, l2, l3, l4, l5], [.int i1, .ref k0], h) Q = if i1 = 0 then Tr sc d 110 (57, [l0, l1, l2, l3, l4, l5], [.ref k0], h) Q else Tr sc d 110 (67, [l0, l1, l2, l3, l4, l5], [.ref k0], h) Q := t_if k_110_54 rfl
theorem k_110_57 : lk 110 57 = some (.aload 5, 59, 5, 0, .null) := by decide +kernel
theorem x_110_57 : Tr sc d 110 (57, [l0, l1, l2, l3, l4, some (.ref xk)], [.ref k0], h) Q = Tr sc d 110 (59, [l0, l1, l2, l3, l4, some (.ref xk)], [.ref xk, .ref k0], h) Q := t_aload k_110_57 rfl
theorem k_110_59 : lk 110 59 = some (.getfield 209, 62, 6, 0, .null) := by decide +kernel
theorem x_110_59 : Tr sc d 110 (59, [l0, l1, l2, l3, l4, l5], [.ref k1, .ref k0], h) Q = (okp h k1 6 = true ∧ ∃ q, hR h k1 0 = some q ∧ Tr sc d 110 (62, [l0, l1, l2, l3, l4, l5], [.ref q, .ref k0], h) Q) := t_getr k_110_59
theorem k_110_62 : lk 110 62 = some (.iload_n 2, 63, 2, 0, .null) := by decide +kernel
theorem x_110_62 : Tr sc d 110 (62, [l0, l1, some (.int x), l3, l4, l5], [.ref k1, .ref k0], h) Q = Tr sc d 110 (63, [l0, l1, some (.int x), l3, l4, l5], [.int x, .ref k1, .ref k0], h) Q := t_iload_n k_110_62 rfl
theorem k_110_63 : lk 110 63 = some (.iaload, 64, 0, 0, .null) := by decide +kernel
theorem x_110_63 : Tr sc d 110 (63, [l0, l1, l2, l3, l4, l5], [.int i2, .ref k1, .ref k0], h) Q = (iOk sc h k1 i2 ∧ Tr sc d 110 (64, [l0, l1, l2, l3, l4, l5], [.int (iRd sc h k1 i2), .ref k0], h) Q) := t_iald k_110_63
theorem k_110_64 : lk 110 64 = some (.goto 25, 67, 89, 0, .null) := by decide +kernel
theorem x_110_64 : Tr sc d 110 (64, [l0, l1, l2, l3, l4, l5], [.int i1, .ref k0], h) Q = Tr sc d 110 (89, [l0, l1, l2, l3, l4, l5], [.int i1, .ref k0], h) Q := t_go k_110_64 rfl
theorem k_110_67 : lk 110 67 = some (.iload_n 3, 68, 3, 0, .null) := by decide +kernel
theorem x_110_67 : Tr sc d 110 (67, [l0, l1, l2, some (.int x), l4, l5], [.ref k0], h) Q = Tr sc d 110 (68, [l0, l1, l2, some (.int x), l4, l5], [.int x, .ref k0], h) Q := t_iload_n k_110_67 rfl
theorem k_110_68 : lk 110 68 = some (.iconst 1, 69, 0, 0, .int 1) := by decide +kernel
theorem x_110_68 : Tr sc d 110 (68, [l0, l1, l2, l3, l4, l5], [.int i1, .ref k0], h) Q = Tr sc d 110 (69, [l0, l1, l2, l3, l4, l5], [.int 1, .int i1, .ref k0], h) Q := t_go k_110_68 rfl
theorem k_110_69 : lk 110 69 = some (.if_icmp .ne 13, 72, 82, 0, .null) := by decide +kernel
theorem x_110_69 : Tr sc d 110 (69, [l0, l1, l2, l3, l4, l5], [.int i2, .int i1, .ref k0], h) Q = if i1 = i2 then Tr sc d 110 (72, [l0, l1, l2, l3, l4, l5], [.ref k0], h) Q else Tr sc d 110 (82, [l0, l1, l2, l3, l4, l5], [.ref k0], h) Q := t_if k_110_69 rfl
theorem k_110_72 : lk 110 72 = some (.aload 5, 74, 5, 0, .null) := by decide +kernel
theorem x_110_72 : Tr sc d 110 (72, [l0, l1, l2, l3, l4, some (.ref xk)], [.ref k0], h) Q = Tr sc d 110 (74, [l0, l1, l2, l3, l4, some (.ref xk)], [.ref xk, .ref k0], h) Q := t_aload k_110_72 rfl
theorem k_110_74 : lk 110 74 = some (.getfield 212, 77, 6, 1, .null) := by decide +kernel
theorem x_110_74 : Tr sc d 110 (74, [l0, l1, l2, l3, l4, l5], [.ref k1, .ref k0], h) Q = (okp h k1 6 = true ∧ ∃ q, hR h k1 1 = some q ∧ Tr sc d 110 (77, [l0, l1, l2, l3, l4, l5], [.ref q, .ref k0], h) Q) := t_getr k_110_74
theorem k_110_77 : lk 110 77 = some (.iload_n 2, 78, 2, 0, .null) := by decide +kernel
theorem x_110_77 : Tr sc d 110 (77, [l0, l1, some (.int x), l3, l4, l5], [.ref k1, .ref k0], h) Q = Tr sc d 110 (78, [l0, l1, some (.int x), l3, l4, l5], [.int x, .ref k1, .ref k0], h) Q := t_iload_n k_110_77 rfl
theorem k_110_78 : lk 110 78 = some (.iaload, 79, 0, 0, .null) := by decide +kernel
theorem x_110_78 : Tr sc d 110 (78, [l0, l1, l2, l3, l4, l5], [.int i2, .ref k1, .ref k0], h) Q = (iOk sc h k1 i2 ∧ Tr sc d 110 (79, [l0, l1, l2, l3, l4, l5], [.int (iRd sc h k1 i2), .ref k0], h) Q) := t_iald k_110_78
theorem k_110_79 : lk 110 79 = some (.goto 10, 82, 89, 0, .null) := by decide +kernel
theorem x_110_79 : Tr sc d 110 (79, [l0, l1, l2, l3, l4, l5], [.int i1, .ref k0], h) Q = Tr sc d 110 (89, [l0, l1, l2, l3, l4, l5], [.int i1, .ref k0], h) Q := t_go k_110_79 rfl
theorem k_110_82 : lk 110 82 = some (.aload 5, 84, 5, 0, .null) := by decide +kernel
theorem x_110_82 : Tr sc d 110 (82, [l0, l1, l2, l3, l4, some (.ref xk)], [.ref k0], h) Q = Tr sc d 110 (84, [l0, l1, l2, l3, l4, some (.ref xk)], [.ref xk, .ref k0], h) Q := t_aload k_110_82 rfl
theorem k_110_84 : lk 110 84 = some (.getfield 215, 87, 6, 2, .null) := by decide +kernel
theorem x_110_84 : Tr sc d 110 (84, [l0, l1, l2, l3, l4, l5], [.ref k1, .ref k0], h) Q = (okp h k1 6 = true ∧ ∃ q, hR h k1 2 = some q ∧ Tr sc d 110 (87, [l0, l1, l2, l3, l4, l5], [.ref q, .ref k0], h) Q) := t_getr k_110_84
theorem k_110_87 : lk 110 87 = some (.iload_n 2, 88, 2, 0, .null) := by decide +kernel
theorem x_110_87 : Tr sc d 110 (87, [l0, l1, some (.int x), l3, l4, l5], [.ref k1, .ref k0], h) Q = Tr sc d 110 (88, [l0, l1, some (.int x), l3, l4, l5], [.int x, .ref k1, .ref k0], h) Q := t_iload_n k_110_87 rfl
theorem k_110_88 : lk 110 88 = some (.iaload, 89, 0, 0, .null) := by decide +kernel
theorem x_110_88 : Tr sc d 110 (88, [l0, l1, l2, l3, l4, l5], [.int i2, .ref k1, .ref k0], h) Q = (iOk sc h k1 i2 ∧ Tr sc d 110 (89, [l0, l1, l2, l3, l4, l5], [.int (iRd sc h k1 i2), .ref k0], h) Q) := t_iald k_110_88
theorem k_110_89 : lk 110 89 = some (.putfield 98, 92, 9, 15, .int 0) := by decide +kernel
theorem x_110_89 : Tr sc d 110 (89, [l0, l1, l2, l3, l4, l5], [.int i1, .ref k0], h) Q = (okp h k0 9 = true ∧ Tr sc d 110 (92, [l0, l1, l2, l3, l4, l5], [], (sI h k0 15 i1)) Q) := t_gd k_110_89 rfl
theorem k_110_92 : lk 110 92 = some (.iconst 1, 93, 0, 0, .int 1) := by decide +kernel
theorem x_110_92 : Tr sc d 110 (92, [l0, l1, l2, l3, l4, l5], [], h) Q = Tr sc d 110 (93, [l0, l1, l2, l3, l4, l5], [.int 1], h) Q := t_go k_110_92 rfl
theorem k_110_93 : lk 110 93 = some (.ireturn, 94, 0, 0, .null) := by decide +kernel
theorem x_110_93 : Tr sc d 110 (93, [l0, l1, l2, l3, l4, l5], [.int i0], h) Q = Q (some (.int i0), h) := t_ret k_110_93 (by rw [r_110]; rfl)
theorem e_110 : Tr sc d 110 (ent0 110 [.ref k0, .int i1, .int i2, .int i3] h) Q = Tr sc d 110 (0, [some (.ref k0), some (.int i1), some (.int i2), some (.int i3), none, none], [], h) Q := by
  have e : mL 110 = 6 := by decide +kernel
  unfold ent0
  rw [e]
  rfl
theorem r_111 : mR 111 = some .int := by decide +kernel
theorem k_111_0 : lk 111 0 = some (.aload_n 0, 1, 0, 0, .null) := by decide +kernel
theorem x_111_0 : Tr sc d 111 (0, [some (.ref xk), l1, l2, l3, l4], [], h) Q = Tr sc d 111 (1, [some (.ref xk), l1, l2, l3, l4], [.ref xk], h) Q := t_aload_n k_111_0 rfl
theorem k_111_1 : lk 111 1 = some (.iload_n 1, 2, 1, 0, .null) := by decide +kernel
theorem x_111_1 : Tr sc d 111 (1, [l0, some (.int x), l2, l3, l4], [.ref k0], h) Q = Tr sc d 111 (2, [l0, some (.int x), l2, l3, l4], [.int x, .ref k0], h) Q := t_iload_n k_111_1 rfl
theorem k_111_2 : lk 111 2 = some (.iload_n 2, 3, 2, 0, .null) := by decide +kernel
theorem x_111_2 : Tr sc d 111 (2, [l0, l1, some (.int x), l3, l4], [.int i1, .ref k0], h) Q = Tr sc d 111 (3, [l0, l1, some (.int x), l3, l4], [.int x, .int i1, .ref k0], h) Q := t_iload_n k_111_2 rfl
theorem k_111_3 : lk 111 3 = some (.iconst 1, 4, 0, 0, .int 1) := by decide +kernel
theorem x_111_3 : Tr sc d 111 (3, [l0, l1, l2, l3, l4], [.int i2, .int i1, .ref k0], h) Q = Tr sc d 111 (4, [l0, l1, l2, l3, l4], [.int 1, .int i2, .int i1, .ref k0], h) Q := t_go k_111_3 rfl
theorem k_111_4 : lk 111 4 = some (.if_icmp .lt 12, 7, 16, 0, .null) := by decide +kernel
theorem x_111_4 : Tr sc d 111 (4, [l0, l1, l2, l3, l4], [.int i3, .int i2, .int i1, .ref k0], h) Q = if i2 < i3 then Tr sc d 111 (16, [l0, l1, l2, l3, l4], [.int i1, .ref k0], h) Q else Tr sc d 111 (7, [l0, l1, l2, l3, l4], [.int i1, .ref k0], h) Q := t_if k_111_4 rfl
theorem k_111_7 : lk 111 7 = some (.iload_n 2, 8, 2, 0, .null) := by decide +kernel
theorem x_111_7 : Tr sc d 111 (7, [l0, l1, some (.int x), l3, l4], [.int i1, .ref k0], h) Q = Tr sc d 111 (8, [l0, l1, some (.int x), l3, l4], [.int x, .int i1, .ref k0], h) Q := t_iload_n k_111_7 rfl
theorem k_111_8 : lk 111 8 = some (.iconst 4, 9, 0, 0, .int 4) := by decide +kernel
theorem x_111_8 : Tr sc d 111 (8, [l0, l1, l2, l3, l4], [.int i2, .int i1, .ref k0], h) Q = Tr sc d 111 (9, [l0, l1, l2, l3, l4], [.int 4, .int i2, .int i1, .ref k0], h) Q := t_go k_111_8 rfl
theorem k_111_9 : lk 111 9 = some (.if_icmp .gt 7, 12, 16, 0, .null) := by decide +kernel
theorem x_111_9 : Tr sc d 111 (9, [l0, l1, l2, l3, l4], [.int i3, .int i2, .int i1, .ref k0], h) Q = if i3 < i2 then Tr sc d 111 (16, [l0, l1, l2, l3, l4], [.int i1, .ref k0], h) Q else Tr sc d 111 (12, [l0, l1, l2, l3, l4], [.int i1, .ref k0], h) Q := t_if k_111_9 rfl
theorem k_111_12 : lk 111 12 = some (.iconst 1, 13, 0, 0, .int 1) := by decide +kernel
theorem x_111_12 : Tr sc d 111 (12, [l0, l1, l2, l3, l4], [.int i1, .ref k0], h) Q = Tr sc d 111 (13, [l0, l1, l2, l3, l4], [.int 1, .int i1, .ref k0], h) Q := t_go k_111_12 rfl
theorem k_111_13 : lk 111 13 = some (.goto 4, 16, 17, 0, .null) := by decide +kernel
theorem x_111_13 : Tr sc d 111 (13, [l0, l1, l2, l3, l4], [.int i2, .int i1, .ref k0], h) Q = Tr sc d 111 (17, [l0, l1, l2, l3, l4], [.int i2, .int i1, .ref k0], h) Q := t_go k_111_13 rfl
theorem k_111_16 : lk 111 16 = some (.iconst 0, 17, 0, 0, .int 0) := by decide +kernel
theorem x_111_16 : Tr sc d 111 (16, [l0, l1, l2, l3, l4], [.int i1, .ref k0], h) Q = Tr sc d 111 (17, [l0, l1, l2, l3, l4], [.int 0, .int i1, .ref k0], h) Q := t_go k_111_16 rfl
theorem k_111_17 : lk 111 17 = some (.invokevirtual 196, 20, 145, 2, .null) := by decide +kernel
theorem x_111_17 : Tr sc (d + 1) 111 (17, [l0, l1, l2, l3, l4], [.int i2, .int i1, .ref k0], h) Q = (okp h k0 9 = true ∧ Tr sc d 145 (ent0 145 [.ref k0, .int i1, .int i2] h) (fun z => Tr sc (d + 1) 111 (20, [l0, l1, l2, l3, l4], z.1.toList ++ [], z.2) Q)) := t_cv (as := [.int i1, .int i2]) (r := []) k_111_17 rfl rfl (Nat.le_of_ble_eq_true rfl) (Nat.le_of_ble_eq_true rfl) (Nat.le_of_ble_eq_true rfl)
theorem k_111_20 : lk 111 20 = some (.istore_n 3, 21, 3, 0, .null) := by decide +kernel
theorem x_111_20 : Tr sc d 111 (20, [l0, l1, l2, l3, l4], [.int i0], h) Q = Tr sc d 111 (21, [l0, l1, cl2 l2, some (.int i0), l4], [], h) Q := t_istore_n k_111_20 (Nat.le_of_ble_eq_true rfl)
theorem k_111_21 : lk 111 21 = some (.iload_n 3, 22, 3, 0, .null) := by decide +kernel
theorem x_111_21 : Tr sc d 111 (21, [l0, l1, l2, some (.int x), l4], [], h) Q = Tr sc d 111 (22, [l0, l1, l2, some (.int x), l4], [.int x], h) Q := t_iload_n k_111_21 rfl
theorem k_111_22 : lk 111 22 = some (.ifCond .eq 5, 25, 27, 0, .null) := by decide +kernel
theorem x_111_22 : Tr sc d 111 (22, [l0, l1, l2, l3, l4], [.int i0], h) Q = if i0 = 0 then Tr sc d 111 (27, [l0, l1, l2, l3, l4], [], h) Q else Tr sc d 111 (25, [l0, l1, l2, l3, l4], [], h) Q := t_if k_111_22 rfl
theorem k_111_25 : lk 111 25 = some (.iload_n 3, 26, 3, 0, .null) := by decide +kernel
theorem x_111_25 : Tr sc d 111 (25, [l0, l1, l2, some (.int x), l4], [], h) Q = Tr sc d 111 (26, [l0, l1, l2, some (.int x), l4], [.int x], h) Q := t_iload_n k_111_25 rfl
theorem k_111_26 : lk 111 26 = some (.ireturn, 27, 0, 0, .null) := by decide +kernel
theorem x_111_26 : Tr sc d 111 (26, [l0, l1, l2, l3, l4], [.int i0], h) Q = Q (some (.int i0), h) := t_ret k_111_26 (by rw [r_111]; rfl)
theorem k_111_27 : lk 111 27 = some (.aload_n 0, 28, 0, 0, .null) := by decide +kernel
theorem x_111_27 : Tr sc d 111 (27, [some (.ref xk), l1, l2, l3, l4], [], h) Q = Tr sc d 111 (28, [some (.ref xk), l1, l2, l3, l4], [.ref xk], h) Q := t_aload_n k_111_27 rfl
theorem k_111_28 : lk 111 28 = some (.getfield 20, 31, 9, 2, .null) := by decide +kernel
theorem x_111_28 : Tr sc d 111 (28, [l0, l1, l2, l3, l4], [.ref k0], h) Q = (okp h k0 9 = true ∧ ∃ q, hR h k0 2 = some q ∧ Tr sc d 111 (31, [l0, l1, l2, l3, l4], [.ref q], h) Q) := t_getr k_111_28
theorem k_111_31 : lk 111 31 = some (.iload_n 1, 32, 1, 0, .null) := by decide +kernel
theorem x_111_31 : Tr sc d 111 (31, [l0, some (.int x), l2, l3, l4], [.ref k0], h) Q = Tr sc d 111 (32, [l0, some (.int x), l2, l3, l4], [.int x, .ref k0], h) Q := t_iload_n k_111_31 rfl
theorem k_111_32 : lk 111 32 = some (.aaload, 33, 0, 0, .null) := by decide +kernel
theorem x_111_32 : Tr sc d 111 (32, [l0, l1, l2, l3, l4], [.int i1, .ref k0], h) Q = (((okp h k0 14 || okp h k0 15) && inb i1 (LN k0)) = true ∧ ∃ q, hR h k0 i1.toNatClampNeg = some q ∧ Tr sc d 111 (33, [l0, l1, l2, l3, l4], [.ref q], h) Q) := t_aald k_111_32
theorem k_111_33 : lk 111 33 = some (.astore 4, 35, 4, 0, .null) := by decide +kernel
theorem x_111_33 : Tr sc d 111 (33, [l0, l1, l2, l3, l4], [.ref k0], h) Q = Tr sc d 111 (35, [l0, l1, l2, cl2 l3, some (.ref k0)], [], h) Q := t_astore k_111_33 (Nat.le_of_ble_eq_true rfl)
theorem k_111_35 : lk 111 35 = some (.iload_n 2, 36, 2, 0, .null) := by decide +kernel
theorem x_111_35 : Tr sc d 111 (35, [l0, l1, some (.int x), l3, l4], [], h) Q = Tr sc d 111 (36, [l0, l1, some (.int x), l3, l4], [.int x], h) Q := t_iload_n k_111_35 rfl
theorem k_111_36 : lk 111 36 = some (.iconst 1, 37, 0, 0, .int 1) := by decide +kernel
theorem x_111_36 : Tr sc d 111 (36, [l0, l1, l2, l3, l4], [.int i0], h) Q = Tr sc d 111 (37, [l0, l1, l2, l3, l4], [.int 1, .int i0], h) Q := t_go k_111_36 rfl
theorem k_111_37 : lk 111 37 = some (.if_icmp .ne 17, 40, 54, 0, .null) := by decide +kernel
theorem x_111_37 : Tr sc d 111 (37, [l0, l1, l2, l3, l4], [.int i1, .int i0], h) Q = if i0 = i1 then Tr sc d 111 (40, [l0, l1, l2, l3, l4], [], h) Q else Tr sc d 111 (54, [l0, l1, l2, l3, l4], [], h) Q := t_if k_111_37 rfl
theorem k_111_40 : lk 111 40 = some (.aload 4, 42, 4, 0, .null) := by decide +kernel
theorem x_111_40 : Tr sc d 111 (40, [l0, l1, l2, l3, some (.ref xk)], [], h) Q = Tr sc d 111 (42, [l0, l1, l2, l3, some (.ref xk)], [.ref xk], h) Q := t_aload k_111_40 rfl
theorem k_111_42 : lk 111 42 = some (.invokevirtual 218, 45, 49, 0, .null) := by decide +kernel
theorem x_111_42 : Tr sc (d + 1) 111 (42, [l0, l1, l2, l3, l4], [.ref k0], h) Q = (okp h k0 6 = true ∧ Tr sc d 49 (ent0 49 [.ref k0] h) (fun z => Tr sc (d + 1) 111 (45, [l0, l1, l2, l3, l4], z.1.toList ++ [], z.2) Q)) := t_cv (as := []) (r := []) k_111_42 rfl rfl (Nat.le_of_ble_eq_true rfl) (Nat.le_of_ble_eq_true rfl) (Nat.le_of_ble_eq_true rfl)
theorem k_111_45 : lk 111 45 = some (.ifCond .eq 9, 48, 54, 0, .null) := by decide +kernel
theorem x_111_45 : Tr sc d 111 (45, [l0, l1, l2, l3, l4], [.int i0], h) Q = if i0 = 0 then Tr sc d 111 (54, [l0, l1, l2, l3, l4], [], h) Q else Tr sc d 111 (48, [l0, l1, l2, l3, l4], [], h) Q := t_if k_111_45 rfl
theorem k_111_48 : lk 111 48 = some (.aload 4, 50, 4, 0, .null) := by decide +kernel
theorem x_111_48 : Tr sc d 111 (48, [l0, l1, l2, l3, some (.ref xk)], [], h) Q = Tr sc d 111 (50, [l0, l1, l2, l3, some (.ref xk)], [.ref xk], h) Q := t_aload k_111_48 rfl
theorem k_111_50 : lk 111 50 = some (.invokevirtual 221, 53, 64, 0, .null) := by decide +kernel
theorem x_111_50 : Tr sc (d + 1) 111 (50, [l0, l1, l2, l3, l4], [.ref k0], h) Q = (okp h k0 6 = true ∧ Tr sc d 64 (ent0 64 [.ref k0] h) (fun z => Tr sc (d + 1) 111 (53, [l0, l1, l2, l3, l4], z.1.toList ++ [], z.2) Q)) := t_cv (as := []) (r := []) k_111_50 rfl rfl (Nat.le_of_ble_eq_true rfl) (Nat.le_of_ble_eq_true rfl) (Nat.le_of_ble_eq_true rfl)
theorem k_111_53 : lk 111 53 = some (.ireturn, 54, 0, 0, .null) := by decide +kernel
theorem x_111_53 : Tr sc d 111 (53, [l0, l1, l2, l3, l4], [.int i0], h) Q = Q (some (.int i0), h) := t_ret k_111_53 (by rw [r_111]; rfl)
theorem k_111_54 : lk 111 54 = some (.iload_n 2, 55, 2, 0, .null) := by decide +kernel
theorem x_111_54 : Tr sc d 111 (54, [l0, l1, some (.int x), l3, l4], [], h) Q = Tr sc d 111 (55, [l0, l1, some (.int x), l3, l4], [.int x], h) Q := t_iload_n k_111_54 rfl
theorem k_111_55 : lk 111 55 = some (.aload 4, 57, 4, 0, .null) := by decide +kernel
theorem x_111_55 : Tr sc d 111 (55, [l0, l1, l2, l3, some (.ref xk)], [.int i0], h) Q = Tr sc d 111 (57, [l0, l1, l2, l3, some (.ref xk)], [.ref xk, .int i0], h) Q := t_aload k_111_55 rfl
theorem k_111_57 : lk 111 57 = some (.getfield 200, 60, 6, 6, .int 0) := by decide +kernel
theorem x_111_57 : Tr sc d 111 (57, [l0, l1, l2, l3, l4], [.ref k1, .int i0], h) Q = (okp h k1 6 = true ∧ Tr sc d 111 (60, [l0, l1, l2, l3, l4], [.int (hI h k1 6), .int i0], h) Q) := t_gd k_111_57 rfl
theorem k_111_60 : lk 111 60 = some (.if_icmp .eq 9, 63, 69, 0, .null) := by decide +kernel
theorem x_111_60 : Tr sc d 111 (60, [l0, l1, l2, l3, l4], [.int i1, .int i0], h) Q = if i0 = i1 then Tr sc d 111 (69, [l0, l1, l2, l3, l4], [], h) Q else Tr sc d 111 (63, [l0, l1, l2, l3, l4], [], h) Q := t_if k_111_60 rfl
theorem k_111_63 : lk 111 63 = some (.aload_n 0, 64, 0, 0, .null) := by decide +kernel
theorem x_111_63 : Tr sc d 111 (63, [some (.ref xk), l1, l2, l3, l4], [], h) Q = Tr sc d 111 (64, [some (.ref xk), l1, l2, l3, l4], [.ref xk], h) Q := t_aload_n k_111_63 rfl
theorem k_111_64 : lk 111 64 = some (.iconst 3, 65, 0, 0, .int 3) := by decide +kernel
theorem x_111_64 : Tr sc d 111 (64, [l0, l1, l2, l3, l4], [.ref k0], h) Q = Tr sc d 111 (65, [l0, l1, l2, l3, l4], [.int 3, .ref k0], h) Q := t_go k_111_64 rfl
theorem k_111_65 : lk 111 65 = some (.invokevirtual 118, 68, 144, 1, .null) := by decide +kernel
theorem x_111_65 : Tr sc (d + 1) 111 (65, [l0, l1, l2, l3, l4], [.int i1, .ref k0], h) Q = (okp h k0 9 = true ∧ Tr sc d 144 (ent0 144 [.ref k0, .int i1] h) (fun z => Tr sc (d + 1) 111 (68, [l0, l1, l2, l3, l4], z.1.toList ++ [], z.2) Q)) := t_cv (as := [.int i1]) (r := []) k_111_65 rfl rfl (Nat.le_of_ble_eq_true rfl) (Nat.le_of_ble_eq_true rfl) (Nat.le_of_ble_eq_true rfl)
theorem k_111_68 : lk 111 68 = some (.ireturn, 69, 0, 0, .null) := by decide +kernel
theorem x_111_68 : Tr sc d 111 (68, [l0, l1, l2, l3, l4], [.int i0], h) Q = Q (some (.int i0), h) := t_ret k_111_68 (by rw [r_111]; rfl)
theorem k_111_69 : lk 111 69 = some (.iload_n 2, 70, 2, 0, .null) := by decide +kernel
theorem x_111_69 : Tr sc d 111 (69, [l0, l1, some (.int x), l3, l4], [], h) Q = Tr sc d 111 (70, [l0, l1, some (.int x), l3, l4], [.int x], h) Q := t_iload_n k_111_69 rfl
theorem k_111_70 : lk 111 70 = some (.iconst 2, 71, 0, 0, .int 2) := by decide +kernel
theorem x_111_70 : Tr sc d 111 (70, [l0, l1, l2, l3, l4], [.int i0], h) Q = Tr sc d 111 (71, [l0, l1, l2, l3, l4], [.int 2, .int i0], h) Q := t_go k_111_70 rfl
theorem k_111_71 : lk 111 71 = some (.if_icmp .ne 11, 74, 82, 0, .null) := by decide +kernel
theorem x_111_71 : Tr sc d 111 (71, [l0, l1, l2, l3, l4], [.int i1, .int i0], h) Q = if i0 = i1 then Tr sc d 111 (74, [l0, l1, l2, l3, l4], [], h) Q else Tr sc d 111 (82, [l0, l1, l2, l3, l4], [], h) Q := t_if k_111_71 rfl
theorem k_111_74 : lk 111 74 = some (.aload 4, 76, 4, 0, .null) := by decide +kernel
theorem x_111_74 : Tr sc d 111 (74, [l0, l1, l2, l3, some (.ref xk)], [], h) Q = Tr sc d 111 (76, [l0, l1, l2, l3, some (.ref xk)], [.ref xk], h) Q := t_aload k_111_74 rfl
theorem k_111_76 : lk 111 76 = some (.getfield 181, 79, 6, 8, .int 0) := by decide +kernel
theorem x_111_76 : Tr sc d 111 (76, [l0, l1, l2, l3, l4], [.ref k0], h) Q = (okp h k0 6 = true ∧ Tr sc d 111 (79, [l0, l1, l2, l3, l4], [.int (hI h k0 8)], h) Q) := t_gd k_111_76 rfl
theorem k_111_79 : lk 111 79 = some (.goto 21, 82, 100, 0, .null) := by decide +kernel
theorem x_111_79 : Tr sc d 111 (79, [l0, l1, l2, l3, l4], [.int i0], h) Q = Tr sc d 111 (100, [l0, l1, l2, l3, l4], [.int i0], h) Q := t_go k_111_79 rfl
theorem k_111_82 : lk 111 82 = some (.iload_n 2, 83, 2, 0, .null) := by decide +kernel
theorem x_111_82 : Tr sc d 111 (82, [l0, l1, some (.int x), l3, l4], [], h) Q = Tr sc d 111 (83, [l0, l1, some (.int x), l3, l4], [.int x], h) Q := t_iload_n k_111_82 rfl
theorem k_111_83 : lk 111 83 = some (.iconst 3, 84, 0, 0, .int 3) := by decide +kernel
theorem x_111_83 : Tr sc d 111 (83, [l0, l1, l2, l3, l4], [.int i0], h) Q = Tr sc d 111 (84, [l0, l1, l2, l3, l4], [.int 3, .int i0], h) Q := t_go k_111_83 rfl
theorem k_111_84 : lk 111 84 = some (.if_icmp .ne 11, 87, 95, 0, .null) := by decide +kernel
theorem x_111_84 : Tr sc d 111 (84, [l0, l1, l2, l3, l4], [.int i1, .int i0], h) Q = if i0 = i1 then Tr sc d 111 (87, [l0, l1, l2, l3, l4], [], h) Q else Tr sc d 111 (95, [l0, l1, l2, l3, l4], [], h) Q := t_if k_111_84 rfl
theorem k_111_87 : lk 111 87 = some (.aload 4, 89, 4, 0, .null) := by decide +kernel
theorem x_111_87 : Tr sc d 111 (87, [l0, l1, l2, l3, some (.ref xk)], [], h) Q = Tr sc d 111 (89, [l0, l1, l2, l3, some (.ref xk)], [.ref xk], h) Q := t_aload k_111_87 rfl
theorem k_111_89 : lk 111 89 = some (.invokevirtual 177, 92, 57, 0, .null) := by decide +kernel
theorem x_111_89 : Tr sc (d + 1) 111 (89, [l0, l1, l2, l3, l4], [.ref k0], h) Q = (okp h k0 6 = true ∧ Tr sc d 57 (ent0 57 [.ref k0] h) (fun z => Tr sc (d + 1) 111 (92, [l0, l1, l2, l3, l4], z.1.toList ++ [], z.2) Q)) := t_cv (as := []) (r := []) k_111_89 rfl rfl (Nat.le_of_ble_eq_true rfl) (Nat.le_of_ble_eq_true rfl) (Nat.le_of_ble_eq_true rfl)
theorem k_111_92 : lk 111 92 = some (.goto 8, 95, 100, 0, .null) := by decide +kernel
theorem x_111_92 : Tr sc d 111 (92, [l0, l1, l2, l3, l4], [.int i0], h) Q = Tr sc d 111 (100, [l0, l1, l2, l3, l4], [.int i0], h) Q := t_go k_111_92 rfl
theorem k_111_95 : lk 111 95 = some (.aload 4, 97, 4, 0, .null) := by decide +kernel
theorem x_111_95 : Tr sc d 111 (95, [l0, l1, l2, l3, some (.ref xk)], [], h) Q = Tr sc d 111 (97, [l0, l1, l2, l3, some (.ref xk)], [.ref xk], h) Q := t_aload k_111_95 rfl
theorem k_111_97 : lk 111 97 = some (.invokevirtual 184, 100, 59, 0, .null) := by decide +kernel
theorem x_111_97 : Tr sc (d + 1) 111 (97, [l0, l1, l2, l3, l4], [.ref k0], h) Q = (okp h k0 6 = true ∧ Tr sc d 59 (ent0 59 [.ref k0] h) (fun z => Tr sc (d + 1) 111 (100, [l0, l1, l2, l3, l4], z.1.toList ++ [], z.2) Q)) := t_cv (as := []) (r := []) k_111_97 rfl rfl (Nat.le_of_ble_eq_true rfl) (Nat.le_of_ble_eq_true rfl) (Nat.le_of_ble_eq_true rfl)
theorem k_111_100 : lk 111 100 = some (.ireturn, 101, 0, 0, .null) := by decide +kernel
theorem x_111_100 : Tr sc d 111 (100, [l0, l1, l2, l3, l4], [.int i0], h) Q = Q (some (.int i0), h) := t_ret k_111_100 (by rw [r_111]; rfl)
theorem e_111 : Tr sc d 111 (ent0 111 [.ref k0, .int i1, .int i2] h) Q = Tr sc d 111 (0, [some (.ref k0), some (.int i1), some (.int i2), none, none], [], h) Q := by
  have e : mL 111 = 5 := by decide +kernel
  unfold ent0
  rw [e]
  rfl
theorem r_112 : mR 112 = some .int := by decide +kernel
theorem k_112_0 : lk 112 0 = some (.aload_n 0, 1, 0, 0, .null) := by decide +kernel
theorem x_112_0 : Tr sc d 112 (0, [some (.ref xk), l1, l2, l3, l4, l5], [], h) Q = Tr sc d 112 (1, [some (.ref xk), l1, l2, l3, l4, l5], [.ref xk], h) Q := t_aload_n k_112_0 rfl
theorem k_112_1 : lk 112 1 = some (.iload_n 1, 2, 1, 0, .null) := by decide +kernel
theorem x_112_1 : Tr sc d 112 (1, [l0, some (.int x), l2, l3, l4, l5], [.ref k0], h) Q = Tr sc d 112 (2, [l0, some (.int x), l2, l3, l4, l5], [.int x, .ref k0], h) Q := t_iload_n k_112_1 rfl
theorem k_112_2 : lk 112 2 = some (.iload_n 2, 3, 2, 0, .null) := by decide +kernel
theorem x_112_2 : Tr sc d 112 (2, [l0, l1, some (.int x), l3, l4, l5], [.int i1, .ref k0], h) Q = Tr sc d 112 (3, [l0, l1, some (.int x), l3, l4, l5], [.int x, .int i1, .ref k0], h) Q := t_iload_n k_112_2 rfl
theorem k_112_3 : lk 112 3 = some (.iload_n 3, 4, 3, 0, .null) := by decide +kernel
theorem x_112_3 : Tr sc d 112 (3, [l0, l1, l2, some (.int x), l4, l5], [.int i2, .int i1, .ref k0], h) Q = Tr sc d 112 (4, [l0, l1, l2, some (.int x), l4, l5], [.int x, .int i2, .int i1, .ref k0], h) Q := t_iload_n k_112_3 rfl
theorem k_112_4 : lk 112 4 = some (.iload_n 3, 5, 3, 0, .null) := by decide +kernel
theorem x_112_4 : Tr sc d 112 (4, [l0, l1, l2, some (.int x), l4, l5], [.int i3, .int i2, .int i1, .ref k0], h) Q = Tr sc d 112 (5, [l0, l1, l2, some (.int x), l4, l5], [.int x, .int i3, .int i2, .int i1, .ref k0], h) Q := t_iload_n k_112_4 rfl
theorem k_112_5 : lk 112 5 = some (.ifCond .lt 13, 8, 18, 0, .null) := by decide +kernel
theorem x_112_5 : Tr sc d 112 (5, [l0, l1, l2, l3, l4, l5], [.int i4, .int i3, .int i2, .int i1, .ref k0], h) Q = if i4 < 0 then Tr sc d 112 (18, [l0, l1, l2, l3, l4, l5], [.int i3, .int i2, .int i1, .ref k0], h) Q else Tr sc d 112 (8, [l0, l1, l2, l3, l4, l5], [.int i3, .int i2, .int i1, .ref k0], h) Q := t_if k_112_5 rfl
theorem k_112_8 : lk 112 8 = some (.iload_n 3, 9, 3, 0, .null) := by decide +kernel
theorem x_112_8 : Tr sc d 112 (8, [l0, l1, l2, some (.int x), l4, l5], [.int i3, .int i2, .int i1, .ref k0], h) Q = Tr sc d 112 (9, [l0, l1, l2, some (.int x), l4, l5], [.int x, .int i3, .int i2, .int i1, .ref k0], h) Q := t_iload_n k_112_8 rfl
theorem k_112_9 : lk 112 9 = some (.bipush 8, 11, 0, 0, .int 8) := by decide +kernel
theorem x_112_9 : Tr sc d 112 (9, [l0, l1, l2, l3, l4, l5], [.int i4, .int i3, .int i2, .int i1, .ref k0], h) Q = Tr sc d 112 (11, [l0, l1, l2, l3, l4, l5], [.int 8, .int i4, .int i3, .int i2, .int i1, .ref k0], h) Q := t_go k_112_9 rfl
theorem k_112_11 : lk 112 11 = some (.if_icmp .gt 7, 14, 18, 0, .null) := by decide +kernel
theorem x_112_11 : Tr sc d 112 (11, [l0, l1, l2, l3, l4, l5], [.int i5, .int i4, .int i3, .int i2, .int i1, .ref k0], h) Q = if i5 < i4 then Tr sc d 112 (18, [l0, l1, l2, l3, l4, l5], [.int i3, .int i2, .int i1, .ref k0], h) Q else Tr sc d 112 (14, [l0, l1, l2, l3, l4, l5], [.int i3, .int i2, .int i1, .ref k0], h) Q := t_if k_112_11 rfl
theorem k_112_14 : lk 112 14 = some (.iconst 1, 15, 0, 0, .int 1) := by decide +kernel
theorem x_112_14 : Tr sc d 112 (14, [l0, l1, l2, l3, l4, l5], [.int i3, .int i2, .int i1, .ref k0], h) Q = Tr sc d 112 (15, [l0, l1, l2, l3, l4, l5], [.int 1, .int i3, .int i2, .int i1, .ref k0], h) Q := t_go k_112_14 rfl
theorem k_112_15 : lk 112 15 = some (.goto 4, 18, 19, 0, .null) := by decide +kernel
theorem x_112_15 : Tr sc d 112 (15, [l0, l1, l2, l3, l4, l5], [.int i4, .int i3, .int i2, .int i1, .ref k0], h) Q = Tr sc d 112 (19, [l0, l1, l2, l3, l4, l5], [.int i4, .int i3, .int i2, .int i1, .ref k0], h) Q := t_go k_112_15 rfl
theorem k_112_18 : lk 112 18 = some (.iconst 0, 19, 0, 0, .int 0) := by decide +kernel
theorem x_112_18 : Tr sc d 112 (18, [l0, l1, l2, l3, l4, l5], [.int i3, .int i2, .int i1, .ref k0], h) Q = Tr sc d 112 (19, [l0, l1, l2, l3, l4, l5], [.int 0, .int i3, .int i2, .int i1, .ref k0], h) Q := t_go k_112_18 rfl
theorem k_112_19 : lk 112 19 = some (.invokevirtual 224, 22, 147, 4, .null) := by decide +kernel
theorem x_112_19 : Tr sc (d + 1) 112 (19, [l0, l1, l2, l3, l4, l5], [.int i4, .int i3, .int i2, .int i1, .ref k0], h) Q = (okp h k0 9 = true ∧ Tr sc d 147 (ent0 147 [.ref k0, .int i1, .int i2, .int i3, .int i4] h) (fun z => Tr sc (d + 1) 112 (22, [l0, l1, l2, l3, l4, l5], z.1.toList ++ [], z.2) Q)) := t_cv (as := [.int i1, .int i2, .int i3, .int i4]) (r := []) k_112_19 rfl rfl (Nat.le_of_ble_eq_true rfl) (Nat.le_of_ble_eq_true rfl) (Nat.le_of_ble_eq_true rfl)
theorem k_112_22 : lk 112 22 = some (.istore 5, 24, 5, 0, .null) := by decide +kernel
theorem x_112_22 : Tr sc d 112 (22, [l0, l1, l2, l3, l4, l5], [.int i0], h) Q = Tr sc d 112 (24, [l0, l1, l2, l3, cl2 l4, some (.int i0)], [], h) Q := t_istore k_112_22 (Nat.le_of_ble_eq_true rfl)
theorem k_112_24 : lk 112 24 = some (.iload 5, 26, 5, 0, .null) := by decide +kernel
theorem x_112_24 : Tr sc d 112 (24, [l0, l1, l2, l3, l4, some (.int x)], [], h) Q = Tr sc d 112 (26, [l0, l1, l2, l3, l4, some (.int x)], [.int x], h) Q := t_iload k_112_24 rfl
theorem k_112_26 : lk 112 26 = some (.ifCond .eq 6, 29, 32, 0, .null) := by decide +kernel
theorem x_112_26 : Tr sc d 112 (26, [l0, l1, l2, l3, l4, l5], [.int i0], h) Q = if i0 = 0 then Tr sc d 112 (32, [l0, l1, l2, l3, l4, l5], [], h) Q else Tr sc d 112 (29, [l0, l1, l2, l3, l4, l5], [], h) Q := t_if k_112_26 rfl
theorem k_112_29 : lk 112 29 = some (.iload 5, 31, 5, 0, .null) := by decide +kernel
theorem x_112_29 : Tr sc d 112 (29, [l0, l1, l2, l3, l4, some (.int x)], [], h) Q = Tr sc d 112 (31, [l0, l1, l2, l3, l4, some (.int x)], [.int x], h) Q := t_iload k_112_29 rfl
theorem k_112_31 : lk 112 31 = some (.ireturn, 32, 0, 0, .null) := by decide +kernel
theorem x_112_31 : Tr sc d 112 (31, [l0, l1, l2, l3, l4, l5], [.int i0], h) Q = Q (some (.int i0), h) := t_ret k_112_31 (by rw [r_112]; rfl)
theorem k_112_32 : lk 112 32 = some (.aload_n 0, 33, 0, 0, .null) := by decide +kernel
theorem x_112_32 : Tr sc d 112 (32, [some (.ref xk), l1, l2, l3, l4, l5], [], h) Q = Tr sc d 112 (33, [some (.ref xk), l1, l2, l3, l4, l5], [.ref xk], h) Q := t_aload_n k_112_32 rfl
theorem k_112_33 : lk 112 33 = some (.getfield 39, 36, 9, 5, .null) := by decide +kernel
theorem x_112_33 : Tr sc d 112 (33, [l0, l1, l2, l3, l4, l5], [.ref k0], h) Q = (okp h k0 9 = true ∧ ∃ q, hR h k0 5 = some q ∧ Tr sc d 112 (36, [l0, l1, l2, l3, l4, l5], [.ref q], h) Q) := t_getr k_112_33
theorem k_112_36 : lk 112 36 = some (.aload_n 0, 37, 0, 0, .null) := by decide +kernel
theorem x_112_36 : Tr sc d 112 (36, [some (.ref xk), l1, l2, l3, l4, l5], [.ref k0], h) Q = Tr sc d 112 (37, [some (.ref xk), l1, l2, l3, l4, l5], [.ref xk, .ref k0], h) Q := t_aload_n k_112_36 rfl
theorem k_112_37 : lk 112 37 = some (.getfield 20, 40, 9, 2, .null) := by decide +kernel
theorem x_112_37 : Tr sc d 112 (37, [l0, l1, l2, l3, l4, l5], [.ref k1, .ref k0], h) Q = (okp h k1 9 = true ∧ ∃ q, hR h k1 2 = some q ∧ Tr sc d 112 (40, [l0, l1, l2, l3, l4, l5], [.ref q, .ref k0], h) Q) := t_getr k_112_37
theorem k_112_40 : lk 112 40 = some (.iload_n 1, 41, 1, 0, .null) := by decide +kernel
theorem x_112_40 : Tr sc d 112 (40, [l0, some (.int x), l2, l3, l4, l5], [.ref k1, .ref k0], h) Q = Tr sc d 112 (41, [l0, some (.int x), l2, l3, l4, l5], [.int x, .ref k1, .ref k0], h) Q := t_iload_n k_112_40 rfl
theorem k_112_41 : lk 112 41 = some (.aaload, 42, 0, 0, .null) := by decide +kernel
theorem x_112_41 : Tr sc d 112 (41, [l0, l1, l2, l3, l4, l5], [.int i2, .ref k1, .ref k0], h) Q = (((okp h k1 14 || okp h k1 15) && inb i2 (LN k1)) = true ∧ ∃ q, hR h k1 i2.toNatClampNeg = some q ∧ Tr sc d 112 (42, [l0, l1, l2, l3, l4, l5], [.ref q, .ref k0], h) Q) := t_aald k_112_41
theorem k_112_42 : lk 112 42 = some (.aload_n 0, 43, 0, 0, .null) := by decide +kernel
theorem x_112_42 : Tr sc d 112 (42, [some (.ref xk), l1, l2, l3, l4, l5], [.ref k1, .ref k0], h) Q = Tr sc d 112 (43, [some (.ref xk), l1, l2, l3, l4, l5], [.ref xk, .ref k1, .ref k0], h) Q := t_aload_n k_112_42 rfl
theorem k_112_43 : lk 112 43 = some (.getfield 11, 46, 9, 0, .null) := by decide +kernel
theorem x_112_43 : Tr sc d 112 (43, [l0, l1, l2, l3, l4, l5], [.ref k2, .ref k1, .ref k0], h) Q = (okp h k2 9 = true ∧ ∃ q, hR h k2 0 = some q ∧ Tr sc d 112 (46, [l0, l1, l2, l3, l4, l5], [.ref q, .ref k1, .ref k0], h) Q) := t_getr k_112_43
theorem k_112_46 : lk 112 46 = some (.iload_n 2, 47, 2, 0, .null) := by decide +kernel
theorem x_112_46 : Tr sc d 112 (46, [l0, l1, some (.int x), l3, l4, l5], [.ref k2, .ref k1, .ref k0], h) Q = Tr sc d 112 (47, [l0, l1, some (.int x), l3, l4, l5], [.int x, .ref k2, .ref k1, .ref k0], h) Q := t_iload_n k_112_46 rfl
theorem k_112_47 : lk 112 47 = some (.aaload, 48, 0, 0, .null) := by decide +kernel
theorem x_112_47 : Tr sc d 112 (47, [l0, l1, l2, l3, l4, l5], [.int i3, .ref k2, .ref k1, .ref k0], h) Q = (((okp h k2 14 || okp h k2 15) && inb i3 (LN k2)) = true ∧ ∃ q, hR h k2 i3.toNatClampNeg = some q ∧ Tr sc d 112 (48, [l0, l1, l2, l3, l4, l5], [.ref q, .ref k1, .ref k0], h) Q) := t_aald k_112_47
theorem k_112_48 : lk 112 48 = some (.iconst 0, 49, 0, 0, .int 0) := by decide +kernel
theorem x_112_48 : Tr sc d 112 (48, [l0, l1, l2, l3, l4, l5], [.ref k2, .ref k1, .ref k0], h) Q = Tr sc d 112 (49, [l0, l1, l2, l3, l4, l5], [.int 0, .ref k2, .ref k1, .ref k0], h) Q := t_go k_112_48 rfl
theorem k_112_49 : lk 112 49 = some (.iload_n 3, 50, 3, 0, .null) := by decide +kernel
theorem x_112_49 : Tr sc d 112 (49, [l0, l1, l2, some (.int x), l4, l5], [.int i3, .ref k2, .ref k1, .ref k0], h) Q = Tr sc d 112 (50, [l0, l1, l2, some (.int x), l4, l5], [.int x, .int i3, .ref k2, .ref k1, .ref k0], h) Q := t_iload_n k_112_49 rfl
theorem k_112_50 : lk 112 50 = some (.invokevirtual 228, 53, 1, 4, .null) := by decide +kernel
theorem x_112_50 : Tr sc (d + 1) 112 (50, [l0, l1, l2, l3, l4, l5], [.int i4, .int i3, .ref k2, .ref k1, .ref k0], h) Q = (okp h k0 0 = true ∧ Tr sc d 1 (ent0 1 [.ref k0, .ref k1, .ref k2, .int i3, .int i4] h) (fun z => Tr sc (d + 1) 112 (53, [l0, l1, l2, l3, l4, l5], z.1.toList ++ [], z.2) Q)) := t_cv (as := [.ref k1, .ref k2, .int i3, .int i4]) (r := []) k_112_50 rfl rfl (Nat.le_of_ble_eq_true rfl) (Nat.le_of_ble_eq_true rfl) (Nat.le_of_ble_eq_true rfl)
theorem k_112_53 : lk 112 53 = some (.aload_n 0, 54, 0, 0, .null) := by decide +kernel
theorem x_112_53 : Tr sc d 112 (53, [some (.ref xk), l1, l2, l3, l4, l5], [], h) Q = Tr sc d 112 (54, [some (.ref xk), l1, l2, l3, l4, l5], [.ref xk], h) Q := t_aload_n k_112_53 rfl
theorem k_112_54 : lk 112 54 = some (.iload 4, 56, 4, 0, .null) := by decide +kernel
theorem x_112_54 : Tr sc d 112 (54, [l0, l1, l2, l3, some (.int x), l5], [.ref k0], h) Q = Tr sc d 112 (56, [l0, l1, l2, l3, some (.int x), l5], [.int x, .ref k0], h) Q := t_iload k_112_54 rfl
theorem k_112_56 : lk 112 56 = some (.ifCond .eq 13, 59, 69, 0, .null) := by decide +kernel
theorem x_112_56 : Tr sc d 112 (56, [l0, l1, l2, l3, l4, l5], [.int i1, .ref k0], h) Q = if i1 = 0 then Tr sc d 112 (69, [l0, l1, l2, l3, l4, l5], [.ref k0], h) Q else Tr sc d 112 (59, [l0, l1, l2, l3, l4, l5], [.ref k0], h) Q := t_if k_112_56 rfl
theorem k_112_59 : lk 112 59 = some (.aload_n 0, 60, 0, 0, .null) := by decide +kernel
theorem x_112_59 : Tr sc d 112 (59, [some (.ref xk), l1, l2, l3, l4, l5], [.ref k0], h) Q = Tr sc d 112 (60, [some (.ref xk), l1, l2, l3, l4, l5], [.ref xk, .ref k0], h) Q := t_aload_n k_112_59 rfl
theorem k_112_60 : lk 112 60 = some (.getfield 39, 63, 9, 5, .null) := by decide +kernel
theorem x_112_60 : Tr sc d 112 (60, [l0, l1, l2, l3, l4, l5], [.ref k1, .ref k0], h) Q = (okp h k1 9 = true ∧ ∃ q, hR h k1 5 = some q ∧ Tr sc d 112 (63, [l0, l1, l2, l3, l4, l5], [.ref q, .ref k0], h) Q) := t_getr k_112_60
theorem k_112_63 : lk 112 63 = some (.getfield 232, 66, 0, 5, .long 0) := by decide +kernel
theorem x_112_63 : Tr sc d 112 (63, [l0, l1, l2, l3, l4, l5], [.ref k1, .ref k0], h) Q = (okp h k1 0 = true ∧ Tr sc d 112 (66, [l0, l1, l2, l3, l4, l5], [.long (hL h k1 5), .ref k0], h) Q) := t_gd k_112_63 rfl
theorem k_112_66 : lk 112 66 = some (.goto 10, 69, 76, 0, .null) := by decide +kernel
theorem x_112_66 : Tr sc d 112 (66, [l0, l1, l2, l3, l4, l5], [.long j1, .ref k0], h) Q = Tr sc d 112 (76, [l0, l1, l2, l3, l4, l5], [.long j1, .ref k0], h) Q := t_go k_112_66 rfl
theorem k_112_69 : lk 112 69 = some (.aload_n 0, 70, 0, 0, .null) := by decide +kernel
theorem x_112_69 : Tr sc d 112 (69, [some (.ref xk), l1, l2, l3, l4, l5], [.ref k0], h) Q = Tr sc d 112 (70, [some (.ref xk), l1, l2, l3, l4, l5], [.ref xk, .ref k0], h) Q := t_aload_n k_112_69 rfl
theorem k_112_70 : lk 112 70 = some (.getfield 39, 73, 9, 5, .null) := by decide +kernel
theorem x_112_70 : Tr sc d 112 (70, [l0, l1, l2, l3, l4, l5], [.ref k1, .ref k0], h) Q = (okp h k1 9 = true ∧ ∃ q, hR h k1 5 = some q ∧ Tr sc d 112 (73, [l0, l1, l2, l3, l4, l5], [.ref q, .ref k0], h) Q) := t_getr k_112_70
theorem k_112_73 : lk 112 73 = some (.getfield 235, 76, 0, 4, .long 0) := by decide +kernel
theorem x_112_73 : Tr sc d 112 (73, [l0, l1, l2, l3, l4, l5], [.ref k1, .ref k0], h) Q = (okp h k1 0 = true ∧ Tr sc d 112 (76, [l0, l1, l2, l3, l4, l5], [.long (hL h k1 4), .ref k0], h) Q) := t_gd k_112_73 rfl
theorem k_112_76 : lk 112 76 = some (.l2i, 77, 0, 0, .null) := by decide +kernel
theorem x_112_76 : Tr sc d 112 (76, [l0, l1, l2, l3, l4, l5], [.long j1, .ref k0], h) Q = Tr sc d 112 (77, [l0, l1, l2, l3, l4, l5], [.int j1.toInt32, .ref k0], h) Q := t_go k_112_76 rfl
theorem k_112_77 : lk 112 77 = some (.putfield 98, 80, 9, 15, .int 0) := by decide +kernel
theorem x_112_77 : Tr sc d 112 (77, [l0, l1, l2, l3, l4, l5], [.int i1, .ref k0], h) Q = (okp h k0 9 = true ∧ Tr sc d 112 (80, [l0, l1, l2, l3, l4, l5], [], (sI h k0 15 i1)) Q) := t_gd k_112_77 rfl
theorem k_112_80 : lk 112 80 = some (.iconst 1, 81, 0, 0, .int 1) := by decide +kernel
theorem x_112_80 : Tr sc d 112 (80, [l0, l1, l2, l3, l4, l5], [], h) Q = Tr sc d 112 (81, [l0, l1, l2, l3, l4, l5], [.int 1], h) Q := t_go k_112_80 rfl
theorem k_112_81 : lk 112 81 = some (.ireturn, 82, 0, 0, .null) := by decide +kernel
theorem x_112_81 : Tr sc d 112 (81, [l0, l1, l2, l3, l4, l5], [.int i0], h) Q = Q (some (.int i0), h) := t_ret k_112_81 (by rw [r_112]; rfl)
theorem e_112 : Tr sc d 112 (ent0 112 [.ref k0, .int i1, .int i2, .int i3, .int i4] h) Q = Tr sc d 112 (0, [some (.ref k0), some (.int i1), some (.int i2), some (.int i3), some (.int i4), none], [], h) Q := by
  have e : mL 112 = 6 := by decide +kernel
  unfold ent0
  rw [e]
  rfl
theorem r_113 : mR 113 = some .int := by decide +kernel
theorem k_113_0 : lk 113 0 = some (.iload_n 3, 1, 3, 0, .null) := by decide +kernel
theorem x_113_0 : Tr sc d 113 (0, [l0, l1, l2, some (.int x), l4, l5, l6, l7, l8, l9, l10, l11, l12, l13], [], h) Q = Tr sc d 113 (1, [l0, l1, l2, some (.int x), l4, l5, l6, l7, l8, l9, l10, l11, l12, l13], [.int x], h) Q := t_iload_n k_113_0 rfl
theorem k_113_1 : lk 113 1 = some (.ifCond .lt 26, 4, 27, 0, .null) := by decide +kernel
theorem x_113_1 : Tr sc d 113 (1, [l0, l1, l2, l3, l4, l5, l6, l7, l8, l9, l10, l11, l12, l13], [.int i0], h) Q = if i0 < 0 then Tr sc d 113 (27, [l0, l1, l2, l3, l4, l5, l6, l7, l8, l9, l10, l11, l12, l13], [], h) Q else Tr sc d 113 (4, [l0, l1, l2, l3, l4, l5, l6, l7, l8, l9, l10, l11, l12, l13], [], h) Q := t_if k_113_1 rfl
theorem k_113_4 : lk 113 4 = some (.iload_n 3, 5, 3, 0, .null) := by decide +kernel
theorem x_113_4 : Tr sc d 113 (4, [l0, l1, l2, some (.int x), l4, l5, l6, l7, l8, l9, l10, l11, l12, l13], [], h) Q = Tr sc d 113 (5, [l0, l1, l2, some (.int x), l4, l5, l6, l7, l8, l9, l10, l11, l12, l13], [.int x], h) Q := t_iload_n k_113_4 rfl
theorem k_113_5 : lk 113 5 = some (.bipush 6, 7, 0, 0, .int 6) := by decide +kernel
theorem x_113_5 : Tr sc d 113 (5, [l0, l1, l2, l3, l4, l5, l6, l7, l8, l9, l10, l11, l12, l13], [.int i0], h) Q = Tr sc d 113 (7, [l0, l1, l2, l3, l4, l5, l6, l7, l8, l9, l10, l11, l12, l13], [.int 6, .int i0], h) Q := t_go k_113_5 rfl
theorem k_113_7 : lk 113 7 = some (.if_icmp .gt 20, 10, 27, 0, .null) := by decide +kernel
theorem x_113_7 : Tr sc d 113 (7, [l0, l1, l2, l3, l4, l5, l6, l7, l8, l9, l10, l11, l12, l13], [.int i1, .int i0], h) Q = if i1 < i0 then Tr sc d 113 (27, [l0, l1, l2, l3, l4, l5, l6, l7, l8, l9, l10, l11, l12, l13], [], h) Q else Tr sc d 113 (10, [l0, l1, l2, l3, l4, l5, l6, l7, l8, l9, l10, l11, l12, l13], [], h) Q := t_if k_113_7 rfl
theorem k_113_10 : lk 113 10 = some (.iload 4, 12, 4, 0, .null) := by decide +kernel
theorem x_113_10 : Tr sc d 113 (10, [l0, l1, l2, l3, some (.int x), l5, l6, l7, l8, l9, l10, l11, l12, l13], [], h) Q = Tr sc d 113 (12, [l0, l1, l2, l3, some (.int x), l5, l6, l7, l8, l9, l10, l11, l12, l13], [.int x], h) Q := t_iload k_113_10 rfl
theorem k_113_12 : lk 113 12 = some (.iconst 1, 13, 0, 0, .int 1) := by decide +kernel
theorem x_113_12 : Tr sc d 113 (12, [l0, l1, l2, l3, l4, l5, l6, l7, l8, l9, l10, l11, l12, l13], [.int i0], h) Q = Tr sc d 113 (13, [l0, l1, l2, l3, l4, l5, l6, l7, l8, l9, l10, l11, l12, l13], [.int 1, .int i0], h) Q := t_go k_113_12 rfl
theorem k_113_13 : lk 113 13 = some (.if_icmp .lt 14, 16, 27, 0, .null) := by decide +kernel
theorem x_113_13 : Tr sc d 113 (13, [l0, l1, l2, l3, l4, l5, l6, l7, l8, l9, l10, l11, l12, l13], [.int i1, .int i0], h) Q = if i0 < i1 then Tr sc d 113 (27, [l0, l1, l2, l3, l4, l5, l6, l7, l8, l9, l10, l11, l12, l13], [], h) Q else Tr sc d 113 (16, [l0, l1, l2, l3, l4, l5, l6, l7, l8, l9, l10, l11, l12, l13], [], h) Q := t_if k_113_13 rfl
theorem k_113_16 : lk 113 16 = some (.iload 4, 18, 4, 0, .null) := by decide +kernel
theorem x_113_16 : Tr sc d 113 (16, [l0, l1, l2, l3, some (.int x), l5, l6, l7, l8, l9, l10, l11, l12, l13], [], h) Q = Tr sc d 113 (18, [l0, l1, l2, l3, some (.int x), l5, l6, l7, l8, l9, l10, l11, l12, l13], [.int x], h) Q := t_iload k_113_16 rfl
theorem k_113_18 : lk 113 18 = some (.bipush 6, 20, 0, 0, .int 6) := by decide +kernel
theorem x_113_18 : Tr sc d 113 (18, [l0, l1, l2, l3, l4, l5, l6, l7, l8, l9, l10, l11, l12, l13], [.int i0], h) Q = Tr sc d 113 (20, [l0, l1, l2, l3, l4, l5, l6, l7, l8, l9, l10, l11, l12, l13], [.int 6, .int i0], h) Q := t_go k_113_18 rfl
theorem k_113_20 : lk 113 20 = some (.if_icmp .gt 7, 23, 27, 0, .null) := by decide +kernel
theorem x_113_20 : Tr sc d 113 (20, [l0, l1, l2, l3, l4, l5, l6, l7, l8, l9, l10, l11, l12, l13], [.int i1, .int i0], h) Q = if i1 < i0 then Tr sc d 113 (27, [l0, l1, l2, l3, l4, l5, l6, l7, l8, l9, l10, l11, l12, l13], [], h) Q else Tr sc d 113 (23, [l0, l1, l2, l3, l4, l5, l6, l7, l8, l9, l10, l11, l12, l13], [], h) Q := t_if k_113_20 rfl
theorem k_113_23 : lk 113 23 = some (.iconst 1, 24, 0, 0, .int 1) := by decide +kernel
theorem x_113_23 : Tr sc d 113 (23, [l0, l1, l2, l3, l4, l5, l6, l7, l8, l9, l10, l11, l12, l13], [], h) Q = Tr sc d 113 (24, [l0, l1, l2, l3, l4, l5, l6, l7, l8, l9, l10, l11, l12, l13], [.int 1], h) Q := t_go k_113_23 rfl
theorem k_113_24 : lk 113 24 = some (.goto 4, 27, 28, 0, .null) := by decide +kernel
theorem x_113_24 : Tr sc d 113 (24, [l0, l1, l2, l3, l4, l5, l6, l7, l8, l9, l10, l11, l12, l13], [.int i0], h) Q = Tr sc d 113 (28, [l0, l1, l2, l3, l4, l5, l6, l7, l8, l9, l10, l11, l12, l13], [.int i0], h) Q := t_go k_113_24 rfl
theorem k_113_27 : lk 113 27 = some (.iconst 0, 28, 0, 0, .int 0) := by decide +kernel
theorem x_113_27 : Tr sc d 113 (27, [l0, l1, l2, l3, l4, l5, l6, l7, l8, l9, l10, l11, l12, l13], [], h) Q = Tr sc d 113 (28, [l0, l1, l2, l3, l4, l5, l6, l7, l8, l9, l10, l11, l12, l13], [.int 0], h) Q := t_go k_113_27 rfl
theorem k_113_28 : lk 113 28 = some (.istore 6, 30, 6, 0, .null) := by decide +kernel
theorem x_113_28 : Tr sc d 113 (28, [l0, l1, l2, l3, l4, l5, l6, l7, l8, l9, l10, l11, l12, l13], [.int i0], h) Q = Tr sc d 113 (30, [l0, l1, l2, l3, l4, cl2 l5, some (.int i0), l7, l8, l9, l10, l11, l12, l13], [], h) Q := t_istore k_113_28 (Nat.le_of_ble_eq_true rfl)
theorem k_113_30 : lk 113 30 = some (.aload_n 0, 31, 0, 0, .null) := by decide +kernel
theorem x_113_30 : Tr sc d 113 (30, [some (.ref xk), l1, l2, l3, l4, l5, l6, l7, l8, l9, l10, l11, l12, l13], [], h) Q = Tr sc d 113 (31, [some (.ref xk), l1, l2, l3, l4, l5, l6, l7, l8, l9, l10, l11, l12, l13], [.ref xk], h) Q := t_aload_n k_113_30 rfl
theorem k_113_31 : lk 113 31 = some (.iload_n 1, 32, 1, 0, .null) := by decide +kernel
theorem x_113_31 : Tr sc d 113 (31, [l0, some (.int x), l2, l3, l4, l5, l6, l7, l8, l9, l10, l11, l12, l13], [.ref k0], h) Q = Tr sc d 113 (32, [l0, some (.int x), l2, l3, l4, l5, l6, l7, l8, l9, l10, l11, l12, l13], [.int x, .ref k0], h) Q := t_iload_n k_113_31 rfl
theorem k_113_32 : lk 113 32 = some (.iload_n 2, 33, 2, 0, .null) := by decide +kernel
theorem x_113_32 : Tr sc d 113 (32, [l0, l1, some (.int x), l3, l4, l5, l6, l7, l8, l9, l10, l11, l12, l13], [.int i1, .ref k0], h) Q = Tr sc d 113 (33, [l0, l1, some (.int x), l3, l4, l5, l6, l7, l8, l9, l10, l11, l12, l13], [.int x, .int i1, .ref k0], h) Q := t_iload_n k_113_32 rfl
theorem k_113_33 : lk 113 33 = some (.iload 6, 35, 6, 0, .null) := by decide +kernel
theorem x_113_33 : Tr sc d 113 (33, [l0, l1, l2, l3, l4, l5, some (.int x), l7, l8, l9, l10, l11, l12, l13], [.int i2, .int i1, .ref k0], h) Q = Tr sc d 113 (35, [l0, l1, l2, l3, l4, l5, some (.int x), l7, l8, l9, l10, l11, l12, l13], [.int x, .int i2, .int i1, .ref k0], h) Q := t_iload k_113_33 rfl
theorem k_113_35 : lk 113 35 = some (.ifCond .eq 10, 38, 45, 0, .null) := by decide +kernel
theorem x_113_35 : Tr sc d 113 (35, [l0, l1, l2, l3, l4, l5, l6, l7, l8, l9, l10, l11, l12, l13], [.int i3, .int i2, .int i1, .ref k0], h) Q = if i3 = 0 then Tr sc d 113 (45, [l0, l1, l2, l3, l4, l5, l6, l7, l8, l9, l10, l11, l12, l13], [.int i2, .int i1, .ref k0], h) Q else Tr sc d 113 (38, [l0, l1, l2, l3, l4, l5, l6, l7, l8, l9, l10, l11, l12, l13], [.int i2, .int i1, .ref k0], h) Q := t_if k_113_35 rfl
theorem k_113_38 : lk 113 38 = some (.iload_n 3, 39, 3, 0, .null) := by decide +kernel
theorem x_113_38 : Tr sc d 113 (38, [l0, l1, l2, some (.int x), l4, l5, l6, l7, l8, l9, l10, l11, l12, l13], [.int i2, .int i1, .ref k0], h) Q = Tr sc d 113 (39, [l0, l1, l2, some (.int x), l4, l5, l6, l7, l8, l9, l10, l11, l12, l13], [.int x, .int i2, .int i1, .ref k0], h) Q := t_iload_n k_113_38 rfl
theorem k_113_39 : lk 113 39 = some (.iload 4, 41, 4, 0, .null) := by decide +kernel
theorem x_113_39 : Tr sc d 113 (39, [l0, l1, l2, l3, some (.int x), l5, l6, l7, l8, l9, l10, l11, l12, l13], [.int i3, .int i2, .int i1, .ref k0], h) Q = Tr sc d 113 (41, [l0, l1, l2, l3, some (.int x), l5, l6, l7, l8, l9, l10, l11, l12, l13], [.int x, .int i3, .int i2, .int i1, .ref k0], h) Q := t_iload k_113_39 rfl
theorem k_113_41 : lk 113 41 = some (.iadd, 42, 0, 0, .null) := by decide +kernel
theorem x_113_41 : Tr sc d 113 (41, [l0, l1, l2, l3, l4, l5, l6, l7, l8, l9, l10, l11, l12, l13], [.int i4, .int i3, .int i2, .int i1, .ref k0], h) Q = Tr sc d 113 (42, [l0, l1, l2, l3, l4, l5, l6, l7, l8, l9, l10, l11, l12, l13], [.int (i3 + i4), .int i2, .int i1, .ref k0], h) Q := t_go k_113_41 rfl
theorem k_113_42 : lk 113 42 = some (.goto 4, 45, 46, 0, .null) := by decide +kernel
theorem x_113_42 : Tr sc d 113 (42, [l0, l1, l2, l3, l4, l5, l6, l7, l8, l9, l10, l11, l12, l13], [.int i3, .int i2, .int i1, .ref k0], h) Q = Tr sc d 113 (46, [l0, l1, l2, l3, l4, l5, l6, l7, l8, l9, l10, l11, l12, l13], [.int i3, .int i2, .int i1, .ref k0], h) Q := t_go k_113_42 rfl
theorem k_113_45 : lk 113 45 = some (.iconst 0, 46, 0, 0, .int 0) := by decide +kernel
theorem x_113_45 : Tr sc d 113 (45, [l0, l1, l2, l3, l4, l5, l6, l7, l8, l9, l10, l11, l12, l13], [.int i2, .int i1, .ref k0], h) Q = Tr sc d 113 (46, [l0, l1, l2, l3, l4, l5, l6, l7, l8, l9, l10, l11, l12, l13], [.int 0, .int i2, .int i1, .ref k0], h) Q := t_go k_113_45 rfl
theorem k_113_46 : lk 113 46 = some (.iload 6, 48, 6, 0, .null) := by decide +kernel
theorem x_113_46 : Tr sc d 113 (46, [l0, l1, l2, l3, l4, l5, some (.int x), l7, l8, l9, l10, l11, l12, l13], [.int i3, .int i2, .int i1, .ref k0], h) Q = Tr sc d 113 (48, [l0, l1, l2, l3, l4, l5, some (.int x), l7, l8, l9, l10, l11, l12, l13], [.int x, .int i3, .int i2, .int i1, .ref k0], h) Q := t_iload k_113_46 rfl
theorem k_113_48 : lk 113 48 = some (.invokevirtual 224, 51, 147, 4, .null) := by decide +kernel
theorem x_113_48 : Tr sc (d + 1) 113 (48, [l0, l1, l2, l3, l4, l5, l6, l7, l8, l9, l10, l11, l12, l13], [.int i4, .int i3, .int i2, .int i1, .ref k0], h) Q = (okp h k0 9 = true ∧ Tr sc d 147 (ent0 147 [.ref k0, .int i1, .int i2, .int i3, .int i4] h) (fun z => Tr sc (d + 1) 113 (51, [l0, l1, l2, l3, l4, l5, l6, l7, l8, l9, l10, l11, l12, l13], z.1.toList ++ [], z.2) Q)) := t_cv (as := [.int i1, .int i2, .int i3, .int i4]) (r := []) k_113_48 rfl rfl (Nat.le_of_ble_eq_true rfl) (Nat.le_of_ble_eq_true rfl) (Nat.le_of_ble_eq_true rfl)
theorem k_113_51 : lk 113 51 = some (.istore 7, 53, 7, 0, .null) := by decide +kernel
theorem x_113_51 : Tr sc d 113 (51, [l0, l1, l2, l3, l4, l5, l6, l7, l8, l9, l10, l11, l12, l13], [.int i0], h) Q = Tr sc d 113 (53, [l0, l1, l2, l3, l4, l5, cl2 l6, some (.int i0), l8, l9, l10, l11, l12, l13], [], h) Q := t_istore k_113_51 (Nat.le_of_ble_eq_true rfl)
theorem k_113_53 : lk 113 53 = some (.iload 7, 55, 7, 0, .null) := by decide +kernel
theorem x_113_53 : Tr sc d 113 (53, [l0, l1, l2, l3, l4, l5, l6, some (.int x), l8, l9, l10, l11, l12, l13], [], h) Q = Tr sc d 113 (55, [l0, l1, l2, l3, l4, l5, l6, some (.int x), l8, l9, l10, l11, l12, l13], [.int x], h) Q := t_iload k_113_53 rfl
theorem k_113_55 : lk 113 55 = some (.ifCond .eq 6, 58, 61, 0, .null) := by decide +kernel
theorem x_113_55 : Tr sc d 113 (55, [l0, l1, l2, l3, l4, l5, l6, l7, l8, l9, l10, l11, l12, l13], [.int i0], h) Q = if i0 = 0 then Tr sc d 113 (61, [l0, l1, l2, l3, l4, l5, l6, l7, l8, l9, l10, l11, l12, l13], [], h) Q else Tr sc d 113 (58, [l0, l1, l2, l3, l4, l5, l6, l7, l8, l9, l10, l11, l12, l13], [], h) Q := t_if k_113_55 rfl
theorem k_113_58 : lk 113 58 = some (.iload 7, 60, 7, 0, .null) := by decide +kernel
theorem x_113_58 : Tr sc d 113 (58, [l0, l1, l2, l3, l4, l5, l6, some (.int x), l8, l9, l10, l11, l12, l13], [], h) Q = Tr sc d 113 (60, [l0, l1, l2, l3, l4, l5, l6, some (.int x), l8, l9, l10, l11, l12, l13], [.int x], h) Q := t_iload k_113_58 rfl
theorem k_113_60 : lk 113 60 = some (.ireturn, 61, 0, 0, .null) := by decide +kernel
theorem x_113_60 : Tr sc d 113 (60, [l0, l1, l2, l3, l4, l5, l6, l7, l8, l9, l10, l11, l12, l13], [.int i0], h) Q = Q (some (.int i0), h) := t_ret k_113_60 (by rw [r_113]; rfl)
theorem k_113_61 : lk 113 61 = some (.aload_n 0, 62, 0, 0, .null) := by decide +kernel
theorem x_113_61 : Tr sc d 113 (61, [some (.ref xk), l1, l2, l3, l4, l5, l6, l7, l8, l9, l10, l11, l12, l13], [], h) Q = Tr sc d 113 (62, [some (.ref xk), l1, l2, l3, l4, l5, l6, l7, l8, l9, l10, l11, l12, l13], [.ref xk], h) Q := t_aload_n k_113_61 rfl
theorem k_113_62 : lk 113 62 = some (.getfield 39, 65, 9, 5, .null) := by decide +kernel
theorem x_113_62 : Tr sc d 113 (62, [l0, l1, l2, l3, l4, l5, l6, l7, l8, l9, l10, l11, l12, l13], [.ref k0], h) Q = (okp h k0 9 = true ∧ ∃ q, hR h k0 5 = some q ∧ Tr sc d 113 (65, [l0, l1, l2, l3, l4, l5, l6, l7, l8, l9, l10, l11, l12, l13], [.ref q], h) Q) := t_getr k_113_62
theorem k_113_65 : lk 113 65 = some (.aload_n 0, 66, 0, 0, .null) := by decide +kernel
theorem x_113_65 : Tr sc d 113 (65, [some (.ref xk), l1, l2, l3, l4, l5, l6, l7, l8, l9, l10, l11, l12, l13], [.ref k0], h) Q = Tr sc d 113 (66, [some (.ref xk), l1, l2, l3, l4, l5, l6, l7, l8, l9, l10, l11, l12, l13], [.ref xk, .ref k0], h) Q := t_aload_n k_113_65 rfl
theorem k_113_66 : lk 113 66 = some (.getfield 20, 69, 9, 2, .null) := by decide +kernel
theorem x_113_66 : Tr sc d 113 (66, [l0, l1, l2, l3, l4, l5, l6, l7, l8, l9, l10, l11, l12, l13], [.ref k1, .ref k0], h) Q = (okp h k1 9 = true ∧ ∃ q, hR h k1 2 = some q ∧ Tr sc d 113 (69, [l0, l1, l2, l3, l4, l5, l6, l7, l8, l9, l10, l11, l12, l13], [.ref q, .ref k0], h) Q) := t_getr k_113_66
theorem k_113_69 : lk 113 69 = some (.iload_n 1, 70, 1, 0, .null) := by decide +kernel
theorem x_113_69 : Tr sc d 113 (69, [l0, some (.int x), l2, l3, l4, l5, l6, l7, l8, l9, l10, l11, l12, l13], [.ref k1, .ref k0], h) Q = Tr sc d 113 (70, [l0, some (.int x), l2, l3, l4, l5, l6, l7, l8, l9, l10, l11, l12, l13], [.int x, .ref k1, .ref k0], h) Q := t_iload_n k_113_69 rfl
theorem k_113_70 : lk 113 70 = some (.aaload, 71, 0, 0, .null) := by decide +kernel
theorem x_113_70 : Tr sc d 113 (70, [l0, l1, l2, l3, l4, l5, l6, l7, l8, l9, l10, l11, l12, l13], [.int i2, .ref k1, .ref k0], h) Q = (((okp h k1 14 || okp h k1 15) && inb i2 (LN k1)) = true ∧ ∃ q, hR h k1 i2.toNatClampNeg = some q ∧ Tr sc d 113 (71, [l0, l1, l2, l3, l4, l5, l6, l7, l8, l9, l10, l11, l12, l13], [.ref q, .ref k0], h) Q) := t_aald k_113_70
theorem k_113_71 : lk 113 71 = some (.aload_n 0, 72, 0, 0, .null) := by decide +kernel
theorem x_113_71 : Tr sc d 113 (71, [some (.ref xk), l1, l2, l3, l4, l5, l6, l7, l8, l9, l10, l11, l12, l13], [.ref k1, .ref k0], h) Q = Tr sc d 113 (72, [some (.ref xk), l1, l2, l3, l4, l5, l6, l7, l8, l9, l10, l11, l12, l13], [.ref xk, .ref k1, .ref k0], h) Q := t_aload_n k_113_71 rfl
theorem k_113_72 : lk 113 72 = some (.getfield 11, 75, 9, 0, .null) := by decide +kernel
theorem x_113_72 : Tr sc d 113 (72, [l0, l1, l2, l3, l4, l5, l6, l7, l8, l9, l10, l11, l12, l13], [.ref k2, .ref k1, .ref k0], h) Q = (okp h k2 9 = true ∧ ∃ q, hR h k2 0 = some q ∧ Tr sc d 113 (75, [l0, l1, l2, l3, l4, l5, l6, l7, l8, l9, l10, l11, l12, l13], [.ref q, .ref k1, .ref k0], h) Q) := t_getr k_113_72
theorem k_113_75 : lk 113 75 = some (.iload_n 2, 76, 2, 0, .null) := by decide +kernel
theorem x_113_75 : Tr sc d 113 (75, [l0, l1, some (.int x), l3, l4, l5, l6, l7, l8, l9, l10, l11, l12, l13], [.ref k2, .ref k1, .ref k0], h) Q = Tr sc d 113 (76, [l0, l1, some (.int x), l3, l4, l5, l6, l7, l8, l9, l10, l11, l12, l13], [.int x, .ref k2, .ref k1, .ref k0], h) Q := t_iload_n k_113_75 rfl
theorem k_113_76 : lk 113 76 = some (.aaload, 77, 0, 0, .null) := by decide +kernel
theorem x_113_76 : Tr sc d 113 (76, [l0, l1, l2, l3, l4, l5, l6, l7, l8, l9, l10, l11, l12, l13], [.int i3, .ref k2, .ref k1, .ref k0], h) Q = (((okp h k2 14 || okp h k2 15) && inb i3 (LN k2)) = true ∧ ∃ q, hR h k2 i3.toNatClampNeg = some q ∧ Tr sc d 113 (77, [l0, l1, l2, l3, l4, l5, l6, l7, l8, l9, l10, l11, l12, l13], [.ref q, .ref k1, .ref k0], h) Q) := t_aald k_113_76
theorem k_113_77 : lk 113 77 = some (.iconst 0, 78, 0, 0, .int 0) := by decide +kernel
theorem x_113_77 : Tr sc d 113 (77, [l0, l1, l2, l3, l4, l5, l6, l7, l8, l9, l10, l11, l12, l13], [.ref k2, .ref k1, .ref k0], h) Q = Tr sc d 113 (78, [l0, l1, l2, l3, l4, l5, l6, l7, l8, l9, l10, l11, l12, l13], [.int 0, .ref k2, .ref k1, .ref k0], h) Q := t_go k_113_77 rfl
theorem k_113_78 : lk 113 78 = some (.iload_n 3, 79, 3, 0, .null) := by decide +kernel
theorem x_113_78 : Tr sc d 113 (78, [l0, l1, l2, some (.int x), l4, l5, l6, l7, l8, l9, l10, l11, l12, l13], [.int i3, .ref k2, .ref k1, .ref k0], h) Q = Tr sc d 113 (79, [l0, l1, l2, some (.int x), l4, l5, l6, l7, l8, l9, l10, l11, l12, l13], [.int x, .int i3, .ref k2, .ref k1, .ref k0], h) Q := t_iload_n k_113_78 rfl
theorem k_113_79 : lk 113 79 = some (.invokevirtual 228, 82, 1, 4, .null) := by decide +kernel
theorem x_113_79 : Tr sc (d + 1) 113 (79, [l0, l1, l2, l3, l4, l5, l6, l7, l8, l9, l10, l11, l12, l13], [.int i4, .int i3, .ref k2, .ref k1, .ref k0], h) Q = (okp h k0 0 = true ∧ Tr sc d 1 (ent0 1 [.ref k0, .ref k1, .ref k2, .int i3, .int i4] h) (fun z => Tr sc (d + 1) 113 (82, [l0, l1, l2, l3, l4, l5, l6, l7, l8, l9, l10, l11, l12, l13], z.1.toList ++ [], z.2) Q)) := t_cv (as := [.ref k1, .ref k2, .int i3, .int i4]) (r := []) k_113_79 rfl rfl (Nat.le_of_ble_eq_true rfl) (Nat.le_of_ble_eq_true rfl) (Nat.le_of_ble_eq_true rfl)
theorem k_113_82 : lk 113 82 = some (.aload_n 0, 83, 0, 0, .null) := by decide +kernel
theorem x_113_82 : Tr sc d 113 (82, [some (.ref xk), l1, l2, l3, l4, l5, l6, l7, l8, l9, l10, l11, l12, l13], [], h) Q = Tr sc d 113 (83, [some (.ref xk), l1, l2, l3, l4, l5, l6, l7, l8, l9, l10, l11, l12, l13], [.ref xk], h) Q := t_aload_n k_113_82 rfl
theorem k_113_83 : lk 113 83 = some (.getfield 43, 86, 9, 6, .null) := by decide +kernel
theorem x_113_83 : Tr sc d 113 (83, [l0, l1, l2, l3, l4, l5, l6, l7, l8, l9, l10, l11, l12, l13], [.ref k0], h) Q = (okp h k0 9 = true ∧ ∃ q, hR h k0 6 = some q ∧ Tr sc d 113 (86, [l0, l1, l2, l3, l4, l5, l6, l7, l8, l9, l10, l11, l12, l13], [.ref q], h) Q) := t_getr k_113_83
theorem k_113_86 : lk 113 86 = some (.aload_n 0, 87, 0, 0, .null) := by decide +kernel
theorem x_113_86 : Tr sc d 113 (86, [some (.ref xk), l1, l2, l3, l4, l5, l6, l7, l8, l9, l10, l11, l12, l13], [.ref k0], h) Q = Tr sc d 113 (87, [some (.ref xk), l1, l2, l3, l4, l5, l6, l7, l8, l9, l10, l11, l12, l13], [.ref xk, .ref k0], h) Q := t_aload_n k_113_86 rfl
theorem k_113_87 : lk 113 87 = some (.getfield 20, 90, 9, 2, .null) := by decide +kernel
theorem x_113_87 : Tr sc d 113 (87, [l0, l1, l2, l3, l4, l5, l6, l7, l8, l9, l10, l11, l12, l13], [.ref k1, .ref k0], h) Q = (okp h k1 9 = true ∧ ∃ q, hR h k1 2 = some q ∧ Tr sc d 113 (90, [l0, l1, l2, l3, l4, l5, l6, l7, l8, l9, l10, l11, l12, l13], [.ref q, .ref k0], h) Q) := t_getr k_113_87
theorem k_113_90 : lk 113 90 = some (.iload_n 1, 91, 1, 0, .null) := by decide +kernel
theorem x_113_90 : Tr sc d 113 (90, [l0, some (.int x), l2, l3, l4, l5, l6, l7, l8, l9, l10, l11, l12, l13], [.ref k1, .ref k0], h) Q = Tr sc d 113 (91, [l0, some (.int x), l2, l3, l4, l5, l6, l7, l8, l9, l10, l11, l12, l13], [.int x, .ref k1, .ref k0], h) Q := t_iload_n k_113_90 rfl
theorem k_113_91 : lk 113 91 = some (.aaload, 92, 0, 0, .null) := by decide +kernel
theorem x_113_91 : Tr sc d 113 (91, [l0, l1, l2, l3, l4, l5, l6, l7, l8, l9, l10, l11, l12, l13], [.int i2, .ref k1, .ref k0], h) Q = (((okp h k1 14 || okp h k1 15) && inb i2 (LN k1)) = true ∧ ∃ q, hR h k1 i2.toNatClampNeg = some q ∧ Tr sc d 113 (92, [l0, l1, l2, l3, l4, l5, l6, l7, l8, l9, l10, l11, l12, l13], [.ref q, .ref k0], h) Q) := t_aald k_113_91
theorem k_113_92 : lk 113 92 = some (.aload_n 0, 93, 0, 0, .null) := by decide +kernel
theorem x_113_92 : Tr sc d 113 (92, [some (.ref xk), l1, l2, l3, l4, l5, l6, l7, l8, l9, l10, l11, l12, l13], [.ref k1, .ref k0], h) Q = Tr sc d 113 (93, [some (.ref xk), l1, l2, l3, l4, l5, l6, l7, l8, l9, l10, l11, l12, l13], [.ref xk, .ref k1, .ref k0], h) Q := t_aload_n k_113_92 rfl
theorem k_113_93 : lk 113 93 = some (.getfield 11, 96, 9, 0, .null) := by decide +kernel
theorem x_113_93 : Tr sc d 113 (93, [l0, l1, l2, l3, l4, l5, l6, l7, l8, l9, l10, l11, l12, l13], [.ref k2, .ref k1, .ref k0], h) Q = (okp h k2 9 = true ∧ ∃ q, hR h k2 0 = some q ∧ Tr sc d 113 (96, [l0, l1, l2, l3, l4, l5, l6, l7, l8, l9, l10, l11, l12, l13], [.ref q, .ref k1, .ref k0], h) Q) := t_getr k_113_93
theorem k_113_96 : lk 113 96 = some (.iload_n 2, 97, 2, 0, .null) := by decide +kernel
theorem x_113_96 : Tr sc d 113 (96, [l0, l1, some (.int x), l3, l4, l5, l6, l7, l8, l9, l10, l11, l12, l13], [.ref k2, .ref k1, .ref k0], h) Q = Tr sc d 113 (97, [l0, l1, some (.int x), l3, l4, l5, l6, l7, l8, l9, l10, l11, l12, l13], [.int x, .ref k2, .ref k1, .ref k0], h) Q := t_iload_n k_113_96 rfl
theorem k_113_97 : lk 113 97 = some (.aaload, 98, 0, 0, .null) := by decide +kernel
theorem x_113_97 : Tr sc d 113 (97, [l0, l1, l2, l3, l4, l5, l6, l7, l8, l9, l10, l11, l12, l13], [.int i3, .ref k2, .ref k1, .ref k0], h) Q = (((okp h k2 14 || okp h k2 15) && inb i3 (LN k2)) = true ∧ ∃ q, hR h k2 i3.toNatClampNeg = some q ∧ Tr sc d 113 (98, [l0, l1, l2, l3, l4, l5, l6, l7, l8, l9, l10, l11, l12, l13], [.ref q, .ref k1, .ref k0], h) Q) := t_aald k_113_97
theorem k_113_98 : lk 113 98 = some (.iload_n 3, 99, 3, 0, .null) := by decide +kernel
theorem x_113_98 : Tr sc d 113 (98, [l0, l1, l2, some (.int x), l4, l5, l6, l7, l8, l9, l10, l11, l12, l13], [.ref k2, .ref k1, .ref k0], h) Q = Tr sc d 113 (99, [l0, l1, l2, some (.int x), l4, l5, l6, l7, l8, l9, l10, l11, l12, l13], [.int x, .ref k2, .ref k1, .ref k0], h) Q := t_iload_n k_113_98 rfl
theorem k_113_99 : lk 113 99 = some (.iload 4, 101, 4, 0, .null) := by decide +kernel
theorem x_113_99 : Tr sc d 113 (99, [l0, l1, l2, l3, some (.int x), l5, l6, l7, l8, l9, l10, l11, l12, l13], [.int i3, .ref k2, .ref k1, .ref k0], h) Q = Tr sc d 113 (101, [l0, l1, l2, l3, some (.int x), l5, l6, l7, l8, l9, l10, l11, l12, l13], [.int x, .int i3, .ref k2, .ref k1, .ref k0], h) Q := t_iload k_113_99 rfl
theorem k_113_101 : lk 113 101 = some (.invokevirtual 228, 104, 1, 4, .null) := by decide +kernel
theorem x_113_101 : Tr sc (d + 1) 113 (101, [l0, l1, l2, l3, l4, l5, l6, l7, l8, l9, l10, l11, l12, l13], [.int i4, .int i3, .ref k2, .ref k1, .ref k0], h) Q = (okp h k0 0 = true ∧ Tr sc d 1 (ent0 1 [.ref k0, .ref k1, .ref k2, .int i3, .int i4] h) (fun z => Tr sc (d + 1) 113 (104, [l0, l1, l2, l3, l4, l5, l6, l7, l8, l9, l10, l11, l12, l13], z.1.toList ++ [], z.2) Q)) := t_cv (as := [.ref k1, .ref k2, .int i3, .int i4]) (r := []) k_113_101 rfl rfl (Nat.le_of_ble_eq_true rfl) (Nat.le_of_ble_eq_true rfl) (Nat.le_of_ble_eq_true rfl)
theorem k_113_104 : lk 113 104 = some (.aload_n 0, 105, 0, 0, .null) := by decide +kernel
theorem x_113_104 : Tr sc d 113 (104, [some (.ref xk), l1, l2, l3, l4, l5, l6, l7, l8, l9, l10, l11, l12, l13], [], h) Q = Tr sc d 113 (105, [some (.ref xk), l1, l2, l3, l4, l5, l6, l7, l8, l9, l10, l11, l12, l13], [.ref xk], h) Q := t_aload_n k_113_104 rfl
theorem k_113_105 : lk 113 105 = some (.getfield 43, 108, 9, 6, .null) := by decide +kernel
theorem x_113_105 : Tr sc d 113 (105, [l0, l1, l2, l3, l4, l5, l6, l7, l8, l9, l10, l11, l12, l13], [.ref k0], h) Q = (okp h k0 9 = true ∧ ∃ q, hR h k0 6 = some q ∧ Tr sc d 113 (108, [l0, l1, l2, l3, l4, l5, l6, l7, l8, l9, l10, l11, l12, l13], [.ref q], h) Q) := t_getr k_113_105
theorem k_113_108 : lk 113 108 = some (.invokevirtual 238, 111, 5, 0, .null) := by decide +kernel
theorem x_113_108 : Tr sc (d + 1) 113 (108, [l0, l1, l2, l3, l4, l5, l6, l7, l8, l9, l10, l11, l12, l13], [.ref k0], h) Q = (okp h k0 0 = true ∧ Tr sc d 5 (ent0 5 [.ref k0] h) (fun z => Tr sc (d + 1) 113 (111, [l0, l1, l2, l3, l4, l5, l6, l7, l8, l9, l10, l11, l12, l13], z.1.toList ++ [], z.2) Q)) := t_cv (as := []) (r := []) k_113_108 rfl rfl (Nat.le_of_ble_eq_true rfl) (Nat.le_of_ble_eq_true rfl) (Nat.le_of_ble_eq_true rfl)
theorem k_113_111 : lk 113 111 = some (.lstore 8, 113, 8, 0, .null) := by decide +kernel
theorem x_113_111 : Tr sc d 113 (111, [l0, l1, l2, l3, l4, l5, l6, l7, l8, l9, l10, l11, l12, l13], [.long j0], h) Q = Tr sc d 113 (113, [l0, l1, l2, l3, l4, l5, l6, cl2 l7, some (.long j0), none, l10, l11, l12, l13], [], h) Q := t_lstore k_113_111 (Nat.le_of_ble_eq_true rfl)
theorem k_113_113 : lk 113 113 = some (.aload_n 0, 114, 0, 0, .null) := by decide +kernel
theorem x_113_113 : Tr sc d 113 (113, [some (.ref xk), l1, l2, l3, l4, l5, l6, l7, l8, l9, l10, l11, l12, l13], [], h) Q = Tr sc d 113 (114, [some (.ref xk), l1, l2, l3, l4, l5, l6, l7, l8, l9, l10, l11, l12, l13], [.ref xk], h) Q := t_aload_n k_113_113 rfl
theorem k_113_114 : lk 113 114 = some (.getfield 43, 117, 9, 6, .null) := by decide +kernel
theorem x_113_114 : Tr sc d 113 (114, [l0, l1, l2, l3, l4, l5, l6, l7, l8, l9, l10, l11, l12, l13], [.ref k0], h) Q = (okp h k0 9 = true ∧ ∃ q, hR h k0 6 = some q ∧ Tr sc d 113 (117, [l0, l1, l2, l3, l4, l5, l6, l7, l8, l9, l10, l11, l12, l13], [.ref q], h) Q) := t_getr k_113_114
theorem k_113_117 : lk 113 117 = some (.invokevirtual 241, 120, 6, 0, .null) := by decide +kernel
theorem x_113_117 : Tr sc (d + 1) 113 (117, [l0, l1, l2, l3, l4, l5, l6, l7, l8, l9, l10, l11, l12, l13], [.ref k0], h) Q = (okp h k0 0 = true ∧ Tr sc d 6 (ent0 6 [.ref k0] h) (fun z => Tr sc (d + 1) 113 (120, [l0, l1, l2, l3, l4, l5, l6, l7, l8, l9, l10, l11, l12, l13], z.1.toList ++ [], z.2) Q)) := t_cv (as := []) (r := []) k_113_117 rfl rfl (Nat.le_of_ble_eq_true rfl) (Nat.le_of_ble_eq_true rfl) (Nat.le_of_ble_eq_true rfl)
theorem k_113_120 : lk 113 120 = some (.lstore 10, 122, 10, 0, .null) := by decide +kernel
theorem x_113_120 : Tr sc d 113 (120, [l0, l1, l2, l3, l4, l5, l6, l7, l8, l9, l10, l11, l12, l13], [.long j0], h) Q = Tr sc d 113 (122, [l0, l1, l2, l3, l4, l5, l6, l7, l8, cl2 l9, some (.long j0), none, l12, l13], [], h) Q := t_lstore k_113_120 (Nat.le_of_ble_eq_true rfl)
theorem k_113_122 : lk 113 122 = some (.iload 5, 124, 5, 0, .null) := by decide +kernel
theorem x_113_122 : Tr sc d 113 (122, [l0, l1, l2, l3, l4, some (.int x), l6, l7, l8, l9, l10, l11, l12, l13], [], h) Q = Tr sc d 113 (124, [l0, l1, l2, l3, l4, some (.int x), l6, l7, l8, l9, l10, l11, l12, l13], [.int x], h) Q := t_iload k_113_122 rfl
theorem k_113_124 : lk 113 124 = some (.ifCond .eq 43, 127, 167, 0, .null) := by decide +kernel
theorem x_113_124 : Tr sc d 113 (124, [l0, l1, l2, l3, l4, l5, l6, l7, l8, l9, l10, l11, l12, l13], [.int i0], h) Q = if i0 = 0 then Tr sc d 113 (167, [l0, l1, l2, l3, l4, l5, l6, l7, l8, l9, l10, l11, l12, l13], [], h) Q else Tr sc d 113 (127, [l0, l1, l2, l3, l4, l5, l6, l7, l8, l9, l10, l11, l12, l13], [], h) Q := t_if k_113_124 rfl
theorem k_113_127 : lk 113 127 = some (.aload_n 0, 128, 0, 0, .null) := by decide +kernel
theorem x_113_127 : Tr sc d 113 (127, [some (.ref xk), l1, l2, l3, l4, l5, l6, l7, l8, l9, l10, l11, l12, l13], [], h) Q = Tr sc d 113 (128, [some (.ref xk), l1, l2, l3, l4, l5, l6, l7, l8, l9, l10, l11, l12, l13], [.ref xk], h) Q := t_aload_n k_113_127 rfl
theorem k_113_128 : lk 113 128 = some (.getfield 39, 131, 9, 5, .null) := by decide +kernel
theorem x_113_128 : Tr sc d 113 (128, [l0, l1, l2, l3, l4, l5, l6, l7, l8, l9, l10, l11, l12, l13], [.ref k0], h) Q = (okp h k0 9 = true ∧ ∃ q, hR h k0 5 = some q ∧ Tr sc d 113 (131, [l0, l1, l2, l3, l4, l5, l6, l7, l8, l9, l10, l11, l12, l13], [.ref q], h) Q) := t_getr k_113_128
theorem k_113_131 : lk 113 131 = some (.getfield 244, 134, 0, 2, .long 0) := by decide +kernel
theorem x_113_131 : Tr sc d 113 (131, [l0, l1, l2, l3, l4, l5, l6, l7, l8, l9, l10, l11, l12, l13], [.ref k0], h) Q = (okp h k0 0 = true ∧ Tr sc d 113 (134, [l0, l1, l2, l3, l4, l5, l6, l7, l8, l9, l10, l11, l12, l13], [.long (hL h k0 2)], h) Q) := t_gd k_113_131 rfl
theorem k_113_134 : lk 113 134 = some (.lload 10, 136, 10, 0, .null) := by decide +kernel
theorem x_113_134 : Tr sc d 113 (134, [l0, l1, l2, l3, l4, l5, l6, l7, l8, l9, some (.long xl), l11, l12, l13], [.long j0], h) Q = Tr sc d 113 (136, [l0, l1, l2, l3, l4, l5, l6, l7, l8, l9, some (.long xl), l11, l12, l13], [.long xl, .long j0], h) Q := t_lload k_113_134 rfl
theorem k_113_136 : lk 113 136 = some (.lmul, 137, 0, 0, .null) := by decide +kernel
theorem x_113_136 : Tr sc d 113 (136, [l0, l1, l2, l3, l4, l5, l6, l7, l8, l9, l10, l11, l12, l13], [.long j1, .long j0], h) Q = Tr sc d 113 (137, [l0, l1, l2, l3, l4, l5, l6, l7, l8, l9, l10, l11, l12, l13], [.long (j0 * j1)], h) Q := t_go k_113_136 rfl
theorem k_113_137 : lk 113 137 = some (.aload_n 0, 138, 0, 0, .null) := by decide +kernel
theorem x_113_137 : Tr sc d 113 (137, [some (.ref xk), l1, l2, l3, l4, l5, l6, l7, l8, l9, l10, l11, l12, l13], [.long j0], h) Q = Tr sc d 113 (138, [some (.ref xk), l1, l2, l3, l4, l5, l6, l7, l8, l9, l10, l11, l12, l13], [.ref xk, .long j0], h) Q := t_aload_n k_113_137 rfl
theorem k_113_138 : lk 113 138 = some (.getfield 39, 141, 9, 5, .null) := by decide +kernel
theorem x_113_138 : Tr sc d 113 (138, [l0, l1, l2, l3, l4, l5, l6, l7, l8, l9, l10, l11, l12, l13], [.ref k1, .long j0], h) Q = (okp h k1 9 = true ∧ ∃ q, hR h k1 5 = some q ∧ Tr sc d 113 (141, [l0, l1, l2, l3, l4, l5, l6, l7, l8, l9, l10, l11, l12, l13], [.ref q, .long j0], h) Q) := t_getr k_113_138
theorem k_113_141 : lk 113 141 = some (.getfield 247, 144, 0, 3, .long 0) := by decide +kernel
theorem x_113_141 : Tr sc d 113 (141, [l0, l1, l2, l3, l4, l5, l6, l7, l8, l9, l10, l11, l12, l13], [.ref k1, .long j0], h) Q = (okp h k1 0 = true ∧ Tr sc d 113 (144, [l0, l1, l2, l3, l4, l5, l6, l7, l8, l9, l10, l11, l12, l13], [.long (hL h k1 3), .long j0], h) Q) := t_gd k_113_141 rfl
theorem k_113_144 : lk 113 144 = some (.aload_n 0, 145, 0, 0, .null) := by decide +kernel
theorem x_113_144 : Tr sc d 113 (144, [some (.ref xk), l1, l2, l3, l4, l5, l6, l7, l8, l9, l10, l11, l12, l13], [.long j1, .long j0], h) Q = Tr sc d 113 (145, [some (.ref xk), l1, l2, l3, l4, l5, l6, l7, l8, l9, l10, l11, l12, l13], [.ref xk, .long j1, .long j0], h) Q := t_aload_n k_113_144 rfl
theorem k_113_145 : lk 113 145 = some (.getfield 43, 148, 9, 6, .null) := by decide +kernel
theorem x_113_145 : Tr sc d 113 (145, [l0, l1, l2, l3, l4, l5, l6, l7, l8, l9, l10, l11, l12, l13], [.ref k2, .long j1, .long j0], h) Q = (okp h k2 9 = true ∧ ∃ q, hR h k2 6 = some q ∧ Tr sc d 113 (148, [l0, l1, l2, l3, l4, l5, l6, l7, l8, l9, l10, l11, l12, l13], [.ref q, .long j1, .long j0], h) Q) := t_getr k_113_145
theorem k_113_148 : lk 113 148 = some (.invokevirtual 250, 151, 7, 0, .null) := by decide +kernel
theorem x_113_148 : Tr sc (d + 1) 113 (148, [l0, l1, l2, l3, l4, l5, l6, l7, l8, l9, l10, l11, l12, l13], [.ref k2, .long j1, .long j0], h) Q = (okp h k2 0 = true ∧ Tr sc d 7 (ent0 7 [.ref k2] h) (fun z => Tr sc (d + 1) 113 (151, [l0, l1, l2, l3, l4, l5, l6, l7, l8, l9, l10, l11, l12, l13], z.1.toList ++ [.long j1, .long j0], z.2) Q)) := t_cv (as := []) (r := [.long j1, .long j0]) k_113_148 rfl rfl (Nat.le_of_ble_eq_true rfl) (Nat.le_of_ble_eq_true rfl) (Nat.le_of_ble_eq_true rfl)
theorem k_113_151 : lk 113 151 = some (.lmul, 152, 0, 0, .null) := by decide +kernel
theorem x_113_151 : Tr sc d 113 (151, [l0, l1, l2, l3, l4, l5, l6, l7, l8, l9, l10, l11, l12, l13], [.long j2, .long j1, .long j0], h) Q = Tr sc d 113 (152, [l0, l1, l2, l3, l4, l5, l6, l7, l8, l9, l10, l11, l12, l13], [.long (j1 * j2), .long j0], h) Q := t_go k_113_151 rfl
theorem k_113_152 : lk 113 152 = some (.ladd, 153, 0, 0, .null) := by decide +kernel
theorem x_113_152 : Tr sc d 113 (152, [l0, l1, l2, l3, l4, l5, l6, l7, l8, l9, l10, l11, l12, l13], [.long j1, .long j0], h) Q = Tr sc d 113 (153, [l0, l1, l2, l3, l4, l5, l6, l7, l8, l9, l10, l11, l12, l13], [.long (j0 + j1)], h) Q := t_go k_113_152 rfl
theorem k_113_153 : lk 113 153 = some (.aload_n 0, 154, 0, 0, .null) := by decide +kernel
theorem x_113_153 : Tr sc d 113 (153, [some (.ref xk), l1, l2, l3, l4, l5, l6, l7, l8, l9, l10, l11, l12, l13], [.long j0], h) Q = Tr sc d 113 (154, [some (.ref xk), l1, l2, l3, l4, l5, l6, l7, l8, l9, l10, l11, l12, l13], [.ref xk, .long j0], h) Q := t_aload_n k_113_153 rfl
theorem k_113_154 : lk 113 154 = some (.getfield 39, 157, 9, 5, .null) := by decide +kernel
theorem x_113_154 : Tr sc d 113 (154, [l0, l1, l2, l3, l4, l5, l6, l7, l8, l9, l10, l11, l12, l13], [.ref k1, .long j0], h) Q = (okp h k1 9 = true ∧ ∃ q, hR h k1 5 = some q ∧ Tr sc d 113 (157, [l0, l1, l2, l3, l4, l5, l6, l7, l8, l9, l10, l11, l12, l13], [.ref q, .long j0], h) Q) := t_getr k_113_154
theorem k_113_157 : lk 113 157 = some (.getfield 232, 160, 0, 5, .long 0) := by decide +kernel
theorem x_113_157 : Tr sc d 113 (157, [l0, l1, l2, l3, l4, l5, l6, l7, l8, l9, l10, l11, l12, l13], [.ref k1, .long j0], h) Q = (okp h k1 0 = true ∧ Tr sc d 113 (160, [l0, l1, l2, l3, l4, l5, l6, l7, l8, l9, l10, l11, l12, l13], [.long (hL h k1 5), .long j0], h) Q) := t_gd k_113_157 rfl
theorem k_113_160 : lk 113 160 = some (.lload 8, 162, 8, 0, .null) := by decide +kernel
theorem x_113_160 : Tr sc d 113 (160, [l0, l1, l2, l3, l4, l5, l6, l7, some (.long xl), l9, l10, l11, l12, l13], [.long j1, .long j0], h) Q = Tr sc d 113 (162, [l0, l1, l2, l3, l4, l5, l6, l7, some (.long xl), l9, l10, l11, l12, l13], [.long xl, .long j1, .long j0], h) Q := t_lload k_113_160 rfl
theorem k_113_162 : lk 113 162 = some (.lmul, 163, 0, 0, .null) := by decide +kernel
theorem x_113_162 : Tr sc d 113 (162, [l0, l1, l2, l3, l4, l5, l6, l7, l8, l9, l10, l11, l12, l13], [.long j2, .long j1, .long j0], h) Q = Tr sc d 113 (163, [l0, l1, l2, l3, l4, l5, l6, l7, l8, l9, l10, l11, l12, l13], [.long (j1 * j2), .long j0], h) Q := t_go k_113_162 rfl
theorem k_113_163 : lk 113 163 = some (.ladd, 164, 0, 0, .null) := by decide +kernel
theorem x_113_163 : Tr sc d 113 (163, [l0, l1, l2, l3, l4, l5, l6, l7, l8, l9, l10, l11, l12, l13], [.long j1, .long j0], h) Q = Tr sc d 113 (164, [l0, l1, l2, l3, l4, l5, l6, l7, l8, l9, l10, l11, l12, l13], [.long (j0 + j1)], h) Q := t_go k_113_163 rfl
theorem k_113_164 : lk 113 164 = some (.goto 40, 167, 204, 0, .null) := by decide +kernel
theorem x_113_164 : Tr sc d 113 (164, [l0, l1, l2, l3, l4, l5, l6, l7, l8, l9, l10, l11, l12, l13], [.long j0], h) Q = Tr sc d 113 (204, [l0, l1, l2, l3, l4, l5, l6, l7, l8, l9, l10, l11, l12, l13], [.long j0], h) Q := t_go k_113_164 rfl
theorem k_113_167 : lk 113 167 = some (.aload_n 0, 168, 0, 0, .null) := by decide +kernel
theorem x_113_167 : Tr sc d 113 (167, [some (.ref xk), l1, l2, l3, l4, l5, l6, l7, l8, l9, l10, l11, l12, l13], [], h) Q = Tr sc d 113 (168, [some (.ref xk), l1, l2, l3, l4, l5, l6, l7, l8, l9, l10, l11, l12, l13], [.ref xk], h) Q := t_aload_n k_113_167 rfl
theorem k_113_168 : lk 113 168 = some (.getfield 39, 171, 9, 5, .null) := by decide +kernel
theorem x_113_168 : Tr sc d 113 (168, [l0, l1, l2, l3, l4, l5, l6, l7, l8, l9, l10, l11, l12, l13], [.ref k0], h) Q = (okp h k0 9 = true ∧ ∃ q, hR h k0 5 = some q ∧ Tr sc d 113 (171, [l0, l1, l2, l3, l4, l5, l6, l7, l8, l9, l10, l11, l12, l13], [.ref q], h) Q) := t_getr k_113_168
theorem k_113_171 : lk 113 171 = some (.getfield 253, 174, 0, 0, .long 0) := by decide +kernel
theorem x_113_171 : Tr sc d 113 (171, [l0, l1, l2, l3, l4, l5, l6, l7, l8, l9, l10, l11, l12, l13], [.ref k0], h) Q = (okp h k0 0 = true ∧ Tr sc d 113 (174, [l0, l1, l2, l3, l4, l5, l6, l7, l8, l9, l10, l11, l12, l13], [.long (hL h k0 0)], h) Q) := t_gd k_113_171 rfl
theorem k_113_174 : lk 113 174 = some (.lload 10, 176, 10, 0, .null) := by decide +kernel
theorem x_113_174 : Tr sc d 113 (174, [l0, l1, l2, l3, l4, l5, l6, l7, l8, l9, some (.long xl), l11, l12, l13], [.long j0], h) Q = Tr sc d 113 (176, [l0, l1, l2, l3, l4, l5, l6, l7, l8, l9, some (.long xl), l11, l12, l13], [.long xl, .long j0], h) Q := t_lload k_113_174 rfl
theorem k_113_176 : lk 113 176 = some (.lmul, 177, 0, 0, .null) := by decide +kernel
theorem x_113_176 : Tr sc d 113 (176, [l0, l1, l2, l3, l4, l5, l6, l7, l8, l9, l10, l11, l12, l13], [.long j1, .long j0], h) Q = Tr sc d 113 (177, [l0, l1, l2, l3, l4, l5, l6, l7, l8, l9, l10, l11, l12, l13], [.long (j0 * j1)], h) Q := t_go k_113_176 rfl
theorem k_113_177 : lk 113 177 = some (.aload_n 0, 178, 0, 0, .null) := by decide +kernel
theorem x_113_177 : Tr sc d 113 (177, [some (.ref xk), l1, l2, l3, l4, l5, l6, l7, l8, l9, l10, l11, l12, l13], [.long j0], h) Q = Tr sc d 113 (178, [some (.ref xk), l1, l2, l3, l4, l5, l6, l7, l8, l9, l10, l11, l12, l13], [.ref xk, .long j0], h) Q := t_aload_n k_113_177 rfl
theorem k_113_178 : lk 113 178 = some (.getfield 39, 181, 9, 5, .null) := by decide +kernel
theorem x_113_178 : Tr sc d 113 (178, [l0, l1, l2, l3, l4, l5, l6, l7, l8, l9, l10, l11, l12, l13], [.ref k1, .long j0], h) Q = (okp h k1 9 = true ∧ ∃ q, hR h k1 5 = some q ∧ Tr sc d 113 (181, [l0, l1, l2, l3, l4, l5, l6, l7, l8, l9, l10, l11, l12, l13], [.ref q, .long j0], h) Q) := t_getr k_113_178
theorem k_113_181 : lk 113 181 = some (.getfield 256, 184, 0, 1, .long 0) := by decide +kernel
theorem x_113_181 : Tr sc d 113 (181, [l0, l1, l2, l3, l4, l5, l6, l7, l8, l9, l10, l11, l12, l13], [.ref k1, .long j0], h) Q = (okp h k1 0 = true ∧ Tr sc d 113 (184, [l0, l1, l2, l3, l4, l5, l6, l7, l8, l9, l10, l11, l12, l13], [.long (hL h k1 1), .long j0], h) Q) := t_gd k_113_181 rfl
theorem k_113_184 : lk 113 184 = some (.aload_n 0, 185, 0, 0, .null) := by decide +kernel
theorem x_113_184 : Tr sc d 113 (184, [some (.ref xk), l1, l2, l3, l4, l5, l6, l7, l8, l9, l10, l11, l12, l13], [.long j1, .long j0], h) Q = Tr sc d 113 (185, [some (.ref xk), l1, l2, l3, l4, l5, l6, l7, l8, l9, l10, l11, l12, l13], [.ref xk, .long j1, .long j0], h) Q := t_aload_n k_113_184 rfl
theorem k_113_185 : lk 113 185 = some (.getfield 43, 188, 9, 6, .null) := by decide +kernel
theorem x_113_185 : Tr sc d 113 (185, [l0, l1, l2, l3, l4, l5, l6, l7, l8, l9, l10, l11, l12, l13], [.ref k2, .long j1, .long j0], h) Q = (okp h k2 9 = true ∧ ∃ q, hR h k2 6 = some q ∧ Tr sc d 113 (188, [l0, l1, l2, l3, l4, l5, l6, l7, l8, l9, l10, l11, l12, l13], [.ref q, .long j1, .long j0], h) Q) := t_getr k_113_185
theorem k_113_188 : lk 113 188 = some (.invokevirtual 250, 191, 7, 0, .null) := by decide +kernel
theorem x_113_188 : Tr sc (d + 1) 113 (188, [l0, l1, l2, l3, l4, l5, l6, l7, l8, l9, l10, l11, l12, l13], [.ref k2, .long j1, .long j0], h) Q = (okp h k2 0 = true ∧ Tr sc d 7 (ent0 7 [.ref k2] h) (fun z => Tr sc (d + 1) 113 (191, [l0, l1, l2, l3, l4, l5, l6, l7, l8, l9, l10, l11, l12, l13], z.1.toList ++ [.long j1, .long j0], z.2) Q)) := t_cv (as := []) (r := [.long j1, .long j0]) k_113_188 rfl rfl (Nat.le_of_ble_eq_true rfl) (Nat.le_of_ble_eq_true rfl) (Nat.le_of_ble_eq_true rfl)
theorem k_113_191 : lk 113 191 = some (.lmul, 192, 0, 0, .null) := by decide +kernel
theorem x_113_191 : Tr sc d 113 (191, [l0, l1, l2, l3, l4, l5, l6, l7, l8, l9, l10, l11, l12, l13], [.long j2, .long j1, .long j0], h) Q = Tr sc d 113 (192, [l0, l1, l2, l3, l4, l5, l6, l7, l8, l9, l10, l11, l12, l13], [.long (j1 * j2), .long j0], h) Q := t_go k_113_191 rfl
theorem k_113_192 : lk 113 192 = some (.ladd, 193, 0, 0, .null) := by decide +kernel
theorem x_113_192 : Tr sc d 113 (192, [l0, l1, l2, l3, l4, l5, l6, l7, l8, l9, l10, l11, l12, l13], [.long j1, .long j0], h) Q = Tr sc d 113 (193, [l0, l1, l2, l3, l4, l5, l6, l7, l8, l9, l10, l11, l12, l13], [.long (j0 + j1)], h) Q := t_go k_113_192 rfl
theorem k_113_193 : lk 113 193 = some (.aload_n 0, 194, 0, 0, .null) := by decide +kernel
theorem x_113_193 : Tr sc d 113 (193, [some (.ref xk), l1, l2, l3, l4, l5, l6, l7, l8, l9, l10, l11, l12, l13], [.long j0], h) Q = Tr sc d 113 (194, [some (.ref xk), l1, l2, l3, l4, l5, l6, l7, l8, l9, l10, l11, l12, l13], [.ref xk, .long j0], h) Q := t_aload_n k_113_193 rfl
theorem k_113_194 : lk 113 194 = some (.getfield 39, 197, 9, 5, .null) := by decide +kernel
theorem x_113_194 : Tr sc d 113 (194, [l0, l1, l2, l3, l4, l5, l6, l7, l8, l9, l10, l11, l12, l13], [.ref k1, .long j0], h) Q = (okp h k1 9 = true ∧ ∃ q, hR h k1 5 = some q ∧ Tr sc d 113 (197, [l0, l1, l2, l3, l4, l5, l6, l7, l8, l9, l10, l11, l12, l13], [.ref q, .long j0], h) Q) := t_getr k_113_194
theorem k_113_197 : lk 113 197 = some (.getfield 235, 200, 0, 4, .long 0) := by decide +kernel
theorem x_113_197 : Tr sc d 113 (197, [l0, l1, l2, l3, l4, l5, l6, l7, l8, l9, l10, l11, l12, l13], [.ref k1, .long j0], h) Q = (okp h k1 0 = true ∧ Tr sc d 113 (200, [l0, l1, l2, l3, l4, l5, l6, l7, l8, l9, l10, l11, l12, l13], [.long (hL h k1 4), .long j0], h) Q) := t_gd k_113_197 rfl
theorem k_113_200 : lk 113 200 = some (.lload 8, 202, 8, 0, .null) := by decide +kernel
theorem x_113_200 : Tr sc d 113 (200, [l0, l1, l2, l3, l4, l5, l6, l7, some (.long xl), l9, l10, l11, l12, l13], [.long j1, .long j0], h) Q = Tr sc d 113 (202, [l0, l1, l2, l3, l4, l5, l6, l7, some (.long xl), l9, l10, l11, l12, l13], [.long xl, .long j1, .long j0], h) Q := t_lload k_113_200 rfl
theorem k_113_202 : lk 113 202 = some (.lmul, 203, 0, 0, .null) := by decide +kernel
theorem x_113_202 : Tr sc d 113 (202, [l0, l1, l2, l3, l4, l5, l6, l7, l8, l9, l10, l11, l12, l13], [.long j2, .long j1, .long j0], h) Q = Tr sc d 113 (203, [l0, l1, l2, l3, l4, l5, l6, l7, l8, l9, l10, l11, l12, l13], [.long (j1 * j2), .long j0], h) Q := t_go k_113_202 rfl
theorem k_113_203 : lk 113 203 = some (.ladd, 204, 0, 0, .null) := by decide +kernel
theorem x_113_203 : Tr sc d 113 (203, [l0, l1, l2, l3, l4, l5, l6, l7, l8, l9, l10, l11, l12, l13], [.long j1, .long j0], h) Q = Tr sc d 113 (204, [l0, l1, l2, l3, l4, l5, l6, l7, l8, l9, l10, l11, l12, l13], [.long (j0 + j1)], h) Q := t_go k_113_203 rfl
theorem k_113_204 : lk 113 204 = some (.lstore 12, 206, 12, 0, .null) := by decide +kernel
theorem x_113_204 : Tr sc d 113 (204, [l0, l1, l2, l3, l4, l5, l6, l7, l8, l9, l10, l11, l12, l13], [.long j0], h) Q = Tr sc d 113 (206, [l0, l1, l2, l3, l4, l5, l6, l7, l8, l9, l10, cl2 l11, some (.long j0), none], [], h) Q := t_lstore k_113_204 (Nat.le_of_ble_eq_true rfl)
theorem k_113_206 : lk 113 206 = some (.aload_n 0, 207, 0, 0, .null) := by decide +kernel
theorem x_113_206 : Tr sc d 113 (206, [some (.ref xk), l1, l2, l3, l4, l5, l6, l7, l8, l9, l10, l11, l12, l13], [], h) Q = Tr sc d 113 (207, [some (.ref xk), l1, l2, l3, l4, l5, l6, l7, l8, l9, l10, l11, l12, l13], [.ref xk], h) Q := t_aload_n k_113_206 rfl
theorem k_113_207 : lk 113 207 = some (.lload 12, 209, 12, 0, .null) := by decide +kernel
theorem x_113_207 : Tr sc d 113 (207, [l0, l1, l2, l3, l4, l5, l6, l7, l8, l9, l10, l11, some (.long xl), l13], [.ref k0], h) Q = Tr sc d 113 (209, [l0, l1, l2, l3, l4, l5, l6, l7, l8, l9, l10, l11, some (.long xl), l13], [.long xl, .ref k0], h) Q := t_lload k_113_207 rfl
theorem k_113_209 : lk 113 209 = some (.aload_n 0, 210, 0, 0, .null) := by decide +kernel
theorem x_113_209 : Tr sc d 113 (209, [some (.ref xk), l1, l2, l3, l4, l5, l6, l7, l8, l9, l10, l11, l12, l13], [.long j1, .ref k0], h) Q = Tr sc d 113 (210, [some (.ref xk), l1, l2, l3, l4, l5, l6, l7, l8, l9, l10, l11, l12, l13], [.ref xk, .long j1, .ref k0], h) Q := t_aload_n k_113_209 rfl
theorem k_113_210 : lk 113 210 = some (.getfield 39, 213, 9, 5, .null) := by decide +kernel
theorem x_113_210 : Tr sc d 113 (210, [l0, l1, l2, l3, l4, l5, l6, l7, l8, l9, l10, l11, l12, l13], [.ref k2, .long j1, .ref k0], h) Q = (okp h k2 9 = true ∧ ∃ q, hR h k2 5 = some q ∧ Tr sc d 113 (213, [l0, l1, l2, l3, l4, l5, l6, l7, l8, l9, l10, l11, l12, l13], [.ref q, .long j1, .ref k0], h) Q) := t_getr k_113_210
theorem k_113_213 : lk 113 213 = some (.getfield 259, 216, 0, 6, .long 0) := by decide +kernel
theorem x_113_213 : Tr sc d 113 (213, [l0, l1, l2, l3, l4, l5, l6, l7, l8, l9, l10, l11, l12, l13], [.ref k2, .long j1, .ref k0], h) Q = (okp h k2 0 = true ∧ Tr sc d 113 (216, [l0, l1, l2, l3, l4, l5, l6, l7, l8, l9, l10, l11, l12, l13], [.long (hL h k2 6), .long j1, .ref k0], h) Q) := t_gd k_113_213 rfl
theorem k_113_216 : lk 113 216 = some (.lload 8, 218, 8, 0, .null) := by decide +kernel
theorem x_113_216 : Tr sc d 113 (216, [l0, l1, l2, l3, l4, l5, l6, l7, some (.long xl), l9, l10, l11, l12, l13], [.long j2, .long j1, .ref k0], h) Q = Tr sc d 113 (218, [l0, l1, l2, l3, l4, l5, l6, l7, some (.long xl), l9, l10, l11, l12, l13], [.long xl, .long j2, .long j1, .ref k0], h) Q := t_lload k_113_216 rfl
theorem k_113_218 : lk 113 218 = some (.lmul, 219, 0, 0, .null) := by decide +kernel
theorem x_113_218 : Tr sc d 113 (218, [l0, l1, l2, l3, l4, l5, l6, l7, l8, l9, l10, l11, l12, l13], [.long j3, .long j2, .long j1, .ref k0], h) Q = Tr sc d 113 (219, [l0, l1, l2, l3, l4, l5, l6, l7, l8, l9, l10, l11, l12, l13], [.long (j2 * j3), .long j1, .ref k0], h) Q := t_go k_113_218 rfl
theorem k_113_219 : lk 113 219 = some (.invokevirtual 262, 222, 153, 2, .null) := by decide +kernel
theorem x_113_219 : Tr sc (d + 1) 113 (219, [l0, l1, l2, l3, l4, l5, l6, l7, l8, l9, l10, l11, l12, l13], [.long j2, .long j1, .ref k0], h) Q = (okp h k0 9 = true ∧ Tr sc d 153 (ent0 153 [.ref k0, .long j1, .long j2] h) (fun z => Tr sc (d + 1) 113 (222, [l0, l1, l2, l3, l4, l5, l6, l7, l8, l9, l10, l11, l12, l13], z.1.toList ++ [], z.2) Q)) := t_cv (as := [.long j1, .long j2]) (r := []) k_113_219 rfl rfl (Nat.le_of_ble_eq_true rfl) (Nat.le_of_ble_eq_true rfl) (Nat.le_of_ble_eq_true rfl)
theorem k_113_222 : lk 113 222 = some (.iconst 1, 223, 0, 0, .int 1) := by decide +kernel
theorem x_113_222 : Tr sc d 113 (222, [l0, l1, l2, l3, l4, l5, l6, l7, l8, l9, l10, l11, l12, l13], [], h) Q = Tr sc d 113 (223, [l0, l1, l2, l3, l4, l5, l6, l7, l8, l9, l10, l11, l12, l13], [.int 1], h) Q := t_go k_113_222 rfl
theorem k_113_223 : lk 113 223 = some (.ireturn, 224, 0, 0, .null) := by decide +kernel
theorem x_113_223 : Tr sc d 113 (223, [l0, l1, l2, l3, l4, l5, l6, l7, l8, l9, l10, l11, l12, l13], [.int i0], h) Q = Q (some (.int i0), h) := t_ret k_113_223 (by rw [r_113]; rfl)
theorem e_113 : Tr sc d 113 (ent0 113 [.ref k0, .int i1, .int i2, .int i3, .int i4, .int i5] h) Q = Tr sc d 113 (0, [some (.ref k0), some (.int i1), some (.int i2), some (.int i3), some (.int i4), some (.int i5), none, none, none, none, none, none, none, none], [], h) Q := by
  have e : mL 113 = 14 := by decide +kernel
  unfold ent0
  rw [e]
  rfl
theorem r_114 : mR 114 = some .int := by decide +kernel
theorem k_114_0 : lk 114 0 = some (.aload_n 0, 1, 0, 0, .null) := by decide +kernel
theorem x_114_0 : Tr sc d 114 (0, [some (.ref xk), l1, l2, l3], [], h) Q = Tr sc d 114 (1, [some (.ref xk), l1, l2, l3], [.ref xk], h) Q := t_aload_n k_114_0 rfl
theorem k_114_1 : lk 114 1 = some (.iload_n 1, 2, 1, 0, .null) := by decide +kernel
theorem x_114_1 : Tr sc d 114 (1, [l0, some (.int x), l2, l3], [.ref k0], h) Q = Tr sc d 114 (2, [l0, some (.int x), l2, l3], [.int x, .ref k0], h) Q := t_iload_n k_114_1 rfl
theorem k_114_2 : lk 114 2 = some (.iload_n 2, 3, 2, 0, .null) := by decide +kernel
theorem x_114_2 : Tr sc d 114 (2, [l0, l1, some (.int x), l3], [.int i1, .ref k0], h) Q = Tr sc d 114 (3, [l0, l1, some (.int x), l3], [.int x, .int i1, .ref k0], h) Q := t_iload_n k_114_2 rfl
theorem k_114_3 : lk 114 3 = some (.ifCond .lt 13, 6, 16, 0, .null) := by decide +kernel
theorem x_114_3 : Tr sc d 114 (3, [l0, l1, l2, l3], [.int i2, .int i1, .ref k0], h) Q = if i2 < 0 then Tr sc d 114 (16, [l0, l1, l2, l3], [.int i1, .ref k0], h) Q else Tr sc d 114 (6, [l0, l1, l2, l3], [.int i1, .ref k0], h) Q := t_if k_114_3 rfl
theorem k_114_6 : lk 114 6 = some (.iload_n 2, 7, 2, 0, .null) := by decide +kernel
theorem x_114_6 : Tr sc d 114 (6, [l0, l1, some (.int x), l3], [.int i1, .ref k0], h) Q = Tr sc d 114 (7, [l0, l1, some (.int x), l3], [.int x, .int i1, .ref k0], h) Q := t_iload_n k_114_6 rfl
theorem k_114_7 : lk 114 7 = some (.bipush 6, 9, 0, 0, .int 6) := by decide +kernel
theorem x_114_7 : Tr sc d 114 (7, [l0, l1, l2, l3], [.int i2, .int i1, .ref k0], h) Q = Tr sc d 114 (9, [l0, l1, l2, l3], [.int 6, .int i2, .int i1, .ref k0], h) Q := t_go k_114_7 rfl
theorem k_114_9 : lk 114 9 = some (.if_icmp .gt 7, 12, 16, 0, .null) := by decide +kernel
theorem x_114_9 : Tr sc d 114 (9, [l0, l1, l2, l3], [.int i3, .int i2, .int i1, .ref k0], h) Q = if i3 < i2 then Tr sc d 114 (16, [l0, l1, l2, l3], [.int i1, .ref k0], h) Q else Tr sc d 114 (12, [l0, l1, l2, l3], [.int i1, .ref k0], h) Q := t_if k_114_9 rfl
theorem k_114_12 : lk 114 12 = some (.iconst 1, 13, 0, 0, .int 1) := by decide +kernel
theorem x_114_12 : Tr sc d 114 (12, [l0, l1, l2, l3], [.int i1, .ref k0], h) Q = Tr sc d 114 (13, [l0, l1, l2, l3], [.int 1, .int i1, .ref k0], h) Q := t_go k_114_12 rfl
theorem k_114_13 : lk 114 13 = some (.goto 4, 16, 17, 0, .null) := by decide +kernel
theorem x_114_13 : Tr sc d 114 (13, [l0, l1, l2, l3], [.int i2, .int i1, .ref k0], h) Q = Tr sc d 114 (17, [l0, l1, l2, l3], [.int i2, .int i1, .ref k0], h) Q := t_go k_114_13 rfl
theorem k_114_16 : lk 114 16 = some (.iconst 0, 17, 0, 0, .int 0) := by decide +kernel
theorem x_114_16 : Tr sc d 114 (16, [l0, l1, l2, l3], [.int i1, .ref k0], h) Q = Tr sc d 114 (17, [l0, l1, l2, l3], [.int 0, .int i1, .ref k0], h) Q := t_go k_114_16 rfl
theorem k_114_17 : lk 114 17 = some (.invokevirtual 196, 20, 145, 2, .null) := by decide +kernel
theorem x_114_17 : Tr sc (d + 1) 114 (17, [l0, l1, l2, l3], [.int i2, .int i1, .ref k0], h) Q = (okp h k0 9 = true ∧ Tr sc d 145 (ent0 145 [.ref k0, .int i1, .int i2] h) (fun z => Tr sc (d + 1) 114 (20, [l0, l1, l2, l3], z.1.toList ++ [], z.2) Q)) := t_cv (as := [.int i1, .int i2]) (r := []) k_114_17 rfl rfl (Nat.le_of_ble_eq_true rfl) (Nat.le_of_ble_eq_true rfl) (Nat.le_of_ble_eq_true rfl)
theorem k_114_20 : lk 114 20 = some (.istore_n 3, 21, 3, 0, .null) := by decide +kernel
theorem x_114_20 : Tr sc d 114 (20, [l0, l1, l2, l3], [.int i0], h) Q = Tr sc d 114 (21, [l0, l1, cl2 l2, some (.int i0)], [], h) Q := t_istore_n k_114_20 (Nat.le_of_ble_eq_true rfl)
theorem k_114_21 : lk 114 21 = some (.iload_n 3, 22, 3, 0, .null) := by decide +kernel
theorem x_114_21 : Tr sc d 114 (21, [l0, l1, l2, some (.int x)], [], h) Q = Tr sc d 114 (22, [l0, l1, l2, some (.int x)], [.int x], h) Q := t_iload_n k_114_21 rfl
theorem k_114_22 : lk 114 22 = some (.ifCond .eq 5, 25, 27, 0, .null) := by decide +kernel
theorem x_114_22 : Tr sc d 114 (22, [l0, l1, l2, l3], [.int i0], h) Q = if i0 = 0 then Tr sc d 114 (27, [l0, l1, l2, l3], [], h) Q else Tr sc d 114 (25, [l0, l1, l2, l3], [], h) Q := t_if k_114_22 rfl
theorem k_114_25 : lk 114 25 = some (.iload_n 3, 26, 3, 0, .null) := by decide +kernel
theorem x_114_25 : Tr sc d 114 (25, [l0, l1, l2, some (.int x)], [], h) Q = Tr sc d 114 (26, [l0, l1, l2, some (.int x)], [.int x], h) Q := t_iload_n k_114_25 rfl
theorem k_114_26 : lk 114 26 = some (.ireturn, 27, 0, 0, .null) := by decide +kernel
theorem x_114_26 : Tr sc d 114 (26, [l0, l1, l2, l3], [.int i0], h) Q = Q (some (.int i0), h) := t_ret k_114_26 (by rw [r_114]; rfl)
theorem k_114_27 : lk 114 27 = some (.aload_n 0, 28, 0, 0, .null) := by decide +kernel
theorem x_114_27 : Tr sc d 114 (27, [some (.ref xk), l1, l2, l3], [], h) Q = Tr sc d 114 (28, [some (.ref xk), l1, l2, l3], [.ref xk], h) Q := t_aload_n k_114_27 rfl
theorem k_114_28 : lk 114 28 = some (.aload_n 0, 29, 0, 0, .null) := by decide +kernel
theorem x_114_28 : Tr sc d 114 (28, [some (.ref xk), l1, l2, l3], [.ref k0], h) Q = Tr sc d 114 (29, [some (.ref xk), l1, l2, l3], [.ref xk, .ref k0], h) Q := t_aload_n k_114_28 rfl
theorem k_114_29 : lk 114 29 = some (.getfield 20, 32, 9, 2, .null) := by decide +kernel
theorem x_114_29 : Tr sc d 114 (29, [l0, l1, l2, l3], [.ref k1, .ref k0], h) Q = (okp h k1 9 = true ∧ ∃ q, hR h k1 2 = some q ∧ Tr sc d 114 (32, [l0, l1, l2, l3], [.ref q, .ref k0], h) Q) := t_getr k_114_29
theorem k_114_32 : lk 114 32 = some (.iload_n 1, 33, 1, 0, .null) := by decide +kernel
theorem x_114_32 : Tr sc d 114 (32, [l0, some (.int x), l2, l3], [.ref k1, .ref k0], h) Q = Tr sc d 114 (33, [l0, some (.int x), l2, l3], [.int x, .ref k1, .ref k0], h) Q := t_iload_n k_114_32 rfl
theorem k_114_33 : lk 114 33 = some (.aaload, 34, 0, 0, .null) := by decide +kernel
theorem x_114_33 : Tr sc d 114 (33, [l0, l1, l2, l3], [.int i2, .ref k1, .ref k0], h) Q = (((okp h k1 14 || okp h k1 15) && inb i2 (LN k1)) = true ∧ ∃ q, hR h k1 i2.toNatClampNeg = some q ∧ Tr sc d 114 (34, [l0, l1, l2, l3], [.ref q, .ref k0], h) Q) := t_aald k_114_33
theorem k_114_34 : lk 114 34 = some (.iload_n 2, 35, 2, 0, .null) := by decide +kernel
theorem x_114_34 : Tr sc d 114 (34, [l0, l1, some (.int x), l3], [.ref k1, .ref k0], h) Q = Tr sc d 114 (35, [l0, l1, some (.int x), l3], [.int x, .ref k1, .ref k0], h) Q := t_iload_n k_114_34 rfl
theorem k_114_35 : lk 114 35 = some (.invokevirtual 266, 38, 67, 1, .null) := by decide +kernel
theorem x_114_35 : Tr sc (d + 1) 114 (35, [l0, l1, l2, l3], [.int i2, .ref k1, .ref k0], h) Q = (okp h k1 6 = true ∧ Tr sc d 67 (ent0 67 [.ref k1, .int i2] h) (fun z => Tr sc (d + 1) 114 (38, [l0, l1, l2, l3], z.1.toList ++ [.ref k0], z.2) Q)) := t_cv (as := [.int i2]) (r := [.ref k0]) k_114_35 rfl rfl (Nat.le_of_ble_eq_true rfl) (Nat.le_of_ble_eq_true rfl) (Nat.le_of_ble_eq_true rfl)
theorem k_114_38 : lk 114 38 = some (.putfield 101, 41, 9, 16, .long 0) := by decide +kernel
theorem x_114_38 : Tr sc d 114 (38, [l0, l1, l2, l3], [.long j1, .ref k0], h) Q = (okp h k0 9 = true ∧ Tr sc d 114 (41, [l0, l1, l2, l3], [], (sL h k0 16 j1)) Q) := t_gd k_114_38 rfl
theorem k_114_41 : lk 114 41 = some (.iconst 1, 42, 0, 0, .int 1) := by decide +kernel
theorem x_114_41 : Tr sc d 114 (41, [l0, l1, l2, l3], [], h) Q = Tr sc d 114 (42, [l0, l1, l2, l3], [.int 1], h) Q := t_go k_114_41 rfl
theorem k_114_42 : lk 114 42 = some (.ireturn, 43, 0, 0, .null) := by decide +kernel
theorem x_114_42 : Tr sc d 114 (42, [l0, l1, l2, l3], [.int i0], h) Q = Q (some (.int i0), h) := t_ret k_114_42 (by rw [r_114]; rfl)
theorem e_114 : Tr sc d 114 (ent0 114 [.ref k0, .int i1, .int i2] h) Q = Tr sc d 114 (0, [some (.ref k0), some (.int i1), some (.int i2), none], [], h) Q := by
  have e : mL 114 = 4 := by decide +kernel
  unfold ent0
  rw [e]
  rfl
theorem r_115 : mR 115 = some .int := by decide +kernel
theorem k_115_0 : lk 115 0 = some (.aload_n 0, 1, 0, 0, .null) := by decide +kernel
theorem x_115_0 : Tr sc d 115 (0, [some (.ref xk), l1, l2, l3], [], h) Q = Tr sc d 115 (1, [some (.ref xk), l1, l2, l3], [.ref xk], h) Q := t_aload_n k_115_0 rfl
theorem k_115_1 : lk 115 1 = some (.iload_n 1, 2, 1, 0, .null) := by decide +kernel
theorem x_115_1 : Tr sc d 115 (1, [l0, some (.int x), l2, l3], [.ref k0], h) Q = Tr sc d 115 (2, [l0, some (.int x), l2, l3], [.int x, .ref k0], h) Q := t_iload_n k_115_1 rfl
theorem k_115_2 : lk 115 2 = some (.iload_n 2, 3, 2, 0, .null) := by decide +kernel
theorem x_115_2 : Tr sc d 115 (2, [l0, l1, some (.int x), l3], [.int i1, .ref k0], h) Q = Tr sc d 115 (3, [l0, l1, some (.int x), l3], [.int x, .int i1, .ref k0], h) Q := t_iload_n k_115_2 rfl
theorem k_115_3 : lk 115 3 = some (.iconst 5, 4, 0, 0, .int 5) := by decide +kernel
theorem x_115_3 : Tr sc d 115 (3, [l0, l1, l2, l3], [.int i2, .int i1, .ref k0], h) Q = Tr sc d 115 (4, [l0, l1, l2, l3], [.int 5, .int i2, .int i1, .ref k0], h) Q := t_go k_115_3 rfl
theorem k_115_4 : lk 115 4 = some (.invokestatic 270, 7, 143, 2, .null) := by decide +kernel
theorem x_115_4 : Tr sc (d + 1) 115 (4, [l0, l1, l2, l3], [.int i3, .int i2, .int i1, .ref k0], h) Q = Tr sc d 143 (ent0 143 [.int i2, .int i3] h) (fun z => Tr sc (d + 1) 115 (7, [l0, l1, l2, l3], z.1.toList ++ [.int i1, .ref k0], z.2) Q) := t_cs (as := [.int i2, .int i3]) (r := [.int i1, .ref k0]) k_115_4 (by decide) rfl rfl (Nat.le_of_ble_eq_true rfl) (Nat.le_of_ble_eq_true rfl)
theorem k_115_7 : lk 115 7 = some (.invokevirtual 196, 10, 145, 2, .null) := by decide +kernel
theorem x_115_7 : Tr sc (d + 1) 115 (7, [l0, l1, l2, l3], [.int i2, .int i1, .ref k0], h) Q = (okp h k0 9 = true ∧ Tr sc d 145 (ent0 145 [.ref k0, .int i1, .int i2] h) (fun z => Tr sc (d + 1) 115 (10, [l0, l1, l2, l3], z.1.toList ++ [], z.2) Q)) := t_cv (as := [.int i1, .int i2]) (r := []) k_115_7 rfl rfl (Nat.le_of_ble_eq_true rfl) (Nat.le_of_ble_eq_true rfl) (Nat.le_of_ble_eq_true rfl)
theorem k_115_10 : lk 115 10 = some (.istore_n 3, 11, 3, 0, .null) := by decide +kernel
theorem x_115_10 : Tr sc d 115 (10, [l0, l1, l2, l3], [.int i0], h) Q = Tr sc d 115 (11, [l0, l1, cl2 l2, some (.int i0)], [], h) Q := t_istore_n k_115_10 (Nat.le_of_ble_eq_true rfl)
theorem k_115_11 : lk 115 11 = some (.iload_n 3, 12, 3, 0, .null) := by decide +kernel
theorem x_115_11 : Tr sc d 115 (11, [l0, l1, l2, some (.int x)], [], h) Q = Tr sc d 115 (12, [l0, l1, l2, some (.int x)], [.int x], h) Q := t_iload_n k_115_11 rfl
theorem k_115_12 : lk 115 12 = some (.ifCond .eq 5, 15, 17, 0, .null) := by decide +kernel
theorem x_115_12 : Tr sc d 115 (12, [l0, l1, l2, l3], [.int i0], h) Q = if i0 = 0 then Tr sc d 115 (17, [l0, l1, l2, l3], [], h) Q else Tr sc d 115 (15, [l0, l1, l2, l3], [], h) Q := t_if k_115_12 rfl
theorem k_115_15 : lk 115 15 = some (.iload_n 3, 16, 3, 0, .null) := by decide +kernel
theorem x_115_15 : Tr sc d 115 (15, [l0, l1, l2, some (.int x)], [], h) Q = Tr sc d 115 (16, [l0, l1, l2, some (.int x)], [.int x], h) Q := t_iload_n k_115_15 rfl
theorem k_115_16 : lk 115 16 = some (.ireturn, 17, 0, 0, .null) := by decide +kernel
theorem x_115_16 : Tr sc d 115 (16, [l0, l1, l2, l3], [.int i0], h) Q = Q (some (.int i0), h) := t_ret k_115_16 (by rw [r_115]; rfl)
theorem k_115_17 : lk 115 17 = some (.aload_n 0, 18, 0, 0, .null) := by decide +kernel
theorem x_115_17 : Tr sc d 115 (17, [some (.ref xk), l1, l2, l3], [], h) Q = Tr sc d 115 (18, [some (.ref xk), l1, l2, l3], [.ref xk], h) Q := t_aload_n k_115_17 rfl
theorem k_115_18 : lk 115 18 = some (.getfield 51, 21, 9, 7, .null) := by decide +kernel
theorem x_115_18 : Tr sc d 115 (18, [l0, l1, l2, l3], [.ref k0], h) Q = (okp h k0 9 = true ∧ ∃ q, hR h k0 7 = some q ∧ Tr sc d 115 (21, [l0, l1, l2, l3], [.ref q], h) Q) := t_getr k_115_18
theorem k_115_21 : lk 115 21 = some (.aload_n 0, 22, 0, 0, .null) := by decide +kernel
theorem x_115_21 : Tr sc d 115 (21, [some (.ref xk), l1, l2, l3], [.ref k0], h) Q = Tr sc d 115 (22, [some (.ref xk), l1, l2, l3], [.ref xk, .ref k0], h) Q := t_aload_n k_115_21 rfl
theorem k_115_22 : lk 115 22 = some (.getfield 20, 25, 9, 2, .null) := by decide +kernel
theorem x_115_22 : Tr sc d 115 (22, [l0, l1, l2, l3], [.ref k1, .ref k0], h) Q = (okp h k1 9 = true ∧ ∃ q, hR h k1 2 = some q ∧ Tr sc d 115 (25, [l0, l1, l2, l3], [.ref q, .ref k0], h) Q) := t_getr k_115_22
theorem k_115_25 : lk 115 25 = some (.iload_n 1, 26, 1, 0, .null) := by decide +kernel
theorem x_115_25 : Tr sc d 115 (25, [l0, some (.int x), l2, l3], [.ref k1, .ref k0], h) Q = Tr sc d 115 (26, [l0, some (.int x), l2, l3], [.int x, .ref k1, .ref k0], h) Q := t_iload_n k_115_25 rfl
theorem k_115_26 : lk 115 26 = some (.aaload, 27, 0, 0, .null) := by decide +kernel
theorem x_115_26 : Tr sc d 115 (26, [l0, l1, l2, l3], [.int i2, .ref k1, .ref k0], h) Q = (((okp h k1 14 || okp h k1 15) && inb i2 (LN k1)) = true ∧ ∃ q, hR h k1 i2.toNatClampNeg = some q ∧ Tr sc d 115 (27, [l0, l1, l2, l3], [.ref q, .ref k0], h) Q) := t_aald k_115_26
theorem k_115_27 : lk 115 27 = some (.iload_n 2, 28, 2, 0, .null) := by decide +kernel
theorem x_115_27 : Tr sc d 115 (27, [l0, l1, some (.int x), l3], [.ref k1, .ref k0], h) Q = Tr sc d 115 (28, [l0, l1, some (.int x), l3], [.int x, .ref k1, .ref k0], h) Q := t_iload_n k_115_27 rfl
theorem k_115_28 : lk 115 28 = some (.invokevirtual 273, 31, 10, 2, .null) := by decide +kernel
theorem x_115_28 : Tr sc (d + 1) 115 (28, [l0, l1, l2, l3], [.int i2, .ref k1, .ref k0], h) Q = (okp h k0 1 = true ∧ Tr sc d 10 (ent0 10 [.ref k0, .ref k1, .int i2] h) (fun z => Tr sc (d + 1) 115 (31, [l0, l1, l2, l3], z.1.toList ++ [], z.2) Q)) := t_cv (as := [.ref k1, .int i2]) (r := []) k_115_28 rfl rfl (Nat.le_of_ble_eq_true rfl) (Nat.le_of_ble_eq_true rfl) (Nat.le_of_ble_eq_true rfl)
theorem k_115_31 : lk 115 31 = some (.aload_n 0, 32, 0, 0, .null) := by decide +kernel
theorem x_115_31 : Tr sc d 115 (31, [some (.ref xk), l1, l2, l3], [], h) Q = Tr sc d 115 (32, [some (.ref xk), l1, l2, l3], [.ref xk], h) Q := t_aload_n k_115_31 rfl
theorem k_115_32 : lk 115 32 = some (.aload_n 0, 33, 0, 0, .null) := by decide +kernel
theorem x_115_32 : Tr sc d 115 (32, [some (.ref xk), l1, l2, l3], [.ref k0], h) Q = Tr sc d 115 (33, [some (.ref xk), l1, l2, l3], [.ref xk, .ref k0], h) Q := t_aload_n k_115_32 rfl
theorem k_115_33 : lk 115 33 = some (.getfield 51, 36, 9, 7, .null) := by decide +kernel
theorem x_115_33 : Tr sc d 115 (33, [l0, l1, l2, l3], [.ref k1, .ref k0], h) Q = (okp h k1 9 = true ∧ ∃ q, hR h k1 7 = some q ∧ Tr sc d 115 (36, [l0, l1, l2, l3], [.ref q, .ref k0], h) Q) := t_getr k_115_33
theorem k_115_36 : lk 115 36 = some (.getfield 277, 39, 1, 5, .int 0) := by decide +kernel
theorem x_115_36 : Tr sc d 115 (36, [l0, l1, l2, l3], [.ref k1, .ref k0], h) Q = (okp h k1 1 = true ∧ Tr sc d 115 (39, [l0, l1, l2, l3], [.int (hI h k1 5), .ref k0], h) Q) := t_gd k_115_36 rfl
theorem k_115_39 : lk 115 39 = some (.putfield 98, 42, 9, 15, .int 0) := by decide +kernel
theorem x_115_39 : Tr sc d 115 (39, [l0, l1, l2, l3], [.int i1, .ref k0], h) Q = (okp h k0 9 = true ∧ Tr sc d 115 (42, [l0, l1, l2, l3], [], (sI h k0 15 i1)) Q) := t_gd k_115_39 rfl
theorem k_115_42 : lk 115 42 = some (.aload_n 0, 43, 0, 0, .null) := by decide +kernel
theorem x_115_42 : Tr sc d 115 (42, [some (.ref xk), l1, l2, l3], [], h) Q = Tr sc d 115 (43, [some (.ref xk), l1, l2, l3], [.ref xk], h) Q := t_aload_n k_115_42 rfl
theorem k_115_43 : lk 115 43 = some (.getfield 51, 46, 9, 7, .null) := by decide +kernel
theorem x_115_43 : Tr sc d 115 (43, [l0, l1, l2, l3], [.ref k0], h) Q = (okp h k0 9 = true ∧ ∃ q, hR h k0 7 = some q ∧ Tr sc d 115 (46, [l0, l1, l2, l3], [.ref q], h) Q) := t_getr k_115_43
theorem k_115_46 : lk 115 46 = some (.getfield 280, 49, 1, 4, .int 0) := by decide +kernel
theorem x_115_46 : Tr sc d 115 (46, [l0, l1, l2, l3], [.ref k0], h) Q = (okp h k0 1 = true ∧ Tr sc d 115 (49, [l0, l1, l2, l3], [.int (hI h k0 4)], h) Q) := t_gd k_115_46 rfl
theorem k_115_49 : lk 115 49 = some (.ireturn, 50, 0, 0, .null) := by decide +kernel
theorem x_115_49 : Tr sc d 115 (49, [l0, l1, l2, l3], [.int i0], h) Q = Q (some (.int i0), h) := t_ret k_115_49 (by rw [r_115]; rfl)
theorem e_115 : Tr sc d 115 (ent0 115 [.ref k0, .int i1, .int i2] h) Q = Tr sc d 115 (0, [some (.ref k0), some (.int i1), some (.int i2), none], [], h) Q := by
  have e : mL 115 = 4 := by decide +kernel
  unfold ent0
  rw [e]
  rfl
theorem r_116 : mR 116 = some .int := by decide +kernel
theorem k_116_0 : lk 116 0 = some (.aload_n 0, 1, 0, 0, .null) := by decide +kernel
theorem x_116_0 : Tr sc d 116 (0, [some (.ref xk), l1, l2, l3, l4, l5, l6], [], h) Q = Tr sc d 116 (1, [some (.ref xk), l1, l2, l3, l4, l5, l6], [.ref xk], h) Q := t_aload_n k_116_0 rfl
theorem k_116_1 : lk 116 1 = some (.iload_n 1, 2, 1, 0, .null) := by decide +kernel
theorem x_116_1 : Tr sc d 116 (1, [l0, some (.int x), l2, l3, l4, l5, l6], [.ref k0], h) Q = Tr sc d 116 (2, [l0, some (.int x), l2, l3, l4, l5, l6], [.int x, .ref k0], h) Q := t_iload_n k_116_1 rfl
theorem k_116_2 : lk 116 2 = some (.iload_n 2, 3, 2, 0, .null) := by decide +kernel
theorem x_116_2 : Tr sc d 116 (2, [l0, l1, some (.int x), l3, l4, l5, l6], [.int i1, .ref k0], h) Q = Tr sc d 116 (3, [l0, l1, some (.int x), l3, l4, l5, l6], [.int x, .int i1, .ref k0], h) Q := t_iload_n k_116_2 rfl
theorem k_116_3 : lk 116 3 = some (.iconst 5, 4, 0, 0, .int 5) := by decide +kernel
theorem x_116_3 : Tr sc d 116 (3, [l0, l1, l2, l3, l4, l5, l6], [.int i2, .int i1, .ref k0], h) Q = Tr sc d 116 (4, [l0, l1, l2, l3, l4, l5, l6], [.int 5, .int i2, .int i1, .ref k0], h) Q := t_go k_116_3 rfl
theorem k_116_4 : lk 116 4 = some (.invokestatic 270, 7, 143, 2, .null) := by decide +kernel
theorem x_116_4 : Tr sc (d + 1) 116 (4, [l0, l1, l2, l3, l4, l5, l6], [.int i3, .int i2, .int i1, .ref k0], h) Q = Tr sc d 143 (ent0 143 [.int i2, .int i3] h) (fun z => Tr sc (d + 1) 116 (7, [l0, l1, l2, l3, l4, l5, l6], z.1.toList ++ [.int i1, .ref k0], z.2) Q) := t_cs (as := [.int i2, .int i3]) (r := [.int i1, .ref k0]) k_116_4 (by decide) rfl rfl (Nat.le_of_ble_eq_true rfl) (Nat.le_of_ble_eq_true rfl)
theorem k_116_7 : lk 116 7 = some (.invokevirtual 196, 10, 145, 2, .null) := by decide +kernel
theorem x_116_7 : Tr sc (d + 1) 116 (7, [l0, l1, l2, l3, l4, l5, l6], [.int i2, .int i1, .ref k0], h) Q = (okp h k0 9 = true ∧ Tr sc d 145 (ent0 145 [.ref k0, .int i1, .int i2] h) (fun z => Tr sc (d + 1) 116 (10, [l0, l1, l2, l3, l4, l5, l6], z.1.toList ++ [], z.2) Q)) := t_cv (as := [.int i1, .int i2]) (r := []) k_116_7 rfl rfl (Nat.le_of_ble_eq_true rfl) (Nat.le_of_ble_eq_true rfl) (Nat.le_of_ble_eq_true rfl)
theorem k_116_10 : lk 116 10 = some (.istore 5, 12, 5, 0, .null) := by decide +kernel
theorem x_116_10 : Tr sc d 116 (10, [l0, l1, l2, l3, l4, l5, l6], [.int i0], h) Q = Tr sc d 116 (12, [l0, l1, l2, l3, cl2 l4, some (.int i0), l6], [], h) Q := t_istore k_116_10 (Nat.le_of_ble_eq_true rfl)
theorem k_116_12 : lk 116 12 = some (.iload 5, 14, 5, 0, .null) := by decide +kernel
theorem x_116_12 : Tr sc d 116 (12, [l0, l1, l2, l3, l4, some (.int x), l6], [], h) Q = Tr sc d 116 (14, [l0, l1, l2, l3, l4, some (.int x), l6], [.int x], h) Q := t_iload k_116_12 rfl
theorem k_116_14 : lk 116 14 = some (.ifCond .eq 6, 17, 20, 0, .null) := by decide +kernel
theorem x_116_14 : Tr sc d 116 (14, [l0, l1, l2, l3, l4, l5, l6], [.int i0], h) Q = if i0 = 0 then Tr sc d 116 (20, [l0, l1, l2, l3, l4, l5, l6], [], h) Q else Tr sc d 116 (17, [l0, l1, l2, l3, l4, l5, l6], [], h) Q := t_if k_116_14 rfl
theorem k_116_17 : lk 116 17 = some (.iload 5, 19, 5, 0, .null) := by decide +kernel
theorem x_116_17 : Tr sc d 116 (17, [l0, l1, l2, l3, l4, some (.int x), l6], [], h) Q = Tr sc d 116 (19, [l0, l1, l2, l3, l4, some (.int x), l6], [.int x], h) Q := t_iload k_116_17 rfl
theorem k_116_19 : lk 116 19 = some (.ireturn, 20, 0, 0, .null) := by decide +kernel
theorem x_116_19 : Tr sc d 116 (19, [l0, l1, l2, l3, l4, l5, l6], [.int i0], h) Q = Q (some (.int i0), h) := t_ret k_116_19 (by rw [r_116]; rfl)
theorem k_116_20 : lk 116 20 = some (.aload_n 0, 21, 0, 0, .null) := by decide +kernel
theorem x_116_20 : Tr sc d 116 (20, [some (.ref xk), l1, l2, l3, l4, l5, l6], [], h) Q = Tr sc d 116 (21, [some (.ref xk), l1, l2, l3, l4, l5, l6], [.ref xk], h) Q := t_aload_n k_116_20 rfl
theorem k_116_21 : lk 116 21 = some (.getfield 51, 24, 9, 7, .null) := by decide +kernel
theorem x_116_21 : Tr sc d 116 (21, [l0, l1, l2, l3, l4, l5, l6], [.ref k0], h) Q = (okp h k0 9 = true ∧ ∃ q, hR h k0 7 = some q ∧ Tr sc d 116 (24, [l0, l1, l2, l3, l4, l5, l6], [.ref q], h) Q) := t_getr k_116_21
theorem k_116_24 : lk 116 24 = some (.aload_n 0, 25, 0, 0, .null) := by decide +kernel
theorem x_116_24 : Tr sc d 116 (24, [some (.ref xk), l1, l2, l3, l4, l5, l6], [.ref k0], h) Q = Tr sc d 116 (25, [some (.ref xk), l1, l2, l3, l4, l5, l6], [.ref xk, .ref k0], h) Q := t_aload_n k_116_24 rfl
theorem k_116_25 : lk 116 25 = some (.getfield 20, 28, 9, 2, .null) := by decide +kernel
theorem x_116_25 : Tr sc d 116 (25, [l0, l1, l2, l3, l4, l5, l6], [.ref k1, .ref k0], h) Q = (okp h k1 9 = true ∧ ∃ q, hR h k1 2 = some q ∧ Tr sc d 116 (28, [l0, l1, l2, l3, l4, l5, l6], [.ref q, .ref k0], h) Q) := t_getr k_116_25
theorem k_116_28 : lk 116 28 = some (.iload_n 1, 29, 1, 0, .null) := by decide +kernel
theorem x_116_28 : Tr sc d 116 (28, [l0, some (.int x), l2, l3, l4, l5, l6], [.ref k1, .ref k0], h) Q = Tr sc d 116 (29, [l0, some (.int x), l2, l3, l4, l5, l6], [.int x, .ref k1, .ref k0], h) Q := t_iload_n k_116_28 rfl
theorem k_116_29 : lk 116 29 = some (.aaload, 30, 0, 0, .null) := by decide +kernel
theorem x_116_29 : Tr sc d 116 (29, [l0, l1, l2, l3, l4, l5, l6], [.int i2, .ref k1, .ref k0], h) Q = (((okp h k1 14 || okp h k1 15) && inb i2 (LN k1)) = true ∧ ∃ q, hR h k1 i2.toNatClampNeg = some q ∧ Tr sc d 116 (30, [l0, l1, l2, l3, l4, l5, l6], [.ref q, .ref k0], h) Q) := t_aald k_116_29
theorem k_116_30 : lk 116 30 = some (.iload_n 2, 31, 2, 0, .null) := by decide +kernel
theorem x_116_30 : Tr sc d 116 (30, [l0, l1, some (.int x), l3, l4, l5, l6], [.ref k1, .ref k0], h) Q = Tr sc d 116 (31, [l0, l1, some (.int x), l3, l4, l5, l6], [.int x, .ref k1, .ref k0], h) Q := t_iload_n k_116_30 rfl
theorem k_116_31 : lk 116 31 = some (.invokevirtual 273, 34, 10, 2, .null) := by decide +kernel
theorem x_116_31 : Tr sc (d + 1) 116 (31, [l0, l1, l2, l3, l4, l5, l6], [.int i2, .ref k1, .ref k0], h) Q = (okp h k0 1 = true ∧ Tr sc d 10 (ent0 10 [.ref k0, .ref k1, .int i2] h) (fun z => Tr sc (d + 1) 116 (34, [l0, l1, l2, l3, l4, l5, l6], z.1.toList ++ [], z.2) Q)) := t_cv (as := [.ref k1, .int i2]) (r := []) k_116_31 rfl rfl (Nat.le_of_ble_eq_true rfl) (Nat.le_of_ble_eq_true rfl) (Nat.le_of_ble_eq_true rfl)
theorem k_116_34 : lk 116 34 = some (.aload_n 0, 35, 0, 0, .null) := by decide +kernel
theorem x_116_34 : Tr sc d 116 (34, [some (.ref xk), l1, l2, l3, l4, l5, l6], [], h) Q = Tr sc d 116 (35, [some (.ref xk), l1, l2, l3, l4, l5, l6], [.ref xk], h) Q := t_aload_n k_116_34 rfl
theorem k_116_35 : lk 116 35 = some (.getfield 51, 38, 9, 7, .null) := by decide +kernel
theorem x_116_35 : Tr sc d 116 (35, [l0, l1, l2, l3, l4, l5, l6], [.ref k0], h) Q = (okp h k0 9 = true ∧ ∃ q, hR h k0 7 = some q ∧ Tr sc d 116 (38, [l0, l1, l2, l3, l4, l5, l6], [.ref q], h) Q) := t_getr k_116_35
theorem k_116_38 : lk 116 38 = some (.iload_n 3, 39, 3, 0, .null) := by decide +kernel
theorem x_116_38 : Tr sc d 116 (38, [l0, l1, l2, some (.int x), l4, l5, l6], [.ref k0], h) Q = Tr sc d 116 (39, [l0, l1, l2, some (.int x), l4, l5, l6], [.int x, .ref k0], h) Q := t_iload_n k_116_38 rfl
theorem k_116_39 : lk 116 39 = some (.iload 4, 41, 4, 0, .null) := by decide +kernel
theorem x_116_39 : Tr sc d 116 (39, [l0, l1, l2, l3, some (.int x), l5, l6], [.int i1, .ref k0], h) Q = Tr sc d 116 (41, [l0, l1, l2, l3, some (.int x), l5, l6], [.int x, .int i1, .ref k0], h) Q := t_iload k_116_39 rfl
theorem k_116_41 : lk 116 41 = some (.invokevirtual 281, 44, 17, 2, .null) := by decide +kernel
theorem x_116_41 : Tr sc (d + 1) 116 (41, [l0, l1, l2, l3, l4, l5, l6], [.int i2, .int i1, .ref k0], h) Q = (okp h k0 1 = true ∧ Tr sc d 17 (ent0 17 [.ref k0, .int i1, .int i2] h) (fun z => Tr sc (d + 1) 116 (44, [l0, l1, l2, l3, l4, l5, l6], z.1.toList ++ [], z.2) Q)) := t_cv (as := [.int i1, .int i2]) (r := []) k_116_41 rfl rfl (Nat.le_of_ble_eq_true rfl) (Nat.le_of_ble_eq_true rfl) (Nat.le_of_ble_eq_true rfl)
theorem k_116_44 : lk 116 44 = some (.istore 6, 46, 6, 0, .null) := by decide +kernel
theorem x_116_44 : Tr sc d 116 (44, [l0, l1, l2, l3, l4, l5, l6], [.int i0], h) Q = Tr sc d 116 (46, [l0, l1, l2, l3, l4, cl2 l5, some (.int i0)], [], h) Q := t_istore k_116_44 (Nat.le_of_ble_eq_true rfl)
theorem k_116_46 : lk 116 46 = some (.iload 6, 48, 6, 0, .null) := by decide +kernel
theorem x_116_46 : Tr sc d 116 (46, [l0, l1, l2, l3, l4, l5, some (.int x)], [], h) Q = Tr sc d 116 (48, [l0, l1, l2, l3, l4, l5, some (.int x)], [.int x], h) Q := t_iload k_116_46 rfl
theorem k_116_48 : lk 116 48 = some (.ifCond .ge 7, 51, 55, 0, .null) := by decide +kernel
theorem x_116_48 : Tr sc d 116 (48, [l0, l1, l2, l3, l4, l5, l6], [.int i0], h) Q = if 0 ≤ i0 then Tr sc d 116 (55, [l0, l1, l2, l3, l4, l5, l6], [], h) Q else Tr sc d 116 (51, [l0, l1, l2, l3, l4, l5, l6], [], h) Q := t_if k_116_48 rfl
theorem k_116_51 : lk 116 51 = some (.iconst 0, 52, 0, 0, .int 0) := by decide +kernel
theorem x_116_51 : Tr sc d 116 (51, [l0, l1, l2, l3, l4, l5, l6], [], h) Q = Tr sc d 116 (52, [l0, l1, l2, l3, l4, l5, l6], [.int 0], h) Q := t_go k_116_51 rfl
theorem k_116_52 : lk 116 52 = some (.goto 13, 55, 65, 0, .null) := by decide +kernel
theorem x_116_52 : Tr sc d 116 (52, [l0, l1, l2, l3, l4, l5, l6], [.int i0], h) Q = Tr sc d 116 (65, [l0, l1, l2, l3, l4, l5, l6], [.int i0], h) Q := t_go k_116_52 rfl
theorem k_116_55 : lk 116 55 = some (.aload_n 0, 56, 0, 0, .null) := by decide +kernel
theorem x_116_55 : Tr sc d 116 (55, [some (.ref xk), l1, l2, l3, l4, l5, l6], [], h) Q = Tr sc d 116 (56, [some (.ref xk), l1, l2, l3, l4, l5, l6], [.ref xk], h) Q := t_aload_n k_116_55 rfl
theorem k_116_56 : lk 116 56 = some (.getfield 51, 59, 9, 7, .null) := by decide +kernel
theorem x_116_56 : Tr sc d 116 (56, [l0, l1, l2, l3, l4, l5, l6], [.ref k0], h) Q = (okp h k0 9 = true ∧ ∃ q, hR h k0 7 = some q ∧ Tr sc d 116 (59, [l0, l1, l2, l3, l4, l5, l6], [.ref q], h) Q) := t_getr k_116_56
theorem k_116_59 : lk 116 59 = some (.getfield 285, 62, 1, 1, .null) := by decide +kernel
theorem x_116_59 : Tr sc d 116 (59, [l0, l1, l2, l3, l4, l5, l6], [.ref k0], h) Q = (okp h k0 1 = true ∧ ∃ q, hR h k0 1 = some q ∧ Tr sc d 116 (62, [l0, l1, l2, l3, l4, l5, l6], [.ref q], h) Q) := t_getr k_116_59
theorem k_116_62 : lk 116 62 = some (.iload 6, 64, 6, 0, .null) := by decide +kernel
theorem x_116_62 : Tr sc d 116 (62, [l0, l1, l2, l3, l4, l5, some (.int x)], [.ref k0], h) Q = Tr sc d 116 (64, [l0, l1, l2, l3, l4, l5, some (.int x)], [.int x, .ref k0], h) Q := t_iload k_116_62 rfl
theorem k_116_64 : lk 116 64 = some (.iaload, 65, 0, 0, .null) := by decide +kernel
theorem x_116_64 : Tr sc d 116 (64, [l0, l1, l2, l3, l4, l5, l6], [.int i1, .ref k0], h) Q = (iOk sc h k0 i1 ∧ Tr sc d 116 (65, [l0, l1, l2, l3, l4, l5, l6], [.int (iRd sc h k0 i1)], h) Q) := t_iald k_116_64
theorem k_116_65 : lk 116 65 = some (.ireturn, 66, 0, 0, .null) := by decide +kernel
theorem x_116_65 : Tr sc d 116 (65, [l0, l1, l2, l3, l4, l5, l6], [.int i0], h) Q = Q (some (.int i0), h) := t_ret k_116_65 (by rw [r_116]; rfl)
theorem e_116 : Tr sc d 116 (ent0 116 [.ref k0, .int i1, .int i2, .int i3, .int i4] h) Q = Tr sc d 116 (0, [some (.ref k0), some (.int i1), some (.int i2), some (.int i3), some (.int i4), none, none], [], h) Q := by
  have e : mL 116 = 7 := by decide +kernel
  unfold ent0
  rw [e]
  rfl
theorem r_117 : mR 117 = some .int := by decide +kernel
theorem k_117_0 : lk 117 0 = some (.aload_n 0, 1, 0, 0, .null) := by decide +kernel
theorem x_117_0 : Tr sc d 117 (0, [some (.ref xk), l1, l2, l3, l4], [], h) Q = Tr sc d 117 (1, [some (.ref xk), l1, l2, l3, l4], [.ref xk], h) Q := t_aload_n k_117_0 rfl
theorem k_117_1 : lk 117 1 = some (.iload_n 1, 2, 1, 0, .null) := by decide +kernel
theorem x_117_1 : Tr sc d 117 (1, [l0, some (.int x), l2, l3, l4], [.ref k0], h) Q = Tr sc d 117 (2, [l0, some (.int x), l2, l3, l4], [.int x, .ref k0], h) Q := t_iload_n k_117_1 rfl
theorem k_117_2 : lk 117 2 = some (.iload_n 2, 3, 2, 0, .null) := by decide +kernel
theorem x_117_2 : Tr sc d 117 (2, [l0, l1, some (.int x), l3, l4], [.int i1, .ref k0], h) Q = Tr sc d 117 (3, [l0, l1, some (.int x), l3, l4], [.int x, .int i1, .ref k0], h) Q := t_iload_n k_117_2 rfl
theorem k_117_3 : lk 117 3 = some (.iconst 5, 4, 0, 0, .int 5) := by decide +kernel
theorem x_117_3 : Tr sc d 117 (3, [l0, l1, l2, l3, l4], [.int i2, .int i1, .ref k0], h) Q = Tr sc d 117 (4, [l0, l1, l2, l3, l4], [.int 5, .int i2, .int i1, .ref k0], h) Q := t_go k_117_3 rfl
theorem k_117_4 : lk 117 4 = some (.invokestatic 270, 7, 143, 2, .null) := by decide +kernel
theorem x_117_4 : Tr sc (d + 1) 117 (4, [l0, l1, l2, l3, l4], [.int i3, .int i2, .int i1, .ref k0], h) Q = Tr sc d 143 (ent0 143 [.int i2, .int i3] h) (fun z => Tr sc (d + 1) 117 (7, [l0, l1, l2, l3, l4], z.1.toList ++ [.int i1, .ref k0], z.2) Q) := t_cs (as := [.int i2, .int i3]) (r := [.int i1, .ref k0]) k_117_4 (by decide) rfl rfl (Nat.le_of_ble_eq_true rfl) (Nat.le_of_ble_eq_true rfl)
theorem k_117_7 : lk 117 7 = some (.ifCond .eq 16, 10, 23, 0, .null) := by decide +kernel
theorem x_117_7 : Tr sc d 117 (7, [l0, l1, l2, l3, l4], [.int i2, .int i1, .ref k0], h) Q = if i2 = 0 then Tr sc d 117 (23, [l0, l1, l2, l3, l4], [.int i1, .ref k0], h) Q else Tr sc d 117 (10, [l0, l1, l2, l3, l4], [.int i1, .ref k0], h) Q := t_if k_117_7 rfl
theorem k_117_10 : lk 117 10 = some (.iload_n 3, 11, 3, 0, .null) := by decide +kernel
theorem x_117_10 : Tr sc d 117 (10, [l0, l1, l2, some (.int x), l4], [.int i1, .ref k0], h) Q = Tr sc d 117 (11, [l0, l1, l2, some (.int x), l4], [.int x, .int i1, .ref k0], h) Q := t_iload_n k_117_10 rfl
theorem k_117_11 : lk 117 11 = some (.ifCond .lt 12, 14, 23, 0, .null) := by decide +kernel
theorem x_117_11 : Tr sc d 117 (11, [l0, l1, l2, l3, l4], [.int i2, .int i1, .ref k0], h) Q = if i2 < 0 then Tr sc d 117 (23, [l0, l1, l2, l3, l4], [.int i1, .ref k0], h) Q else Tr sc d 117 (14, [l0, l1, l2, l3, l4], [.int i1, .ref k0], h) Q := t_if k_117_11 rfl
theorem k_117_14 : lk 117 14 = some (.iload_n 3, 15, 3, 0, .null) := by decide +kernel
theorem x_117_14 : Tr sc d 117 (14, [l0, l1, l2, some (.int x), l4], [.int i1, .ref k0], h) Q = Tr sc d 117 (15, [l0, l1, l2, some (.int x), l4], [.int x, .int i1, .ref k0], h) Q := t_iload_n k_117_14 rfl
theorem k_117_15 : lk 117 15 = some (.iconst 3, 16, 0, 0, .int 3) := by decide +kernel
theorem x_117_15 : Tr sc d 117 (15, [l0, l1, l2, l3, l4], [.int i2, .int i1, .ref k0], h) Q = Tr sc d 117 (16, [l0, l1, l2, l3, l4], [.int 3, .int i2, .int i1, .ref k0], h) Q := t_go k_117_15 rfl
theorem k_117_16 : lk 117 16 = some (.if_icmp .gt 7, 19, 23, 0, .null) := by decide +kernel
theorem x_117_16 : Tr sc d 117 (16, [l0, l1, l2, l3, l4], [.int i3, .int i2, .int i1, .ref k0], h) Q = if i3 < i2 then Tr sc d 117 (23, [l0, l1, l2, l3, l4], [.int i1, .ref k0], h) Q else Tr sc d 117 (19, [l0, l1, l2, l3, l4], [.int i1, .ref k0], h) Q := t_if k_117_16 rfl
theorem k_117_19 : lk 117 19 = some (.iconst 1, 20, 0, 0, .int 1) := by decide +kernel
theorem x_117_19 : Tr sc d 117 (19, [l0, l1, l2, l3, l4], [.int i1, .ref k0], h) Q = Tr sc d 117 (20, [l0, l1, l2, l3, l4], [.int 1, .int i1, .ref k0], h) Q := t_go k_117_19 rfl
theorem k_117_20 : lk 117 20 = some (.goto 4, 23, 24, 0, .null) := by decide +kernel
theorem x_117_20 : Tr sc d 117 (20, [l0, l1, l2, l3, l4], [.int i2, .int i1, .ref k0], h) Q = Tr sc d 117 (24, [l0, l1, l2, l3, l4], [.int i2, .int i1, .ref k0], h) Q := t_go k_117_20 rfl
theorem k_117_23 : lk 117 23 = some (.iconst 0, 24, 0, 0, .int 0) := by decide +kernel
theorem x_117_23 : Tr sc d 117 (23, [l0, l1, l2, l3, l4], [.int i1, .ref k0], h) Q = Tr sc d 117 (24, [l0, l1, l2, l3, l4], [.int 0, .int i1, .ref k0], h) Q := t_go k_117_23 rfl
theorem k_117_24 : lk 117 24 = some (.invokevirtual 196, 27, 145, 2, .null) := by decide +kernel
theorem x_117_24 : Tr sc (d + 1) 117 (24, [l0, l1, l2, l3, l4], [.int i2, .int i1, .ref k0], h) Q = (okp h k0 9 = true ∧ Tr sc d 145 (ent0 145 [.ref k0, .int i1, .int i2] h) (fun z => Tr sc (d + 1) 117 (27, [l0, l1, l2, l3, l4], z.1.toList ++ [], z.2) Q)) := t_cv (as := [.int i1, .int i2]) (r := []) k_117_24 rfl rfl (Nat.le_of_ble_eq_true rfl) (Nat.le_of_ble_eq_true rfl) (Nat.le_of_ble_eq_true rfl)
theorem k_117_27 : lk 117 27 = some (.istore 4, 29, 4, 0, .null) := by decide +kernel
theorem x_117_27 : Tr sc d 117 (27, [l0, l1, l2, l3, l4], [.int i0], h) Q = Tr sc d 117 (29, [l0, l1, l2, cl2 l3, some (.int i0)], [], h) Q := t_istore k_117_27 (Nat.le_of_ble_eq_true rfl)
theorem k_117_29 : lk 117 29 = some (.iload 4, 31, 4, 0, .null) := by decide +kernel
theorem x_117_29 : Tr sc d 117 (29, [l0, l1, l2, l3, some (.int x)], [], h) Q = Tr sc d 117 (31, [l0, l1, l2, l3, some (.int x)], [.int x], h) Q := t_iload k_117_29 rfl
theorem k_117_31 : lk 117 31 = some (.ifCond .eq 6, 34, 37, 0, .null) := by decide +kernel
theorem x_117_31 : Tr sc d 117 (31, [l0, l1, l2, l3, l4], [.int i0], h) Q = if i0 = 0 then Tr sc d 117 (37, [l0, l1, l2, l3, l4], [], h) Q else Tr sc d 117 (34, [l0, l1, l2, l3, l4], [], h) Q := t_if k_117_31 rfl
theorem k_117_34 : lk 117 34 = some (.iload 4, 36, 4, 0, .null) := by decide +kernel
theorem x_117_34 : Tr sc d 117 (34, [l0, l1, l2, l3, some (.int x)], [], h) Q = Tr sc d 117 (36, [l0, l1, l2, l3, some (.int x)], [.int x], h) Q := t_iload k_117_34 rfl
theorem k_117_36 : lk 117 36 = some (.ireturn, 37, 0, 0, .null) := by decide +kernel
theorem x_117_36 : Tr sc d 117 (36, [l0, l1, l2, l3, l4], [.int i0], h) Q = Q (some (.int i0), h) := t_ret k_117_36 (by rw [r_117]; rfl)
theorem k_117_37 : lk 117 37 = some (.aload_n 0, 38, 0, 0, .null) := by decide +kernel
theorem x_117_37 : Tr sc d 117 (37, [some (.ref xk), l1, l2, l3, l4], [], h) Q = Tr sc d 117 (38, [some (.ref xk), l1, l2, l3, l4], [.ref xk], h) Q := t_aload_n k_117_37 rfl
theorem k_117_38 : lk 117 38 = some (.getfield 51, 41, 9, 7, .null) := by decide +kernel
theorem x_117_38 : Tr sc d 117 (38, [l0, l1, l2, l3, l4], [.ref k0], h) Q = (okp h k0 9 = true ∧ ∃ q, hR h k0 7 = some q ∧ Tr sc d 117 (41, [l0, l1, l2, l3, l4], [.ref q], h) Q) := t_getr k_117_38
theorem k_117_41 : lk 117 41 = some (.aload_n 0, 42, 0, 0, .null) := by decide +kernel
theorem x_117_41 : Tr sc d 117 (41, [some (.ref xk), l1, l2, l3, l4], [.ref k0], h) Q = Tr sc d 117 (42, [some (.ref xk), l1, l2, l3, l4], [.ref xk, .ref k0], h) Q := t_aload_n k_117_41 rfl
theorem k_117_42 : lk 117 42 = some (.getfield 20, 45, 9, 2, .null) := by decide +kernel
theorem x_117_42 : Tr sc d 117 (42, [l0, l1, l2, l3, l4], [.ref k1, .ref k0], h) Q = (okp h k1 9 = true ∧ ∃ q, hR h k1 2 = some q ∧ Tr sc d 117 (45, [l0, l1, l2, l3, l4], [.ref q, .ref k0], h) Q) := t_getr k_117_42
theorem k_117_45 : lk 117 45 = some (.iload_n 1, 46, 1, 0, .null) := by decide +kernel
theorem x_117_45 : Tr sc d 117 (45, [l0, some (.int x), l2, l3, l4], [.ref k1, .ref k0], h) Q = Tr sc d 117 (46, [l0, some (.int x), l2, l3, l4], [.int x, .ref k1, .ref k0], h) Q := t_iload_n k_117_45 rfl
theorem k_117_46 : lk 117 46 = some (.aaload, 47, 0, 0, .null) := by decide +kernel
theorem x_117_46 : Tr sc d 117 (46, [l0, l1, l2, l3, l4], [.int i2, .ref k1, .ref k0], h) Q = (((okp h k1 14 || okp h k1 15) && inb i2 (LN k1)) = true ∧ ∃ q, hR h k1 i2.toNatClampNeg = some q ∧ Tr sc d 117 (47, [l0, l1, l2, l3, l4], [.ref q, .ref k0], h) Q) := t_aald k_117_46
theorem k_117_47 : lk 117 47 = some (.iload_n 2, 48, 2, 0, .null) := by decide +kernel
theorem x_117_47 : Tr sc d 117 (47, [l0, l1, some (.int x), l3, l4], [.ref k1, .ref k0], h) Q = Tr sc d 117 (48, [l0, l1, some (.int x), l3, l4], [.int x, .ref k1, .ref k0], h) Q := t_iload_n k_117_47 rfl
theorem k_117_48 : lk 117 48 = some (.invokevirtual 273, 51, 10, 2, .null) := by decide +kernel
theorem x_117_48 : Tr sc (d + 1) 117 (48, [l0, l1, l2, l3, l4], [.int i2, .ref k1, .ref k0], h) Q = (okp h k0 1 = true ∧ Tr sc d 10 (ent0 10 [.ref k0, .ref k1, .int i2] h) (fun z => Tr sc (d + 1) 117 (51, [l0, l1, l2, l3, l4], z.1.toList ++ [], z.2) Q)) := t_cv (as := [.ref k1, .int i2]) (r := []) k_117_48 rfl rfl (Nat.le_of_ble_eq_true rfl) (Nat.le_of_ble_eq_true rfl) (Nat.le_of_ble_eq_true rfl)
theorem k_117_51 : lk 117 51 = some (.aload_n 0, 52, 0, 0, .null) := by decide +kernel
theorem x_117_51 : Tr sc d 117 (51, [some (.ref xk), l1, l2, l3, l4], [], h) Q = Tr sc d 117 (52, [some (.ref xk), l1, l2, l3, l4], [.ref xk], h) Q := t_aload_n k_117_51 rfl
theorem k_117_52 : lk 117 52 = some (.getfield 51, 55, 9, 7, .null) := by decide +kernel
theorem x_117_52 : Tr sc d 117 (52, [l0, l1, l2, l3, l4], [.ref k0], h) Q = (okp h k0 9 = true ∧ ∃ q, hR h k0 7 = some q ∧ Tr sc d 117 (55, [l0, l1, l2, l3, l4], [.ref q], h) Q) := t_getr k_117_52
theorem k_117_55 : lk 117 55 = some (.getfield 280, 58, 1, 4, .int 0) := by decide +kernel
theorem x_117_55 : Tr sc d 117 (55, [l0, l1, l2, l3, l4], [.ref k0], h) Q = (okp h k0 1 = true ∧ Tr sc d 117 (58, [l0, l1, l2, l3, l4], [.int (hI h k0 4)], h) Q) := t_gd k_117_55 rfl
theorem k_117_58 : lk 117 58 = some (.ifCond .ne 9, 61, 67, 0, .null) := by decide +kernel
theorem x_117_58 : Tr sc d 117 (58, [l0, l1, l2, l3, l4], [.int i0], h) Q = if i0 = 0 then Tr sc d 117 (61, [l0, l1, l2, l3, l4], [], h) Q else Tr sc d 117 (67, [l0, l1, l2, l3, l4], [], h) Q := t_if k_117_58 rfl
theorem k_117_61 : lk 117 61 = some (.aload_n 0, 62, 0, 0, .null) := by decide +kernel
theorem x_117_61 : Tr sc d 117 (61, [some (.ref xk), l1, l2, l3, l4], [], h) Q = Tr sc d 117 (62, [some (.ref xk), l1, l2, l3, l4], [.ref xk], h) Q := t_aload_n k_117_61 rfl
theorem k_117_62 : lk 117 62 = some (.iconst 4, 63, 0, 0, .int 4) := by decide +kernel
theorem x_117_62 : Tr sc d 117 (62, [l0, l1, l2, l3, l4], [.ref k0], h) Q = Tr sc d 117 (63, [l0, l1, l2, l3, l4], [.int 4, .ref k0], h) Q := t_go k_117_62 rfl
theorem k_117_63 : lk 117 63 = some (.invokevirtual 118, 66, 144, 1, .null) := by decide +kernel
theorem x_117_63 : Tr sc (d + 1) 117 (63, [l0, l1, l2, l3, l4], [.int i1, .ref k0], h) Q = (okp h k0 9 = true ∧ Tr sc d 144 (ent0 144 [.ref k0, .int i1] h) (fun z => Tr sc (d + 1) 117 (66, [l0, l1, l2, l3, l4], z.1.toList ++ [], z.2) Q)) := t_cv (as := [.int i1]) (r := []) k_117_63 rfl rfl (Nat.le_of_ble_eq_true rfl) (Nat.le_of_ble_eq_true rfl) (Nat.le_of_ble_eq_true rfl)
theorem k_117_66 : lk 117 66 = some (.ireturn, 67, 0, 0, .null) := by decide +kernel
theorem x_117_66 : Tr sc d 117 (66, [l0, l1, l2, l3, l4], [.int i0], h) Q = Q (some (.int i0), h) := t_ret k_117_66 (by rw [r_117]; rfl)
theorem k_117_67 : lk 117 67 = some (.aload_n 0, 68, 0, 0, .null) := by decide +kernel
theorem x_117_67 : Tr sc d 117 (67, [some (.ref xk), l1, l2, l3, l4], [], h) Q = Tr sc d 117 (68, [some (.ref xk), l1, l2, l3, l4], [.ref xk], h) Q := t_aload_n k_117_67 rfl
theorem k_117_68 : lk 117 68 = some (.iload_n 3, 69, 3, 0, .null) := by decide +kernel
theorem x_117_68 : Tr sc d 117 (68, [l0, l1, l2, some (.int x), l4], [.ref k0], h) Q = Tr sc d 117 (69, [l0, l1, l2, some (.int x), l4], [.int x, .ref k0], h) Q := t_iload_n k_117_68 rfl
theorem k_117_69 : lk 117 69 = some (.ifCond .ne 13, 72, 82, 0, .null) := by decide +kernel
theorem x_117_69 : Tr sc d 117 (69, [l0, l1, l2, l3, l4], [.int i1, .ref k0], h) Q = if i1 = 0 then Tr sc d 117 (72, [l0, l1, l2, l3, l4], [.ref k0], h) Q else Tr sc d 117 (82, [l0, l1, l2, l3, l4], [.ref k0], h) Q := t_if k_117_69 rfl
theorem k_117_72 : lk 117 72 = some (.aload_n 0, 73, 0, 0, .null) := by decide +kernel
theorem x_117_72 : Tr sc d 117 (72, [some (.ref xk), l1, l2, l3, l4], [.ref k0], h) Q = Tr sc d 117 (73, [some (.ref xk), l1, l2, l3, l4], [.ref xk, .ref k0], h) Q := t_aload_n k_117_72 rfl
theorem k_117_73 : lk 117 73 = some (.getfield 51, 76, 9, 7, .null) := by decide +kernel
theorem x_117_73 : Tr sc d 117 (73, [l0, l1, l2, l3, l4], [.ref k1, .ref k0], h) Q = (okp h k1 9 = true ∧ ∃ q, hR h k1 7 = some q ∧ Tr sc d 117 (76, [l0, l1, l2, l3, l4], [.ref q, .ref k0], h) Q) := t_getr k_117_73
theorem k_117_76 : lk 117 76 = some (.getfield 288, 79, 1, 6, .int 0) := by decide +kernel
theorem x_117_76 : Tr sc d 117 (76, [l0, l1, l2, l3, l4], [.ref k1, .ref k0], h) Q = (okp h k1 1 = true ∧ Tr sc d 117 (79, [l0, l1, l2, l3, l4], [.int (hI h k1 6), .ref k0], h) Q) := t_gd k_117_76 rfl
theorem k_117_79 : lk 117 79 = some (.goto 40, 82, 119, 0, .null) := by decide +kernel
theorem x_117_79 : Tr sc d 117 (79, [l0, l1, l2, l3, l4], [.int i1, .ref k0], h) Q = Tr sc d 117 (119, [l0, l1, l2, l3, l4], [.int i1, .ref k0], h) Q := t_go k_117_79 rfl
theorem k_117_82 : lk 117 82 = some (.iload_n 3, 83, 3, 0, .null) := by decide +kernel
theorem x_117_82 : Tr sc d 117 (82, [l0, l1, l2, some (.int x), l4], [.ref k0], h) Q = Tr sc d 117 (83, [l0, l1, l2, some (.int x), l4], [.int x, .ref k0], h) Q := t_iload_n k_117_82 rfl
theorem k_117_83 : lk 117 83 = some (.iconst 1, 84, 0, 0, .int 1) := by decide +kernel
theorem x_117_83 : Tr sc d 117 (83, [l0, l1, l2, l3, l4], [.int i1, .ref k0], h) Q = Tr sc d 117 (84, [l0, l1, l2, l3, l4], [.int 1, .int i1, .ref k0], h) Q := t_go k_117_83 rfl
theorem k_117_84 : lk 117 84 = some (.if_icmp .ne 13, 87, 97, 0, .null) := by decide +kernel
theorem x_117_84 : Tr sc d 117 (84, [l0, l1, l2, l3, l4], [.int i2, .int i1, .ref k0], h) Q = if i1 = i2 then Tr sc d 117 (87, [l0, l1, l2, l3, l4], [.ref k0], h) Q else Tr sc d 117 (97, [l0, l1, l2, l3, l4], [.ref k0], h) Q := t_if k_117_84 rfl
theorem k_117_87 : lk 117 87 = some (.aload_n 0, 88, 0, 0, .null) := by decide +kernel
theorem x_117_87 : Tr sc d 117 (87, [some (.ref xk), l1, l2, l3, l4], [.ref k0], h) Q = Tr sc d 117 (88, [some (.ref xk), l1, l2, l3, l4], [.ref xk, .ref k0], h) Q := t_aload_n k_117_87 rfl
theorem k_117_88 : lk 117 88 = some (.getfield 51, 91, 9, 7, .null) := by decide +kernel
theorem x_117_88 : Tr sc d 117 (88, [l0, l1, l2, l3, l4], [.ref k1, .ref k0], h) Q = (okp h k1 9 = true ∧ ∃ q, hR h k1 7 = some q ∧ Tr sc d 117 (91, [l0, l1, l2, l3, l4], [.ref q, .ref k0], h) Q) := t_getr k_117_88
theorem k_117_91 : lk 117 91 = some (.getfield 291, 94, 1, 7, .int 0) := by decide +kernel
theorem x_117_91 : Tr sc d 117 (91, [l0, l1, l2, l3, l4], [.ref k1, .ref k0], h) Q = (okp h k1 1 = true ∧ Tr sc d 117 (94, [l0, l1, l2, l3, l4], [.int (hI h k1 7), .ref k0], h) Q) := t_gd k_117_91 rfl
theorem k_117_94 : lk 117 94 = some (.goto 25, 97, 119, 0, .null) := by decide +kernel
theorem x_117_94 : Tr sc d 117 (94, [l0, l1, l2, l3, l4], [.int i1, .ref k0], h) Q = Tr sc d 117 (119, [l0, l1, l2, l3, l4], [.int i1, .ref k0], h) Q := t_go k_117_94 rfl
theorem k_117_97 : lk 117 97 = some (.iload_n 3, 98, 3, 0, .null) := by decide +kernel
theorem x_117_97 : Tr sc d 117 (97, [l0, l1, l2, some (.int x), l4], [.ref k0], h) Q = Tr sc d 117 (98, [l0, l1, l2, some (.int x), l4], [.int x, .ref k0], h) Q := t_iload_n k_117_97 rfl
theorem k_117_98 : lk 117 98 = some (.iconst 2, 99, 0, 0, .int 2) := by decide +kernel
theorem x_117_98 : Tr sc d 117 (98, [l0, l1, l2, l3, l4], [.int i1, .ref k0], h) Q = Tr sc d 117 (99, [l0, l1, l2, l3, l4], [.int 2, .int i1, .ref k0], h) Q := t_go k_117_98 rfl
theorem k_117_99 : lk 117 99 = some (.if_icmp .ne 13, 102, 112, 0, .null) := by decide +kernel
theorem x_117_99 : Tr sc d 117 (99, [l0, l1, l2, l3, l4], [.int i2, .int i1, .ref k0], h) Q = if i1 = i2 then Tr sc d 117 (102, [l0, l1, l2, l3, l4], [.ref k0], h) Q else Tr sc d 117 (112, [l0, l1, l2, l3, l4], [.ref k0], h) Q := t_if k_117_99 rfl
theorem k_117_102 : lk 117 102 = some (.aload_n 0, 103, 0, 0, .null) := by decide +kernel
theorem x_117_102 : Tr sc d 117 (102, [some (.ref xk), l1, l2, l3, l4], [.ref k0], h) Q = Tr sc d 117 (103, [some (.ref xk), l1, l2, l3, l4], [.ref xk, .ref k0], h) Q := t_aload_n k_117_102 rfl
theorem k_117_103 : lk 117 103 = some (.getfield 51, 106, 9, 7, .null) := by decide +kernel
theorem x_117_103 : Tr sc d 117 (103, [l0, l1, l2, l3, l4], [.ref k1, .ref k0], h) Q = (okp h k1 9 = true ∧ ∃ q, hR h k1 7 = some q ∧ Tr sc d 117 (106, [l0, l1, l2, l3, l4], [.ref q, .ref k0], h) Q) := t_getr k_117_103
theorem k_117_106 : lk 117 106 = some (.getfield 294, 109, 1, 8, .int 0) := by decide +kernel
theorem x_117_106 : Tr sc d 117 (106, [l0, l1, l2, l3, l4], [.ref k1, .ref k0], h) Q = (okp h k1 1 = true ∧ Tr sc d 117 (109, [l0, l1, l2, l3, l4], [.int (hI h k1 8), .ref k0], h) Q) := t_gd k_117_106 rfl
theorem k_117_109 : lk 117 109 = some (.goto 10, 112, 119, 0, .null) := by decide +kernel
theorem x_117_109 : Tr sc d 117 (109, [l0, l1, l2, l3, l4], [.int i1, .ref k0], h) Q = Tr sc d 117 (119, [l0, l1, l2, l3, l4], [.int i1, .ref k0], h) Q := t_go k_117_109 rfl
theorem k_117_112 : lk 117 112 = some (.aload_n 0, 113, 0, 0, .null) := by decide +kernel
theorem x_117_112 : Tr sc d 117 (112, [some (.ref xk), l1, l2, l3, l4], [.ref k0], h) Q = Tr sc d 117 (113, [some (.ref xk), l1, l2, l3, l4], [.ref xk, .ref k0], h) Q := t_aload_n k_117_112 rfl
theorem k_117_113 : lk 117 113 = some (.getfield 51, 116, 9, 7, .null) := by decide +kernel
theorem x_117_113 : Tr sc d 117 (113, [l0, l1, l2, l3, l4], [.ref k1, .ref k0], h) Q = (okp h k1 9 = true ∧ ∃ q, hR h k1 7 = some q ∧ Tr sc d 117 (116, [l0, l1, l2, l3, l4], [.ref q, .ref k0], h) Q) := t_getr k_117_113
theorem k_117_116 : lk 117 116 = some (.getfield 297, 119, 1, 9, .int 0) := by decide +kernel
theorem x_117_116 : Tr sc d 117 (116, [l0, l1, l2, l3, l4], [.ref k1, .ref k0], h) Q = (okp h k1 1 = true ∧ Tr sc d 117 (119, [l0, l1, l2, l3, l4], [.int (hI h k1 9), .ref k0], h) Q) := t_gd k_117_116 rfl
theorem k_117_119 : lk 117 119 = some (.putfield 98, 122, 9, 15, .int 0) := by decide +kernel
theorem x_117_119 : Tr sc d 117 (119, [l0, l1, l2, l3, l4], [.int i1, .ref k0], h) Q = (okp h k0 9 = true ∧ Tr sc d 117 (122, [l0, l1, l2, l3, l4], [], (sI h k0 15 i1)) Q) := t_gd k_117_119 rfl
theorem k_117_122 : lk 117 122 = some (.iconst 1, 123, 0, 0, .int 1) := by decide +kernel
theorem x_117_122 : Tr sc d 117 (122, [l0, l1, l2, l3, l4], [], h) Q = Tr sc d 117 (123, [l0, l1, l2, l3, l4], [.int 1], h) Q := t_go k_117_122 rfl
theorem k_117_123 : lk 117 123 = some (.ireturn, 124, 0, 0, .null) := by decide +kernel
theorem x_117_123 : Tr sc d 117 (123, [l0, l1, l2, l3, l4], [.int i0], h) Q = Q (some (.int i0), h) := t_ret k_117_123 (by rw [r_117]; rfl)
theorem e_117 : Tr sc d 117 (ent0 117 [.ref k0, .int i1, .int i2, .int i3] h) Q = Tr sc d 117 (0, [some (.ref k0), some (.int i1), some (.int i2), some (.int i3), none], [], h) Q := by
  have e : mL 117 = 5 := by decide +kernel
  unfold ent0
  rw [e]
  rfl
theorem r_118 : mR 118 = some .int := by decide +kernel
theorem k_118_0 : lk 118 0 = some (.aload_n 0, 1, 0, 0, .null) := by decide +kernel
theorem x_118_0 : Tr sc d 118 (0, [some (.ref xk), l1, l2, l3, l4], [], h) Q = Tr sc d 118 (1, [some (.ref xk), l1, l2, l3, l4], [.ref xk], h) Q := t_aload_n k_118_0 rfl
theorem k_118_1 : lk 118 1 = some (.iload_n 1, 2, 1, 0, .null) := by decide +kernel
theorem x_118_1 : Tr sc d 118 (1, [l0, some (.int x), l2, l3, l4], [.ref k0], h) Q = Tr sc d 118 (2, [l0, some (.int x), l2, l3, l4], [.int x, .ref k0], h) Q := t_iload_n k_118_1 rfl
theorem k_118_2 : lk 118 2 = some (.iconst 1, 3, 0, 0, .int 1) := by decide +kernel
theorem x_118_2 : Tr sc d 118 (2, [l0, l1, l2, l3, l4], [.int i1, .ref k0], h) Q = Tr sc d 118 (3, [l0, l1, l2, l3, l4], [.int 1, .int i1, .ref k0], h) Q := t_go k_118_2 rfl
theorem k_118_3 : lk 118 3 = some (.invokevirtual 196, 6, 145, 2, .null) := by decide +kernel
theorem x_118_3 : Tr sc (d + 1) 118 (3, [l0, l1, l2, l3, l4], [.int i2, .int i1, .ref k0], h) Q = (okp h k0 9 = true ∧ Tr sc d 145 (ent0 145 [.ref k0, .int i1, .int i2] h) (fun z => Tr sc (d + 1) 118 (6, [l0, l1, l2, l3, l4], z.1.toList ++ [], z.2) Q)) := t_cv (as := [.int i1, .int i2]) (r := []) k_118_3 rfl rfl (Nat.le_of_ble_eq_true rfl) (Nat.le_of_ble_eq_true rfl) (Nat.le_of_ble_eq_true rfl)
theorem k_118_6 : lk 118 6 = some (.istore_n 2, 7, 2, 0, .null) := by decide +kernel
theorem x_118_6 : Tr sc d 118 (6, [l0, l1, l2, l3, l4], [.int i0], h) Q = Tr sc d 118 (7, [l0, cl2 l1, some (.int i0), l3, l4], [], h) Q := t_istore_n k_118_6 (Nat.le_of_ble_eq_true rfl)
theorem k_118_7 : lk 118 7 = some (.iload_n 2, 8, 2, 0, .null) := by decide +kernel
theorem x_118_7 : Tr sc d 118 (7, [l0, l1, some (.int x), l3, l4], [], h) Q = Tr sc d 118 (8, [l0, l1, some (.int x), l3, l4], [.int x], h) Q := t_iload_n k_118_7 rfl
theorem k_118_8 : lk 118 8 = some (.ifCond .eq 5, 11, 13, 0, .null) := by decide +kernel
theorem x_118_8 : Tr sc d 118 (8, [l0, l1, l2, l3, l4], [.int i0], h) Q = if i0 = 0 then Tr sc d 118 (13, [l0, l1, l2, l3, l4], [], h) Q else Tr sc d 118 (11, [l0, l1, l2, l3, l4], [], h) Q := t_if k_118_8 rfl
theorem k_118_11 : lk 118 11 = some (.iload_n 2, 12, 2, 0, .null) := by decide +kernel
theorem x_118_11 : Tr sc d 118 (11, [l0, l1, some (.int x), l3, l4], [], h) Q = Tr sc d 118 (12, [l0, l1, some (.int x), l3, l4], [.int x], h) Q := t_iload_n k_118_11 rfl
theorem k_118_12 : lk 118 12 = some (.ireturn, 13, 0, 0, .null) := by decide +kernel
theorem x_118_12 : Tr sc d 118 (12, [l0, l1, l2, l3, l4], [.int i0], h) Q = Q (some (.int i0), h) := t_ret k_118_12 (by rw [r_118]; rfl)
theorem k_118_13 : lk 118 13 = some (.iconst 1, 14, 0, 0, .int 1) := by decide +kernel
theorem x_118_13 : Tr sc d 118 (13, [l0, l1, l2, l3, l4], [], h) Q = Tr sc d 118 (14, [l0, l1, l2, l3, l4], [.int 1], h) Q := t_go k_118_13 rfl
theorem k_118_14 : lk 118 14 = some (.istore_n 3, 15, 3, 0, .null) := by decide +kernel
theorem x_118_14 : Tr sc d 118 (14, [l0, l1, l2, l3, l4], [.int i0], h) Q = Tr sc d 118 (15, [l0, l1, cl2 l2, some (.int i0), l4], [], h) Q := t_istore_n k_118_14 (Nat.le_of_ble_eq_true rfl)
theorem k_118_15 : lk 118 15 = some (.iconst 1, 16, 0, 0, .int 1) := by decide +kernel
theorem x_118_15 : Tr sc d 118 (15, [l0, l1, l2, l3, l4], [], h) Q = Tr sc d 118 (16, [l0, l1, l2, l3, l4], [.int 1], h) Q := t_go k_118_15 rfl
theorem k_118_16 : lk 118 16 = some (.istore 4, 18, 4, 0, .null) := by decide +kernel
theorem x_118_16 : Tr sc d 118 (16, [l0, l1, l2, l3, l4], [.int i0], h) Q = Tr sc d 118 (18, [l0, l1, l2, cl2 l3, some (.int i0)], [], h) Q := t_istore k_118_16 (Nat.le_of_ble_eq_true rfl)
theorem k_118_18 : lk 118 18 = some (.iload 4, 20, 4, 0, .null) := by decide +kernel
theorem x_118_18 : Tr sc d 118 (18, [l0, l1, l2, l3, some (.int x)], [], h) Q = Tr sc d 118 (20, [l0, l1, l2, l3, some (.int x)], [.int x], h) Q := t_iload k_118_18 rfl
theorem k_118_20 : lk 118 20 = some (.iconst 5, 21, 0, 0, .int 5) := by decide +kernel
theorem x_118_20 : Tr sc d 118 (20, [l0, l1, l2, l3, l4], [.int i0], h) Q = Tr sc d 118 (21, [l0, l1, l2, l3, l4], [.int 5, .int i0], h) Q := t_go k_118_20 rfl
theorem k_118_21 : lk 118 21 = some (.if_icmp .gt 50, 24, 71, 0, .null) := by decide +kernel
theorem x_118_21 : Tr sc d 118 (21, [l0, l1, l2, l3, l4], [.int i1, .int i0], h) Q = if i1 < i0 then Tr sc d 118 (71, [l0, l1, l2, l3, l4], [], h) Q else Tr sc d 118 (24, [l0, l1, l2, l3, l4], [], h) Q := t_if k_118_21 rfl
theorem k_118_24 : lk 118 24 = some (.iload_n 3, 25, 3, 0, .null) := by decide +kernel
theorem x_118_24 : Tr sc d 118 (24, [l0, l1, l2, some (.int x), l4], [], h) Q = Tr sc d 118 (25, [l0, l1, l2, some (.int x), l4], [.int x], h) Q := t_iload_n k_118_24 rfl
theorem k_118_25 : lk 118 25 = some (.aload_n 0, 26, 0, 0, .null) := by decide +kernel
theorem x_118_25 : Tr sc d 118 (25, [some (.ref xk), l1, l2, l3, l4], [.int i0], h) Q = Tr sc d 118 (26, [some (.ref xk), l1, l2, l3, l4], [.ref xk, .int i0], h) Q := t_aload_n k_118_25 rfl
theorem k_118_26 : lk 118 26 = some (.getfield 20, 29, 9, 2, .null) := by decide +kernel
theorem x_118_26 : Tr sc d 118 (26, [l0, l1, l2, l3, l4], [.ref k1, .int i0], h) Q = (okp h k1 9 = true ∧ ∃ q, hR h k1 2 = some q ∧ Tr sc d 118 (29, [l0, l1, l2, l3, l4], [.ref q, .int i0], h) Q) := t_getr k_118_26
theorem k_118_29 : lk 118 29 = some (.iload_n 1, 30, 1, 0, .null) := by decide +kernel
theorem x_118_29 : Tr sc d 118 (29, [l0, some (.int x), l2, l3, l4], [.ref k1, .int i0], h) Q = Tr sc d 118 (30, [l0, some (.int x), l2, l3, l4], [.int x, .ref k1, .int i0], h) Q := t_iload_n k_118_29 rfl
theorem k_118_30 : lk 118 30 = some (.aaload, 31, 0, 0, .null) := by decide +kernel
theorem x_118_30 : Tr sc d 118 (30, [l0, l1, l2, l3, l4], [.int i2, .ref k1, .int i0], h) Q = (((okp h k1 14 || okp h k1 15) && inb i2 (LN k1)) = true ∧ ∃ q, hR h k1 i2.toNatClampNeg = some q ∧ Tr sc d 118 (31, [l0, l1, l2, l3, l4], [.ref q, .int i0], h) Q) := t_aald k_118_30
theorem k_118_31 : lk 118 31 = some (.getfield 181, 34, 6, 8, .int 0) := by decide +kernel
theorem x_118_31 : Tr sc d 118 (31, [l0, l1, l2, l3, l4], [.ref k1, .int i0], h) Q = (okp h k1 6 = true ∧ Tr sc d 118 (34, [l0, l1, l2, l3, l4], [.int (hI h k1 8), .int i0], h) Q) := t_gd k_118_31 rfl
theorem k_118_34 : lk 118 34 = some (.imul, 35, 0, 0, .null) := by decide +kernel
theorem x_118_34 : Tr sc d 118 (34, [l0, l1, l2, l3, l4], [.int i1, .int i0], h) Q = Tr sc d 118 (35, [l0, l1, l2, l3, l4], [.int (i0 * i1)], h) Q := t_go k_118_34 rfl
theorem k_118_35 : lk 118 35 = some (.istore_n 3, 36, 3, 0, .null) := by decide +kernel
theorem x_118_35 : Tr sc d 118 (35, [l0, l1, l2, l3, l4], [.int i0], h) Q = Tr sc d 118 (36, [l0, l1, cl2 l2, some (.int i0), l4], [], h) Q := t_istore_n k_118_35 (Nat.le_of_ble_eq_true rfl)
theorem k_118_36 : lk 118 36 = some (.aload_n 0, 37, 0, 0, .null) := by decide +kernel
theorem x_118_36 : Tr sc d 118 (36, [some (.ref xk), l1, l2, l3, l4], [], h) Q = Tr sc d 118 (37, [some (.ref xk), l1, l2, l3, l4], [.ref xk], h) Q := t_aload_n k_118_36 rfl
theorem k_118_37 : lk 118 37 = some (.getfield 51, 40, 9, 7, .null) := by decide +kernel
theorem x_118_37 : Tr sc d 118 (37, [l0, l1, l2, l3, l4], [.ref k0], h) Q = (okp h k0 9 = true ∧ ∃ q, hR h k0 7 = some q ∧ Tr sc d 118 (40, [l0, l1, l2, l3, l4], [.ref q], h) Q) := t_getr k_118_37
theorem k_118_40 : lk 118 40 = some (.aload_n 0, 41, 0, 0, .null) := by decide +kernel
theorem x_118_40 : Tr sc d 118 (40, [some (.ref xk), l1, l2, l3, l4], [.ref k0], h) Q = Tr sc d 118 (41, [some (.ref xk), l1, l2, l3, l4], [.ref xk, .ref k0], h) Q := t_aload_n k_118_40 rfl
theorem k_118_41 : lk 118 41 = some (.getfield 20, 44, 9, 2, .null) := by decide +kernel
theorem x_118_41 : Tr sc d 118 (41, [l0, l1, l2, l3, l4], [.ref k1, .ref k0], h) Q = (okp h k1 9 = true ∧ ∃ q, hR h k1 2 = some q ∧ Tr sc d 118 (44, [l0, l1, l2, l3, l4], [.ref q, .ref k0], h) Q) := t_getr k_118_41
theorem k_118_44 : lk 118 44 = some (.iload_n 1, 45, 1, 0, .null) := by decide +kernel
theorem x_118_44 : Tr sc d 118 (44, [l0, some (.int x), l2, l3, l4], [.ref k1, .ref k0], h) Q = Tr sc d 118 (45, [l0, some (.int x), l2, l3, l4], [.int x, .ref k1, .ref k0], h) Q := t_iload_n k_118_44 rfl
theorem k_118_45 : lk 118 45 = some (.aaload, 46, 0, 0, .null) := by decide +kernel
theorem x_118_45 : Tr sc d 118 (45, [l0, l1, l2, l3, l4], [.int i2, .ref k1, .ref k0], h) Q = (((okp h k1 14 || okp h k1 15) && inb i2 (LN k1)) = true ∧ ∃ q, hR h k1 i2.toNatClampNeg = some q ∧ Tr sc d 118 (46, [l0, l1, l2, l3, l4], [.ref q, .ref k0], h) Q) := t_aald k_118_45
theorem k_118_46 : lk 118 46 = some (.iload 4, 48, 4, 0, .null) := by decide +kernel
theorem x_118_46 : Tr sc d 118 (46, [l0, l1, l2, l3, some (.int x)], [.ref k1, .ref k0], h) Q = Tr sc d 118 (48, [l0, l1, l2, l3, some (.int x)], [.int x, .ref k1, .ref k0], h) Q := t_iload k_118_46 rfl
theorem k_118_48 : lk 118 48 = some (.invokevirtual 273, 51, 10, 2, .null) := by decide +kernel
theorem x_118_48 : Tr sc (d + 1) 118 (48, [l0, l1, l2, l3, l4], [.int i2, .ref k1, .ref k0], h) Q = (okp h k0 1 = true ∧ Tr sc d 10 (ent0 10 [.ref k0, .ref k1, .int i2] h) (fun z => Tr sc (d + 1) 118 (51, [l0, l1, l2, l3, l4], z.1.toList ++ [], z.2) Q)) := t_cv (as := [.ref k1, .int i2]) (r := []) k_118_48 rfl rfl (Nat.le_of_ble_eq_true rfl) (Nat.le_of_ble_eq_true rfl) (Nat.le_of_ble_eq_true rfl)
theorem k_118_51 : lk 118 51 = some (.aload_n 0, 52, 0, 0, .null) := by decide +kernel
theorem x_118_51 : Tr sc d 118 (51, [some (.ref xk), l1, l2, l3, l4], [], h) Q = Tr sc d 118 (52, [some (.ref xk), l1, l2, l3, l4], [.ref xk], h) Q := t_aload_n k_118_51 rfl
theorem k_118_52 : lk 118 52 = some (.getfield 51, 55, 9, 7, .null) := by decide +kernel
theorem x_118_52 : Tr sc d 118 (52, [l0, l1, l2, l3, l4], [.ref k0], h) Q = (okp h k0 9 = true ∧ ∃ q, hR h k0 7 = some q ∧ Tr sc d 118 (55, [l0, l1, l2, l3, l4], [.ref q], h) Q) := t_getr k_118_52
theorem k_118_55 : lk 118 55 = some (.getfield 280, 58, 1, 4, .int 0) := by decide +kernel
theorem x_118_55 : Tr sc d 118 (55, [l0, l1, l2, l3, l4], [.ref k0], h) Q = (okp h k0 1 = true ∧ Tr sc d 118 (58, [l0, l1, l2, l3, l4], [.int (hI h k0 4)], h) Q) := t_gd k_118_55 rfl
theorem k_118_58 : lk 118 58 = some (.iload_n 3, 59, 3, 0, .null) := by decide +kernel
theorem x_118_58 : Tr sc d 118 (58, [l0, l1, l2, some (.int x), l4], [.int i0], h) Q = Tr sc d 118 (59, [l0, l1, l2, some (.int x), l4], [.int x, .int i0], h) Q := t_iload_n k_118_58 rfl
theorem k_118_59 : lk 118 59 = some (.if_icmp .eq 6, 62, 65, 0, .null) := by decide +kernel
theorem x_118_59 : Tr sc d 118 (59, [l0, l1, l2, l3, l4], [.int i1, .int i0], h) Q = if i0 = i1 then Tr sc d 118 (65, [l0, l1, l2, l3, l4], [], h) Q else Tr sc d 118 (62, [l0, l1, l2, l3, l4], [], h) Q := t_if k_118_59 rfl
theorem k_118_62 : lk 118 62 = some (.iload 4, 64, 4, 0, .null) := by decide +kernel
theorem x_118_62 : Tr sc d 118 (62, [l0, l1, l2, l3, some (.int x)], [], h) Q = Tr sc d 118 (64, [l0, l1, l2, l3, some (.int x)], [.int x], h) Q := t_iload k_118_62 rfl
theorem k_118_64 : lk 118 64 = some (.ireturn, 65, 0, 0, .null) := by decide +kernel
theorem x_118_64 : Tr sc d 118 (64, [l0, l1, l2, l3, l4], [.int i0], h) Q = Q (some (.int i0), h) := t_ret k_118_64 (by rw [r_118]; rfl)
theorem k_118_65 : lk 118 65 = some (.iinc 4 1, 68, 4, 0, .int 1) := by decide +kernel
theorem x_118_65 : Tr sc d 118 (65, [l0, l1, l2, l3, some (.int x)], [], h) Q = Tr sc d 118 (68, [l0, l1, l2, cl2 l3, some (.int (x + 1))], [], h) Q := t_inc k_118_65 rfl (Nat.le_of_ble_eq_true rfl)
theorem k_118_68 : lk 118 68 = some (.goto (-50), 71, 18, 0, .null) := by decide +kernel
theorem x_118_68 : Tr sc d 118 (68, [l0, l1, l2, l3, l4], [], h) Q = Tr sc d 118 (18, [l0, l1, l2, l3, l4], [], h) Q := t_go k_118_68 rfl
theorem k_118_71 : lk 118 71 = some (.bipush (-9), 73, 0, 0, .int (-9)) := by decide +kernel
theorem x_118_71 : Tr sc d 118 (71, [l0, l1, l2, l3, l4], [], h) Q = Tr sc d 118 (73, [l0, l1, l2, l3, l4], [.int (-9)], h) Q := t_go k_118_71 rfl
theorem k_118_73 : lk 118 73 = some (.ireturn, 74, 0, 0, .null) := by decide +kernel
theorem x_118_73 : Tr sc d 118 (73, [l0, l1, l2, l3, l4], [.int i0], h) Q = Q (some (.int i0), h) := t_ret k_118_73 (by rw [r_118]; rfl)
theorem e_118 : Tr sc d 118 (ent0 118 [.ref k0, .int i1] h) Q = Tr sc d 118 (0, [some (.ref k0), some (.int i1), none, none, none], [], h) Q := by
  have e : mL 118 = 5 := by decide +kernel
  unfold ent0
  rw [e]
  rfl
theorem r_119 : mR 119 = some .int := by decide +kernel
theorem k_119_0 : lk 119 0 = some (.aload_n 0, 1, 0, 0, .null) := by decide +kernel
theorem x_119_0 : Tr sc d 119 (0, [some (.ref xk), l1, l2], [], h) Q = Tr sc d 119 (1, [some (.ref xk), l1, l2], [.ref xk], h) Q := t_aload_n k_119_0 rfl
theorem k_119_1 : lk 119 1 = some (.iload_n 1, 2, 1, 0, .null) := by decide +kernel
theorem x_119_1 : Tr sc d 119 (1, [l0, some (.int x), l2], [.ref k0], h) Q = Tr sc d 119 (2, [l0, some (.int x), l2], [.int x, .ref k0], h) Q := t_iload_n k_119_1 rfl
theorem k_119_2 : lk 119 2 = some (.iconst 1, 3, 0, 0, .int 1) := by decide +kernel
theorem x_119_2 : Tr sc d 119 (2, [l0, l1, l2], [.int i1, .ref k0], h) Q = Tr sc d 119 (3, [l0, l1, l2], [.int 1, .int i1, .ref k0], h) Q := t_go k_119_2 rfl
theorem k_119_3 : lk 119 3 = some (.invokevirtual 300, 6, 146, 2, .null) := by decide +kernel
theorem x_119_3 : Tr sc (d + 1) 119 (3, [l0, l1, l2], [.int i2, .int i1, .ref k0], h) Q = (okp h k0 9 = true ∧ Tr sc d 146 (ent0 146 [.ref k0, .int i1, .int i2] h) (fun z => Tr sc (d + 1) 119 (6, [l0, l1, l2], z.1.toList ++ [], z.2) Q)) := t_cv (as := [.int i1, .int i2]) (r := []) k_119_3 rfl rfl (Nat.le_of_ble_eq_true rfl) (Nat.le_of_ble_eq_true rfl) (Nat.le_of_ble_eq_true rfl)
theorem k_119_6 : lk 119 6 = some (.istore_n 2, 7, 2, 0, .null) := by decide +kernel
theorem x_119_6 : Tr sc d 119 (6, [l0, l1, l2], [.int i0], h) Q = Tr sc d 119 (7, [l0, cl2 l1, some (.int i0)], [], h) Q := t_istore_n k_119_6 (Nat.le_of_ble_eq_true rfl)
theorem k_119_7 : lk 119 7 = some (.iload_n 2, 8, 2, 0, .null) := by decide +kernel
theorem x_119_7 : Tr sc d 119 (7, [l0, l1, some (.int x)], [], h) Q = Tr sc d 119 (8, [l0, l1, some (.int x)], [.int x], h) Q := t_iload_n k_119_7 rfl
theorem k_119_8 : lk 119 8 = some (.ifCond .eq 5, 11, 13, 0, .null) := by decide +kernel
theorem x_119_8 : Tr sc d 119 (8, [l0, l1, l2], [.int i0], h) Q = if i0 = 0 then Tr sc d 119 (13, [l0, l1, l2], [], h) Q else Tr sc d 119 (11, [l0, l1, l2], [], h) Q := t_if k_119_8 rfl
theorem k_119_11 : lk 119 11 = some (.iload_n 2, 12, 2, 0, .null) := by decide +kernel
theorem x_119_11 : Tr sc d 119 (11, [l0, l1, some (.int x)], [], h) Q = Tr sc d 119 (12, [l0, l1, some (.int x)], [.int x], h) Q := t_iload_n k_119_11 rfl
theorem k_119_12 : lk 119 12 = some (.ireturn, 13, 0, 0, .null) := by decide +kernel
theorem x_119_12 : Tr sc d 119 (12, [l0, l1, l2], [.int i0], h) Q = Q (some (.int i0), h) := t_ret k_119_12 (by rw [r_119]; rfl)
theorem k_119_13 : lk 119 13 = some (.aload_n 0, 14, 0, 0, .null) := by decide +kernel
theorem x_119_13 : Tr sc d 119 (13, [some (.ref xk), l1, l2], [], h) Q = Tr sc d 119 (14, [some (.ref xk), l1, l2], [.ref xk], h) Q := t_aload_n k_119_13 rfl
theorem k_119_14 : lk 119 14 = some (.getfield 61, 17, 9, 9, .null) := by decide +kernel
theorem x_119_14 : Tr sc d 119 (14, [l0, l1, l2], [.ref k0], h) Q = (okp h k0 9 = true ∧ ∃ q, hR h k0 9 = some q ∧ Tr sc d 119 (17, [l0, l1, l2], [.ref q], h) Q) := t_getr k_119_14
theorem k_119_17 : lk 119 17 = some (.aload_n 0, 18, 0, 0, .null) := by decide +kernel
theorem x_119_17 : Tr sc d 119 (17, [some (.ref xk), l1, l2], [.ref k0], h) Q = Tr sc d 119 (18, [some (.ref xk), l1, l2], [.ref xk, .ref k0], h) Q := t_aload_n k_119_17 rfl
theorem k_119_18 : lk 119 18 = some (.getfield 20, 21, 9, 2, .null) := by decide +kernel
theorem x_119_18 : Tr sc d 119 (18, [l0, l1, l2], [.ref k1, .ref k0], h) Q = (okp h k1 9 = true ∧ ∃ q, hR h k1 2 = some q ∧ Tr sc d 119 (21, [l0, l1, l2], [.ref q, .ref k0], h) Q) := t_getr k_119_18
theorem k_119_21 : lk 119 21 = some (.iload_n 1, 22, 1, 0, .null) := by decide +kernel
theorem x_119_21 : Tr sc d 119 (21, [l0, some (.int x), l2], [.ref k1, .ref k0], h) Q = Tr sc d 119 (22, [l0, some (.int x), l2], [.int x, .ref k1, .ref k0], h) Q := t_iload_n k_119_21 rfl
theorem k_119_22 : lk 119 22 = some (.aaload, 23, 0, 0, .null) := by decide +kernel
theorem x_119_22 : Tr sc d 119 (22, [l0, l1, l2], [.int i2, .ref k1, .ref k0], h) Q = (((okp h k1 14 || okp h k1 15) && inb i2 (LN k1)) = true ∧ ∃ q, hR h k1 i2.toNatClampNeg = some q ∧ Tr sc d 119 (23, [l0, l1, l2], [.ref q, .ref k0], h) Q) := t_aald k_119_22
theorem k_119_23 : lk 119 23 = some (.invokevirtual 303, 26, 72, 1, .null) := by decide +kernel
theorem x_119_23 : Tr sc (d + 1) 119 (23, [l0, l1, l2], [.ref k1, .ref k0], h) Q = (okp h k0 7 = true ∧ Tr sc d 72 (ent0 72 [.ref k0, .ref k1] h) (fun z => Tr sc (d + 1) 119 (26, [l0, l1, l2], z.1.toList ++ [], z.2) Q)) := t_cv (as := [.ref k1]) (r := []) k_119_23 rfl rfl (Nat.le_of_ble_eq_true rfl) (Nat.le_of_ble_eq_true rfl) (Nat.le_of_ble_eq_true rfl)
theorem k_119_26 : lk 119 26 = some (.aload_n 0, 27, 0, 0, .null) := by decide +kernel
theorem x_119_26 : Tr sc d 119 (26, [some (.ref xk), l1, l2], [], h) Q = Tr sc d 119 (27, [some (.ref xk), l1, l2], [.ref xk], h) Q := t_aload_n k_119_26 rfl
theorem k_119_27 : lk 119 27 = some (.getfield 61, 30, 9, 9, .null) := by decide +kernel
theorem x_119_27 : Tr sc d 119 (27, [l0, l1, l2], [.ref k0], h) Q = (okp h k0 9 = true ∧ ∃ q, hR h k0 9 = some q ∧ Tr sc d 119 (30, [l0, l1, l2], [.ref q], h) Q) := t_getr k_119_27
theorem k_119_30 : lk 119 30 = some (.invokevirtual 306, 33, 78, 0, .null) := by decide +kernel
theorem x_119_30 : Tr sc (d + 1) 119 (30, [l0, l1, l2], [.ref k0], h) Q = (okp h k0 7 = true ∧ Tr sc d 78 (ent0 78 [.ref k0] h) (fun z => Tr sc (d + 1) 119 (33, [l0, l1, l2], z.1.toList ++ [], z.2) Q)) := t_cv (as := []) (r := []) k_119_30 rfl rfl (Nat.le_of_ble_eq_true rfl) (Nat.le_of_ble_eq_true rfl) (Nat.le_of_ble_eq_true rfl)
theorem k_119_33 : lk 119 33 = some (.ireturn, 34, 0, 0, .null) := by decide +kernel
theorem x_119_33 : Tr sc d 119 (33, [l0, l1, l2], [.int i0], h) Q = Q (some (.int i0), h) := t_ret k_119_33 (by rw [r_119]; rfl)
theorem e_119 : Tr sc d 119 (ent0 119 [.ref k0, .int i1] h) Q = Tr sc d 119 (0, [some (.ref k0), some (.int i1), none], [], h) Q := by
  have e : mL 119 = 3 := by decide +kernel
  unfold ent0
  rw [e]
  rfl
theorem r_120 : mR 120 = some .int := by decide +kernel
theorem k_120_0 : lk 120 0 = some (.aload_n 0, 1, 0, 0, .null) := by decide +kernel
theorem x_120_0 : Tr sc d 120 (0, [some (.ref xk), l1, l2, l3, l4], [], h) Q = Tr sc d 120 (1, [some (.ref xk), l1, l2, l3, l4], [.ref xk], h) Q := t_aload_n k_120_0 rfl
theorem k_120_1 : lk 120 1 = some (.iload_n 1, 2, 1, 0, .null) := by decide +kernel
theorem x_120_1 : Tr sc d 120 (1, [l0, some (.int x), l2, l3, l4], [.ref k0], h) Q = Tr sc d 120 (2, [l0, some (.int x), l2, l3, l4], [.int x, .ref k0], h) Q := t_iload_n k_120_1 rfl
theorem k_120_2 : lk 120 2 = some (.iconst 1, 3, 0, 0, .int 1) := by decide +kernel
theorem x_120_2 : Tr sc d 120 (2, [l0, l1, l2, l3, l4], [.int i1, .ref k0], h) Q = Tr sc d 120 (3, [l0, l1, l2, l3, l4], [.int 1, .int i1, .ref k0], h) Q := t_go k_120_2 rfl
theorem k_120_3 : lk 120 3 = some (.invokevirtual 300, 6, 146, 2, .null) := by decide +kernel
theorem x_120_3 : Tr sc (d + 1) 120 (3, [l0, l1, l2, l3, l4], [.int i2, .int i1, .ref k0], h) Q = (okp h k0 9 = true ∧ Tr sc d 146 (ent0 146 [.ref k0, .int i1, .int i2] h) (fun z => Tr sc (d + 1) 120 (6, [l0, l1, l2, l3, l4], z.1.toList ++ [], z.2) Q)) := t_cv (as := [.int i1, .int i2]) (r := []) k_120_3 rfl rfl (Nat.le_of_ble_eq_true rfl) (Nat.le_of_ble_eq_true rfl) (Nat.le_of_ble_eq_true rfl)
theorem k_120_6 : lk 120 6 = some (.istore 4, 8, 4, 0, .null) := by decide +kernel
theorem x_120_6 : Tr sc d 120 (6, [l0, l1, l2, l3, l4], [.int i0], h) Q = Tr sc d 120 (8, [l0, l1, l2, cl2 l3, some (.int i0)], [], h) Q := t_istore k_120_6 (Nat.le_of_ble_eq_true rfl)
theorem k_120_8 : lk 120 8 = some (.iload 4, 10, 4, 0, .null) := by decide +kernel
theorem x_120_8 : Tr sc d 120 (8, [l0, l1, l2, l3, some (.int x)], [], h) Q = Tr sc d 120 (10, [l0, l1, l2, l3, some (.int x)], [.int x], h) Q := t_iload k_120_8 rfl
theorem k_120_10 : lk 120 10 = some (.ifCond .eq 6, 13, 16, 0, .null) := by decide +kernel
theorem x_120_10 : Tr sc d 120 (10, [l0, l1, l2, l3, l4], [.int i0], h) Q = if i0 = 0 then Tr sc d 120 (16, [l0, l1, l2, l3, l4], [], h) Q else Tr sc d 120 (13, [l0, l1, l2, l3, l4], [], h) Q := t_if k_120_10 rfl
theorem k_120_13 : lk 120 13 = some (.iload 4, 15, 4, 0, .null) := by decide +kernel
theorem x_120_13 : Tr sc d 120 (13, [l0, l1, l2, l3, some (.int x)], [], h) Q = Tr sc d 120 (15, [l0, l1, l2, l3, some (.int x)], [.int x], h) Q := t_iload k_120_13 rfl
theorem k_120_15 : lk 120 15 = some (.ireturn, 16, 0, 0, .null) := by decide +kernel
theorem x_120_15 : Tr sc d 120 (15, [l0, l1, l2, l3, l4], [.int i0], h) Q = Q (some (.int i0), h) := t_ret k_120_15 (by rw [r_120]; rfl)
theorem k_120_16 : lk 120 16 = some (.aload_n 0, 17, 0, 0, .null) := by decide +kernel
theorem x_120_16 : Tr sc d 120 (16, [some (.ref xk), l1, l2, l3, l4], [], h) Q = Tr sc d 120 (17, [some (.ref xk), l1, l2, l3, l4], [.ref xk], h) Q := t_aload_n k_120_16 rfl
theorem k_120_17 : lk 120 17 = some (.getfield 61, 20, 9, 9, .null) := by decide +kernel
theorem x_120_17 : Tr sc d 120 (17, [l0, l1, l2, l3, l4], [.ref k0], h) Q = (okp h k0 9 = true ∧ ∃ q, hR h k0 9 = some q ∧ Tr sc d 120 (20, [l0, l1, l2, l3, l4], [.ref q], h) Q) := t_getr k_120_17
theorem k_120_20 : lk 120 20 = some (.aload_n 0, 21, 0, 0, .null) := by decide +kernel
theorem x_120_20 : Tr sc d 120 (20, [some (.ref xk), l1, l2, l3, l4], [.ref k0], h) Q = Tr sc d 120 (21, [some (.ref xk), l1, l2, l3, l4], [.ref xk, .ref k0], h) Q := t_aload_n k_120_20 rfl
theorem k_120_21 : lk 120 21 = some (.getfield 20, 24, 9, 2, .null) := by decide +kernel
theorem x_120_21 : Tr sc d 120 (21, [l0, l1, l2, l3, l4], [.ref k1, .ref k0], h) Q = (okp h k1 9 = true ∧ ∃ q, hR h k1 2 = some q ∧ Tr sc d 120 (24, [l0, l1, l2, l3, l4], [.ref q, .ref k0], h) Q) := t_getr k_120_21
theorem k_120_24 : lk 120 24 = some (.iload_n 1, 25, 1, 0, .null) := by decide +kernel
theorem x_120_24 : Tr sc d 120 (24, [l0, some (.int x), l2, l3, l4], [.ref k1, .ref k0], h) Q = Tr sc d 120 (25, [l0, some (.int x), l2, l3, l4], [.int x, .ref k1, .ref k0], h) Q := t_iload_n k_120_24 rfl
theorem k_120_25 : lk 120 25 = some (.aaload, 26, 0, 0, .null) := by decide +kernel
theorem x_120_25 : Tr sc d 120 (25, [l0, l1, l2, l3, l4], [.int i2, .ref k1, .ref k0], h) Q = (((okp h k1 14 || okp h k1 15) && inb i2 (LN k1)) = true ∧ ∃ q, hR h k1 i2.toNatClampNeg = some q ∧ Tr sc d 120 (26, [l0, l1, l2, l3, l4], [.ref q, .ref k0], h) Q) := t_aald k_120_25
theorem k_120_26 : lk 120 26 = some (.invokevirtual 303, 29, 72, 1, .null) := by decide +kernel
theorem x_120_26 : Tr sc (d + 1) 120 (26, [l0, l1, l2, l3, l4], [.ref k1, .ref k0], h) Q = (okp h k0 7 = true ∧ Tr sc d 72 (ent0 72 [.ref k0, .ref k1] h) (fun z => Tr sc (d + 1) 120 (29, [l0, l1, l2, l3, l4], z.1.toList ++ [], z.2) Q)) := t_cv (as := [.ref k1]) (r := []) k_120_26 rfl rfl (Nat.le_of_ble_eq_true rfl) (Nat.le_of_ble_eq_true rfl) (Nat.le_of_ble_eq_true rfl)
theorem k_120_29 : lk 120 29 = some (.aload_n 0, 30, 0, 0, .null) := by decide +kernel
theorem x_120_29 : Tr sc d 120 (29, [some (.ref xk), l1, l2, l3, l4], [], h) Q = Tr sc d 120 (30, [some (.ref xk), l1, l2, l3, l4], [.ref xk], h) Q := t_aload_n k_120_29 rfl
theorem k_120_30 : lk 120 30 = some (.getfield 61, 33, 9, 9, .null) := by decide +kernel
theorem x_120_30 : Tr sc d 120 (30, [l0, l1, l2, l3, l4], [.ref k0], h) Q = (okp h k0 9 = true ∧ ∃ q, hR h k0 9 = some q ∧ Tr sc d 120 (33, [l0, l1, l2, l3, l4], [.ref q], h) Q) := t_getr k_120_30
theorem k_120_33 : lk 120 33 = some (.iload_n 2, 34, 2, 0, .null) := by decide +kernel
theorem x_120_33 : Tr sc d 120 (33, [l0, l1, some (.int x), l3, l4], [.ref k0], h) Q = Tr sc d 120 (34, [l0, l1, some (.int x), l3, l4], [.int x, .ref k0], h) Q := t_iload_n k_120_33 rfl
theorem k_120_34 : lk 120 34 = some (.iload_n 3, 35, 3, 0, .null) := by decide +kernel
theorem x_120_34 : Tr sc d 120 (34, [l0, l1, l2, some (.int x), l4], [.int i1, .ref k0], h) Q = Tr sc d 120 (35, [l0, l1, l2, some (.int x), l4], [.int x, .int i1, .ref k0], h) Q := t_iload_n k_120_34 rfl
theorem k_120_35 : lk 120 35 = some (.invokevirtual 309, 38, 77, 2, .null) := by decide +kernel
theorem x_120_35 : Tr sc (d + 1) 120 (35, [l0, l1, l2, l3, l4], [.int i2, .int i1, .ref k0], h) Q = (okp h k0 7 = true ∧ Tr sc d 77 (ent0 77 [.ref k0, .int i1, .int i2] h) (fun z => Tr sc (d + 1) 120 (38, [l0, l1, l2, l3, l4], z.1.toList ++ [], z.2) Q)) := t_cv (as := [.int i1, .int i2]) (r := []) k_120_35 rfl rfl (Nat.le_of_ble_eq_true rfl) (Nat.le_of_ble_eq_true rfl) (Nat.le_of_ble_eq_true rfl)
theorem k_120_38 : lk 120 38 = some (.ifCond .lt 7, 41, 45, 0, .null) := by decide +kernel
theorem x_120_38 : Tr sc d 120 (38, [l0, l1, l2, l3, l4], [.int i0], h) Q = if i0 < 0 then Tr sc d 120 (45, [l0, l1, l2, l3, l4], [], h) Q else Tr sc d 120 (41, [l0, l1, l2, l3, l4], [], h) Q := t_if k_120_38 rfl
theorem k_120_41 : lk 120 41 = some (.iconst 1, 42, 0, 0, .int 1) := by decide +kernel
theorem x_120_41 : Tr sc d 120 (41, [l0, l1, l2, l3, l4], [], h) Q = Tr sc d 120 (42, [l0, l1, l2, l3, l4], [.int 1], h) Q := t_go k_120_41 rfl
theorem k_120_42 : lk 120 42 = some (.goto 4, 45, 46, 0, .null) := by decide +kernel
theorem x_120_42 : Tr sc d 120 (42, [l0, l1, l2, l3, l4], [.int i0], h) Q = Tr sc d 120 (46, [l0, l1, l2, l3, l4], [.int i0], h) Q := t_go k_120_42 rfl
theorem k_120_45 : lk 120 45 = some (.iconst 0, 46, 0, 0, .int 0) := by decide +kernel
theorem x_120_45 : Tr sc d 120 (45, [l0, l1, l2, l3, l4], [], h) Q = Tr sc d 120 (46, [l0, l1, l2, l3, l4], [.int 0], h) Q := t_go k_120_45 rfl
theorem k_120_46 : lk 120 46 = some (.ireturn, 47, 0, 0, .null) := by decide +kernel
theorem x_120_46 : Tr sc d 120 (46, [l0, l1, l2, l3, l4], [.int i0], h) Q = Q (some (.int i0), h) := t_ret k_120_46 (by rw [r_120]; rfl)
theorem e_120 : Tr sc d 120 (ent0 120 [.ref k0, .int i1, .int i2, .int i3] h) Q = Tr sc d 120 (0, [some (.ref k0), some (.int i1), some (.int i2), some (.int i3), none], [], h) Q := by
  have e : mL 120 = 5 := by decide +kernel
  unfold ent0
  rw [e]
  rfl
theorem r_121 : mR 121 = some .int := by decide +kernel
theorem k_121_0 : lk 121 0 = some (.aload_n 0, 1, 0, 0, .null) := by decide +kernel
theorem x_121_0 : Tr sc d 121 (0, [some (.ref xk), l1, l2, l3], [], h) Q = Tr sc d 121 (1, [some (.ref xk), l1, l2, l3], [.ref xk], h) Q := t_aload_n k_121_0 rfl
theorem k_121_1 : lk 121 1 = some (.iload_n 1, 2, 1, 0, .null) := by decide +kernel
theorem x_121_1 : Tr sc d 121 (1, [l0, some (.int x), l2, l3], [.ref k0], h) Q = Tr sc d 121 (2, [l0, some (.int x), l2, l3], [.int x, .ref k0], h) Q := t_iload_n k_121_1 rfl
theorem k_121_2 : lk 121 2 = some (.iconst 1, 3, 0, 0, .int 1) := by decide +kernel
theorem x_121_2 : Tr sc d 121 (2, [l0, l1, l2, l3], [.int i1, .ref k0], h) Q = Tr sc d 121 (3, [l0, l1, l2, l3], [.int 1, .int i1, .ref k0], h) Q := t_go k_121_2 rfl
theorem k_121_3 : lk 121 3 = some (.invokevirtual 300, 6, 146, 2, .null) := by decide +kernel
theorem x_121_3 : Tr sc (d + 1) 121 (3, [l0, l1, l2, l3], [.int i2, .int i1, .ref k0], h) Q = (okp h k0 9 = true ∧ Tr sc d 146 (ent0 146 [.ref k0, .int i1, .int i2] h) (fun z => Tr sc (d + 1) 121 (6, [l0, l1, l2, l3], z.1.toList ++ [], z.2) Q)) := t_cv (as := [.int i1, .int i2]) (r := []) k_121_3 rfl rfl (Nat.le_of_ble_eq_true rfl) (Nat.le_of_ble_eq_true rfl) (Nat.le_of_ble_eq_true rfl)
theorem k_121_6 : lk 121 6 = some (.istore_n 3, 7, 3, 0, .null) := by decide +kernel
theorem x_121_6 : Tr sc d 121 (6, [l0, l1, l2, l3], [.int i0], h) Q = Tr sc d 121 (7, [l0, l1, cl2 l2, some (.int i0)], [], h) Q := t_istore_n k_121_6 (Nat.le_of_ble_eq_true rfl)
theorem k_121_7 : lk 121 7 = some (.iload_n 3, 8, 3, 0, .null) := by decide +kernel
theorem x_121_7 : Tr sc d 121 (7, [l0, l1, l2, some (.int x)], [], h) Q = Tr sc d 121 (8, [l0, l1, l2, some (.int x)], [.int x], h) Q := t_iload_n k_121_7 rfl
theorem k_121_8 : lk 121 8 = some (.ifCond .eq 5, 11, 13, 0, .null) := by decide +kernel
theorem x_121_8 : Tr sc d 121 (8, [l0, l1, l2, l3], [.int i0], h) Q = if i0 = 0 then Tr sc d 121 (13, [l0, l1, l2, l3], [], h) Q else Tr sc d 121 (11, [l0, l1, l2, l3], [], h) Q := t_if k_121_8 rfl
theorem k_121_11 : lk 121 11 = some (.iload_n 3, 12, 3, 0, .null) := by decide +kernel
theorem x_121_11 : Tr sc d 121 (11, [l0, l1, l2, some (.int x)], [], h) Q = Tr sc d 121 (12, [l0, l1, l2, some (.int x)], [.int x], h) Q := t_iload_n k_121_11 rfl
theorem k_121_12 : lk 121 12 = some (.ireturn, 13, 0, 0, .null) := by decide +kernel
theorem x_121_12 : Tr sc d 121 (12, [l0, l1, l2, l3], [.int i0], h) Q = Q (some (.int i0), h) := t_ret k_121_12 (by rw [r_121]; rfl)
theorem k_121_13 : lk 121 13 = some (.aload_n 0, 14, 0, 0, .null) := by decide +kernel
theorem x_121_13 : Tr sc d 121 (13, [some (.ref xk), l1, l2, l3], [], h) Q = Tr sc d 121 (14, [some (.ref xk), l1, l2, l3], [.ref xk], h) Q := t_aload_n k_121_13 rfl
theorem k_121_14 : lk 121 14 = some (.getfield 20, 17, 9, 2, .null) := by decide +kernel
theorem x_121_14 : Tr sc d 121 (14, [l0, l1, l2, l3], [.ref k0], h) Q = (okp h k0 9 = true ∧ ∃ q, hR h k0 2 = some q ∧ Tr sc d 121 (17, [l0, l1, l2, l3], [.ref q], h) Q) := t_getr k_121_14
theorem k_121_17 : lk 121 17 = some (.iload_n 1, 18, 1, 0, .null) := by decide +kernel
theorem x_121_17 : Tr sc d 121 (17, [l0, some (.int x), l2, l3], [.ref k0], h) Q = Tr sc d 121 (18, [l0, some (.int x), l2, l3], [.int x, .ref k0], h) Q := t_iload_n k_121_17 rfl
theorem k_121_18 : lk 121 18 = some (.aaload, 19, 0, 0, .null) := by decide +kernel
theorem x_121_18 : Tr sc d 121 (18, [l0, l1, l2, l3], [.int i1, .ref k0], h) Q = (((okp h k0 14 || okp h k0 15) && inb i1 (LN k0)) = true ∧ ∃ q, hR h k0 i1.toNatClampNeg = some q ∧ Tr sc d 121 (19, [l0, l1, l2, l3], [.ref q], h) Q) := t_aald k_121_18
theorem k_121_19 : lk 121 19 = some (.iload_n 2, 20, 2, 0, .null) := by decide +kernel
theorem x_121_19 : Tr sc d 121 (19, [l0, l1, some (.int x), l3], [.ref k0], h) Q = Tr sc d 121 (20, [l0, l1, some (.int x), l3], [.int x, .ref k0], h) Q := t_iload_n k_121_19 rfl
theorem k_121_20 : lk 121 20 = some (.invokevirtual 206, 23, 50, 1, .null) := by decide +kernel
theorem x_121_20 : Tr sc (d + 1) 121 (20, [l0, l1, l2, l3], [.int i1, .ref k0], h) Q = (okp h k0 6 = true ∧ Tr sc d 50 (ent0 50 [.ref k0, .int i1] h) (fun z => Tr sc (d + 1) 121 (23, [l0, l1, l2, l3], z.1.toList ++ [], z.2) Q)) := t_cv (as := [.int i1]) (r := []) k_121_20 rfl rfl (Nat.le_of_ble_eq_true rfl) (Nat.le_of_ble_eq_true rfl) (Nat.le_of_ble_eq_true rfl)
theorem k_121_23 : lk 121 23 = some (.ifCond .ne 9, 26, 32, 0, .null) := by decide +kernel
theorem x_121_23 : Tr sc d 121 (23, [l0, l1, l2, l3], [.int i0], h) Q = if i0 = 0 then Tr sc d 121 (26, [l0, l1, l2, l3], [], h) Q else Tr sc d 121 (32, [l0, l1, l2, l3], [], h) Q := t_if k_121_23 rfl
theorem k_121_26 : lk 121 26 = some (.aload_n 0, 27, 0, 0, .null) := by decide +kernel
theorem x_121_26 : Tr sc d 121 (26, [some (.ref xk), l1, l2, l3], [], h) Q = Tr sc d 121 (27, [some (.ref xk), l1, l2, l3], [.ref xk], h) Q := t_aload_n k_121_26 rfl
theorem k_121_27 : lk 121 27 = some (.iconst 2, 28, 0, 0, .int 2) := by decide +kernel
theorem x_121_27 : Tr sc d 121 (27, [l0, l1, l2, l3], [.ref k0], h) Q = Tr sc d 121 (28, [l0, l1, l2, l3], [.int 2, .ref k0], h) Q := t_go k_121_27 rfl
theorem k_121_28 : lk 121 28 = some (.invokevirtual 118, 31, 144, 1, .null) := by decide +kernel
theorem x_121_28 : Tr sc (d + 1) 121 (28, [l0, l1, l2, l3], [.int i1, .ref k0], h) Q = (okp h k0 9 = true ∧ Tr sc d 144 (ent0 144 [.ref k0, .int i1] h) (fun z => Tr sc (d + 1) 121 (31, [l0, l1, l2, l3], z.1.toList ++ [], z.2) Q)) := t_cv (as := [.int i1]) (r := []) k_121_28 rfl rfl (Nat.le_of_ble_eq_true rfl) (Nat.le_of_ble_eq_true rfl) (Nat.le_of_ble_eq_true rfl)
theorem k_121_31 : lk 121 31 = some (.ireturn, 32, 0, 0, .null) := by decide +kernel
theorem x_121_31 : Tr sc d 121 (31, [l0, l1, l2, l3], [.int i0], h) Q = Q (some (.int i0), h) := t_ret k_121_31 (by rw [r_121]; rfl)
theorem k_121_32 : lk 121 32 = some (.aload_n 0, 33, 0, 0, .null) := by decide +kernel
theorem x_121_32 : Tr sc d 121 (32, [some (.ref xk), l1, l2, l3], [], h) Q = Tr sc d 121 (33, [some (.ref xk), l1, l2, l3], [.ref xk], h) Q := t_aload_n k_121_32 rfl
theorem k_121_33 : lk 121 33 = some (.getfield 61, 36, 9, 9, .null) := by decide +kernel
theorem x_121_33 : Tr sc d 121 (33, [l0, l1, l2, l3], [.ref k0], h) Q = (okp h k0 9 = true ∧ ∃ q, hR h k0 9 = some q ∧ Tr sc d 121 (36, [l0, l1, l2, l3], [.ref q], h) Q) := t_getr k_121_33
theorem k_121_36 : lk 121 36 = some (.aload_n 0, 37, 0, 0, .null) := by decide +kernel
theorem x_121_36 : Tr sc d 121 (36, [some (.ref xk), l1, l2, l3], [.ref k0], h) Q = Tr sc d 121 (37, [some (.ref xk), l1, l2, l3], [.ref xk, .ref k0], h) Q := t_aload_n k_121_36 rfl
theorem k_121_37 : lk 121 37 = some (.getfield 20, 40, 9, 2, .null) := by decide +kernel
theorem x_121_37 : Tr sc d 121 (37, [l0, l1, l2, l3], [.ref k1, .ref k0], h) Q = (okp h k1 9 = true ∧ ∃ q, hR h k1 2 = some q ∧ Tr sc d 121 (40, [l0, l1, l2, l3], [.ref q, .ref k0], h) Q) := t_getr k_121_37
theorem k_121_40 : lk 121 40 = some (.iload_n 1, 41, 1, 0, .null) := by decide +kernel
theorem x_121_40 : Tr sc d 121 (40, [l0, some (.int x), l2, l3], [.ref k1, .ref k0], h) Q = Tr sc d 121 (41, [l0, some (.int x), l2, l3], [.int x, .ref k1, .ref k0], h) Q := t_iload_n k_121_40 rfl
theorem k_121_41 : lk 121 41 = some (.aaload, 42, 0, 0, .null) := by decide +kernel
theorem x_121_41 : Tr sc d 121 (41, [l0, l1, l2, l3], [.int i2, .ref k1, .ref k0], h) Q = (((okp h k1 14 || okp h k1 15) && inb i2 (LN k1)) = true ∧ ∃ q, hR h k1 i2.toNatClampNeg = some q ∧ Tr sc d 121 (42, [l0, l1, l2, l3], [.ref q, .ref k0], h) Q) := t_aald k_121_41
theorem k_121_42 : lk 121 42 = some (.invokevirtual 303, 45, 72, 1, .null) := by decide +kernel
theorem x_121_42 : Tr sc (d + 1) 121 (42, [l0, l1, l2, l3], [.ref k1, .ref k0], h) Q = (okp h k0 7 = true ∧ Tr sc d 72 (ent0 72 [.ref k0, .ref k1] h) (fun z => Tr sc (d + 1) 121 (45, [l0, l1, l2, l3], z.1.toList ++ [], z.2) Q)) := t_cv (as := [.ref k1]) (r := []) k_121_42 rfl rfl (Nat.le_of_ble_eq_true rfl) (Nat.le_of_ble_eq_true rfl) (Nat.le_of_ble_eq_true rfl)
theorem k_121_45 : lk 121 45 = some (.aload_n 0, 46, 0, 0, .null) := by decide +kernel
theorem x_121_45 : Tr sc d 121 (45, [some (.ref xk), l1, l2, l3], [], h) Q = Tr sc d 121 (46, [some (.ref xk), l1, l2, l3], [.ref xk], h) Q := t_aload_n k_121_45 rfl
theorem k_121_46 : lk 121 46 = some (.getfield 61, 49, 9, 9, .null) := by decide +kernel
theorem x_121_46 : Tr sc d 121 (46, [l0, l1, l2, l3], [.ref k0], h) Q = (okp h k0 9 = true ∧ ∃ q, hR h k0 9 = some q ∧ Tr sc d 121 (49, [l0, l1, l2, l3], [.ref q], h) Q) := t_getr k_121_46
theorem k_121_49 : lk 121 49 = some (.aload_n 0, 50, 0, 0, .null) := by decide +kernel
theorem x_121_49 : Tr sc d 121 (49, [some (.ref xk), l1, l2, l3], [.ref k0], h) Q = Tr sc d 121 (50, [some (.ref xk), l1, l2, l3], [.ref xk, .ref k0], h) Q := t_aload_n k_121_49 rfl
theorem k_121_50 : lk 121 50 = some (.getfield 20, 53, 9, 2, .null) := by decide +kernel
theorem x_121_50 : Tr sc d 121 (50, [l0, l1, l2, l3], [.ref k1, .ref k0], h) Q = (okp h k1 9 = true ∧ ∃ q, hR h k1 2 = some q ∧ Tr sc d 121 (53, [l0, l1, l2, l3], [.ref q, .ref k0], h) Q) := t_getr k_121_50
theorem k_121_53 : lk 121 53 = some (.iload_n 1, 54, 1, 0, .null) := by decide +kernel
theorem x_121_53 : Tr sc d 121 (53, [l0, some (.int x), l2, l3], [.ref k1, .ref k0], h) Q = Tr sc d 121 (54, [l0, some (.int x), l2, l3], [.int x, .ref k1, .ref k0], h) Q := t_iload_n k_121_53 rfl
theorem k_121_54 : lk 121 54 = some (.aaload, 55, 0, 0, .null) := by decide +kernel
theorem x_121_54 : Tr sc d 121 (54, [l0, l1, l2, l3], [.int i2, .ref k1, .ref k0], h) Q = (((okp h k1 14 || okp h k1 15) && inb i2 (LN k1)) = true ∧ ∃ q, hR h k1 i2.toNatClampNeg = some q ∧ Tr sc d 121 (55, [l0, l1, l2, l3], [.ref q, .ref k0], h) Q) := t_aald k_121_54
theorem k_121_55 : lk 121 55 = some (.iload_n 2, 56, 2, 0, .null) := by decide +kernel
theorem x_121_55 : Tr sc d 121 (55, [l0, l1, some (.int x), l3], [.ref k1, .ref k0], h) Q = Tr sc d 121 (56, [l0, l1, some (.int x), l3], [.int x, .ref k1, .ref k0], h) Q := t_iload_n k_121_55 rfl
theorem k_121_56 : lk 121 56 = some (.invokevirtual 312, 59, 79, 2, .null) := by decide +kernel
theorem x_121_56 : Tr sc (d + 1) 121 (56, [l0, l1, l2, l3], [.int i2, .ref k1, .ref k0], h) Q = (okp h k0 7 = true ∧ Tr sc d 79 (ent0 79 [.ref k0, .ref k1, .int i2] h) (fun z => Tr sc (d + 1) 121 (59, [l0, l1, l2, l3], z.1.toList ++ [], z.2) Q)) := t_cv (as := [.ref k1, .int i2]) (r := []) k_121_56 rfl rfl (Nat.le_of_ble_eq_true rfl) (Nat.le_of_ble_eq_true rfl) (Nat.le_of_ble_eq_true rfl)
theorem k_121_59 : lk 121 59 = some (.ireturn, 60, 0, 0, .null) := by decide +kernel
theorem x_121_59 : Tr sc d 121 (59, [l0, l1, l2, l3], [.int i0], h) Q = Q (some (.int i0), h) := t_ret k_121_59 (by rw [r_121]; rfl)
theorem e_121 : Tr sc d 121 (ent0 121 [.ref k0, .int i1, .int i2] h) Q = Tr sc d 121 (0, [some (.ref k0), some (.int i1), some (.int i2), none], [], h) Q := by
  have e : mL 121 = 4 := by decide +kernel
  unfold ent0
  rw [e]
  rfl
theorem r_122 : mR 122 = some .int := by decide +kernel
theorem k_122_0 : lk 122 0 = some (.aload_n 0, 1, 0, 0, .null) := by decide +kernel
theorem x_122_0 : Tr sc d 122 (0, [some (.ref xk), l1, l2], [], h) Q = Tr sc d 122 (1, [some (.ref xk), l1, l2], [.ref xk], h) Q := t_aload_n k_122_0 rfl
theorem k_122_1 : lk 122 1 = some (.iload_n 1, 2, 1, 0, .null) := by decide +kernel
theorem x_122_1 : Tr sc d 122 (1, [l0, some (.int x), l2], [.ref k0], h) Q = Tr sc d 122 (2, [l0, some (.int x), l2], [.int x, .ref k0], h) Q := t_iload_n k_122_1 rfl
theorem k_122_2 : lk 122 2 = some (.iconst 1, 3, 0, 0, .int 1) := by decide +kernel
theorem x_122_2 : Tr sc d 122 (2, [l0, l1, l2], [.int i1, .ref k0], h) Q = Tr sc d 122 (3, [l0, l1, l2], [.int 1, .int i1, .ref k0], h) Q := t_go k_122_2 rfl
theorem k_122_3 : lk 122 3 = some (.invokevirtual 300, 6, 146, 2, .null) := by decide +kernel
theorem x_122_3 : Tr sc (d + 1) 122 (3, [l0, l1, l2], [.int i2, .int i1, .ref k0], h) Q = (okp h k0 9 = true ∧ Tr sc d 146 (ent0 146 [.ref k0, .int i1, .int i2] h) (fun z => Tr sc (d + 1) 122 (6, [l0, l1, l2], z.1.toList ++ [], z.2) Q)) := t_cv (as := [.int i1, .int i2]) (r := []) k_122_3 rfl rfl (Nat.le_of_ble_eq_true rfl) (Nat.le_of_ble_eq_true rfl) (Nat.le_of_ble_eq_true rfl)
theorem k_122_6 : lk 122 6 = some (.istore_n 2, 7, 2, 0, .null) := by decide +kernel
theorem x_122_6 : Tr sc d 122 (6, [l0, l1, l2], [.int i0], h) Q = Tr sc d 122 (7, [l0, cl2 l1, some (.int i0)], [], h) Q := t_istore_n k_122_6 (Nat.le_of_ble_eq_true rfl)
theorem k_122_7 : lk 122 7 = some (.iload_n 2, 8, 2, 0, .null) := by decide +kernel
theorem x_122_7 : Tr sc d 122 (7, [l0, l1, some (.int x)], [], h) Q = Tr sc d 122 (8, [l0, l1, some (.int x)], [.int x], h) Q := t_iload_n k_122_7 rfl
theorem k_122_8 : lk 122 8 = some (.ifCond .eq 5, 11, 13, 0, .null) := by decide +kernel
theorem x_122_8 : Tr sc d 122 (8, [l0, l1, l2], [.int i0], h) Q = if i0 = 0 then Tr sc d 122 (13, [l0, l1, l2], [], h) Q else Tr sc d 122 (11, [l0, l1, l2], [], h) Q := t_if k_122_8 rfl
theorem k_122_11 : lk 122 11 = some (.iload_n 2, 12, 2, 0, .null) := by decide +kernel
theorem x_122_11 : Tr sc d 122 (11, [l0, l1, some (.int x)], [], h) Q = Tr sc d 122 (12, [l0, l1, some (.int x)], [.int x], h) Q := t_iload_n k_122_11 rfl
theorem k_122_12 : lk 122 12 = some (.ireturn, 13, 0, 0, .null) := by decide +kernel
theorem x_122_12 : Tr sc d 122 (12, [l0, l1, l2], [.int i0], h) Q = Q (some (.int i0), h) := t_ret k_122_12 (by rw [r_122]; rfl)
theorem k_122_13 : lk 122 13 = some (.aload_n 0, 14, 0, 0, .null) := by decide +kernel
theorem x_122_13 : Tr sc d 122 (13, [some (.ref xk), l1, l2], [], h) Q = Tr sc d 122 (14, [some (.ref xk), l1, l2], [.ref xk], h) Q := t_aload_n k_122_13 rfl
theorem k_122_14 : lk 122 14 = some (.getfield 61, 17, 9, 9, .null) := by decide +kernel
theorem x_122_14 : Tr sc d 122 (14, [l0, l1, l2], [.ref k0], h) Q = (okp h k0 9 = true ∧ ∃ q, hR h k0 9 = some q ∧ Tr sc d 122 (17, [l0, l1, l2], [.ref q], h) Q) := t_getr k_122_14
theorem k_122_17 : lk 122 17 = some (.aload_n 0, 18, 0, 0, .null) := by decide +kernel
theorem x_122_17 : Tr sc d 122 (17, [some (.ref xk), l1, l2], [.ref k0], h) Q = Tr sc d 122 (18, [some (.ref xk), l1, l2], [.ref xk, .ref k0], h) Q := t_aload_n k_122_17 rfl
theorem k_122_18 : lk 122 18 = some (.getfield 20, 21, 9, 2, .null) := by decide +kernel
theorem x_122_18 : Tr sc d 122 (18, [l0, l1, l2], [.ref k1, .ref k0], h) Q = (okp h k1 9 = true ∧ ∃ q, hR h k1 2 = some q ∧ Tr sc d 122 (21, [l0, l1, l2], [.ref q, .ref k0], h) Q) := t_getr k_122_18
theorem k_122_21 : lk 122 21 = some (.iload_n 1, 22, 1, 0, .null) := by decide +kernel
theorem x_122_21 : Tr sc d 122 (21, [l0, some (.int x), l2], [.ref k1, .ref k0], h) Q = Tr sc d 122 (22, [l0, some (.int x), l2], [.int x, .ref k1, .ref k0], h) Q := t_iload_n k_122_21 rfl
theorem k_122_22 : lk 122 22 = some (.aaload, 23, 0, 0, .null) := by decide +kernel
theorem x_122_22 : Tr sc d 122 (22, [l0, l1, l2], [.int i2, .ref k1, .ref k0], h) Q = (((okp h k1 14 || okp h k1 15) && inb i2 (LN k1)) = true ∧ ∃ q, hR h k1 i2.toNatClampNeg = some q ∧ Tr sc d 122 (23, [l0, l1, l2], [.ref q, .ref k0], h) Q) := t_aald k_122_22
theorem k_122_23 : lk 122 23 = some (.invokevirtual 303, 26, 72, 1, .null) := by decide +kernel
theorem x_122_23 : Tr sc (d + 1) 122 (23, [l0, l1, l2], [.ref k1, .ref k0], h) Q = (okp h k0 7 = true ∧ Tr sc d 72 (ent0 72 [.ref k0, .ref k1] h) (fun z => Tr sc (d + 1) 122 (26, [l0, l1, l2], z.1.toList ++ [], z.2) Q)) := t_cv (as := [.ref k1]) (r := []) k_122_23 rfl rfl (Nat.le_of_ble_eq_true rfl) (Nat.le_of_ble_eq_true rfl) (Nat.le_of_ble_eq_true rfl)
theorem k_122_26 : lk 122 26 = some (.aload_n 0, 27, 0, 0, .null) := by decide +kernel
theorem x_122_26 : Tr sc d 122 (26, [some (.ref xk), l1, l2], [], h) Q = Tr sc d 122 (27, [some (.ref xk), l1, l2], [.ref xk], h) Q := t_aload_n k_122_26 rfl
theorem k_122_27 : lk 122 27 = some (.getfield 61, 30, 9, 9, .null) := by decide +kernel
theorem x_122_27 : Tr sc d 122 (27, [l0, l1, l2], [.ref k0], h) Q = (okp h k0 9 = true ∧ ∃ q, hR h k0 9 = some q ∧ Tr sc d 122 (30, [l0, l1, l2], [.ref q], h) Q) := t_getr k_122_27
theorem k_122_30 : lk 122 30 = some (.aload_n 0, 31, 0, 0, .null) := by decide +kernel
theorem x_122_30 : Tr sc d 122 (30, [some (.ref xk), l1, l2], [.ref k0], h) Q = Tr sc d 122 (31, [some (.ref xk), l1, l2], [.ref xk, .ref k0], h) Q := t_aload_n k_122_30 rfl
theorem k_122_31 : lk 122 31 = some (.getfield 20, 34, 9, 2, .null) := by decide +kernel
theorem x_122_31 : Tr sc d 122 (31, [l0, l1, l2], [.ref k1, .ref k0], h) Q = (okp h k1 9 = true ∧ ∃ q, hR h k1 2 = some q ∧ Tr sc d 122 (34, [l0, l1, l2], [.ref q, .ref k0], h) Q) := t_getr k_122_31
theorem k_122_34 : lk 122 34 = some (.iload_n 1, 35, 1, 0, .null) := by decide +kernel
theorem x_122_34 : Tr sc d 122 (34, [l0, some (.int x), l2], [.ref k1, .ref k0], h) Q = Tr sc d 122 (35, [l0, some (.int x), l2], [.int x, .ref k1, .ref k0], h) Q := t_iload_n k_122_34 rfl
theorem k_122_35 : lk 122 35 = some (.aaload, 36, 0, 0, .null) := by decide +kernel
theorem x_122_35 : Tr sc d 122 (35, [l0, l1, l2], [.int i2, .ref k1, .ref k0], h) Q = (((okp h k1 14 || okp h k1 15) && inb i2 (LN k1)) = true ∧ ∃ q, hR h k1 i2.toNatClampNeg = some q ∧ Tr sc d 122 (36, [l0, l1, l2], [.ref q, .ref k0], h) Q) := t_aald k_122_35
theorem k_122_36 : lk 122 36 = some (.invokevirtual 316, 39, 80, 1, .null) := by decide +kernel
theorem x_122_36 : Tr sc (d + 1) 122 (36, [l0, l1, l2], [.ref k1, .ref k0], h) Q = (okp h k0 7 = true ∧ Tr sc d 80 (ent0 80 [.ref k0, .ref k1] h) (fun z => Tr sc (d + 1) 122 (39, [l0, l1, l2], z.1.toList ++ [], z.2) Q)) := t_cv (as := [.ref k1]) (r := []) k_122_36 rfl rfl (Nat.le_of_ble_eq_true rfl) (Nat.le_of_ble_eq_true rfl) (Nat.le_of_ble_eq_true rfl)
theorem k_122_39 : lk 122 39 = some (.ifCond .eq 7, 42, 46, 0, .null) := by decide +kernel
theorem x_122_39 : Tr sc d 122 (39, [l0, l1, l2], [.int i0], h) Q = if i0 = 0 then Tr sc d 122 (46, [l0, l1, l2], [], h) Q else Tr sc d 122 (42, [l0, l1, l2], [], h) Q := t_if k_122_39 rfl
theorem k_122_42 : lk 122 42 = some (.iconst 1, 43, 0, 0, .int 1) := by decide +kernel
theorem x_122_42 : Tr sc d 122 (42, [l0, l1, l2], [], h) Q = Tr sc d 122 (43, [l0, l1, l2], [.int 1], h) Q := t_go k_122_42 rfl
theorem k_122_43 : lk 122 43 = some (.goto 4, 46, 47, 0, .null) := by decide +kernel
theorem x_122_43 : Tr sc d 122 (43, [l0, l1, l2], [.int i0], h) Q = Tr sc d 122 (47, [l0, l1, l2], [.int i0], h) Q := t_go k_122_43 rfl
theorem k_122_46 : lk 122 46 = some (.iconst 0, 47, 0, 0, .int 0) := by decide +kernel
theorem x_122_46 : Tr sc d 122 (46, [l0, l1, l2], [], h) Q = Tr sc d 122 (47, [l0, l1, l2], [.int 0], h) Q := t_go k_122_46 rfl
theorem k_122_47 : lk 122 47 = some (.ireturn, 48, 0, 0, .null) := by decide +kernel
theorem x_122_47 : Tr sc d 122 (47, [l0, l1, l2], [.int i0], h) Q = Q (some (.int i0), h) := t_ret k_122_47 (by rw [r_122]; rfl)
theorem e_122 : Tr sc d 122 (ent0 122 [.ref k0, .int i1] h) Q = Tr sc d 122 (0, [some (.ref k0), some (.int i1), none], [], h) Q := by
  have e : mL 122 = 3 := by decide +kernel
  unfold ent0
  rw [e]
  rfl
theorem r_123 : mR 123 = some .int := by decide +kernel
theorem k_123_0 : lk 123 0 = some (.aload_n 0, 1, 0, 0, .null) := by decide +kernel
theorem x_123_0 : Tr sc d 123 (0, [some (.ref xk), l1, l2, l3], [], h) Q = Tr sc d 123 (1, [some (.ref xk), l1, l2, l3], [.ref xk], h) Q := t_aload_n k_123_0 rfl
theorem k_123_1 : lk 123 1 = some (.iload_n 1, 2, 1, 0, .null) := by decide +kernel
theorem x_123_1 : Tr sc d 123 (1, [l0, some (.int x), l2, l3], [.ref k0], h) Q = Tr sc d 123 (2, [l0, some (.int x), l2, l3], [.int x, .ref k0], h) Q := t_iload_n k_123_1 rfl
theorem k_123_2 : lk 123 2 = some (.iload_n 2, 3, 2, 0, .null) := by decide +kernel
theorem x_123_2 : Tr sc d 123 (2, [l0, l1, some (.int x), l3], [.int i1, .ref k0], h) Q = Tr sc d 123 (3, [l0, l1, some (.int x), l3], [.int x, .int i1, .ref k0], h) Q := t_iload_n k_123_2 rfl
theorem k_123_3 : lk 123 3 = some (.iconst 3, 4, 0, 0, .int 3) := by decide +kernel
theorem x_123_3 : Tr sc d 123 (3, [l0, l1, l2, l3], [.int i2, .int i1, .ref k0], h) Q = Tr sc d 123 (4, [l0, l1, l2, l3], [.int 3, .int i2, .int i1, .ref k0], h) Q := t_go k_123_3 rfl
theorem k_123_4 : lk 123 4 = some (.invokestatic 270, 7, 143, 2, .null) := by decide +kernel
theorem x_123_4 : Tr sc (d + 1) 123 (4, [l0, l1, l2, l3], [.int i3, .int i2, .int i1, .ref k0], h) Q = Tr sc d 143 (ent0 143 [.int i2, .int i3] h) (fun z => Tr sc (d + 1) 123 (7, [l0, l1, l2, l3], z.1.toList ++ [.int i1, .ref k0], z.2) Q) := t_cs (as := [.int i2, .int i3]) (r := [.int i1, .ref k0]) k_123_4 (by decide) rfl rfl (Nat.le_of_ble_eq_true rfl) (Nat.le_of_ble_eq_true rfl)
theorem k_123_7 : lk 123 7 = some (.invokevirtual 300, 10, 146, 2, .null) := by decide +kernel
theorem x_123_7 : Tr sc (d + 1) 123 (7, [l0, l1, l2, l3], [.int i2, .int i1, .ref k0], h) Q = (okp h k0 9 = true ∧ Tr sc d 146 (ent0 146 [.ref k0, .int i1, .int i2] h) (fun z => Tr sc (d + 1) 123 (10, [l0, l1, l2, l3], z.1.toList ++ [], z.2) Q)) := t_cv (as := [.int i1, .int i2]) (r := []) k_123_7 rfl rfl (Nat.le_of_ble_eq_true rfl) (Nat.le_of_ble_eq_true rfl) (Nat.le_of_ble_eq_true rfl)
theorem k_123_10 : lk 123 10 = some (.istore_n 3, 11, 3, 0, .null) := by decide +kernel
theorem x_123_10 : Tr sc d 123 (10, [l0, l1, l2, l3], [.int i0], h) Q = Tr sc d 123 (11, [l0, l1, cl2 l2, some (.int i0)], [], h) Q := t_istore_n k_123_10 (Nat.le_of_ble_eq_true rfl)
theorem k_123_11 : lk 123 11 = some (.iload_n 3, 12, 3, 0, .null) := by decide +kernel
theorem x_123_11 : Tr sc d 123 (11, [l0, l1, l2, some (.int x)], [], h) Q = Tr sc d 123 (12, [l0, l1, l2, some (.int x)], [.int x], h) Q := t_iload_n k_123_11 rfl
theorem k_123_12 : lk 123 12 = some (.ifCond .eq 5, 15, 17, 0, .null) := by decide +kernel
theorem x_123_12 : Tr sc d 123 (12, [l0, l1, l2, l3], [.int i0], h) Q = if i0 = 0 then Tr sc d 123 (17, [l0, l1, l2, l3], [], h) Q else Tr sc d 123 (15, [l0, l1, l2, l3], [], h) Q := t_if k_123_12 rfl
theorem k_123_15 : lk 123 15 = some (.iload_n 3, 16, 3, 0, .null) := by decide +kernel
theorem x_123_15 : Tr sc d 123 (15, [l0, l1, l2, some (.int x)], [], h) Q = Tr sc d 123 (16, [l0, l1, l2, some (.int x)], [.int x], h) Q := t_iload_n k_123_15 rfl
theorem k_123_16 : lk 123 16 = some (.ireturn, 17, 0, 0, .null) := by decide +kernel
theorem x_123_16 : Tr sc d 123 (16, [l0, l1, l2, l3], [.int i0], h) Q = Q (some (.int i0), h) := t_ret k_123_16 (by rw [r_123]; rfl)
theorem k_123_17 : lk 123 17 = some (.aload_n 0, 18, 0, 0, .null) := by decide +kernel
theorem x_123_17 : Tr sc d 123 (17, [some (.ref xk), l1, l2, l3], [], h) Q = Tr sc d 123 (18, [some (.ref xk), l1, l2, l3], [.ref xk], h) Q := t_aload_n k_123_17 rfl
theorem k_123_18 : lk 123 18 = some (.iload_n 1, 19, 1, 0, .null) := by decide +kernel
theorem x_123_18 : Tr sc d 123 (18, [l0, some (.int x), l2, l3], [.ref k0], h) Q = Tr sc d 123 (19, [l0, some (.int x), l2, l3], [.int x, .ref k0], h) Q := t_iload_n k_123_18 rfl
theorem k_123_19 : lk 123 19 = some (.iload_n 2, 20, 2, 0, .null) := by decide +kernel
theorem x_123_19 : Tr sc d 123 (19, [l0, l1, some (.int x), l3], [.int i1, .ref k0], h) Q = Tr sc d 123 (20, [l0, l1, some (.int x), l3], [.int x, .int i1, .ref k0], h) Q := t_iload_n k_123_19 rfl
theorem k_123_20 : lk 123 20 = some (.invokevirtual 320, 23, 151, 2, .null) := by decide +kernel
theorem x_123_20 : Tr sc (d + 1) 123 (20, [l0, l1, l2, l3], [.int i2, .int i1, .ref k0], h) Q = (okp h k0 9 = true ∧ Tr sc d 151 (ent0 151 [.ref k0, .int i1, .int i2] h) (fun z => Tr sc (d + 1) 123 (23, [l0, l1, l2, l3], z.1.toList ++ [], z.2) Q)) := t_cv (as := [.int i1, .int i2]) (r := []) k_123_20 rfl rfl (Nat.le_of_ble_eq_true rfl) (Nat.le_of_ble_eq_true rfl) (Nat.le_of_ble_eq_true rfl)
theorem k_123_23 : lk 123 23 = some (.aload_n 0, 24, 0, 0, .null) := by decide +kernel
theorem x_123_23 : Tr sc d 123 (23, [some (.ref xk), l1, l2, l3], [], h) Q = Tr sc d 123 (24, [some (.ref xk), l1, l2, l3], [.ref xk], h) Q := t_aload_n k_123_23 rfl
theorem k_123_24 : lk 123 24 = some (.aload_n 0, 25, 0, 0, .null) := by decide +kernel
theorem x_123_24 : Tr sc d 123 (24, [some (.ref xk), l1, l2, l3], [.ref k0], h) Q = Tr sc d 123 (25, [some (.ref xk), l1, l2, l3], [.ref xk, .ref k0], h) Q := t_aload_n k_123_24 rfl
theorem k_123_25 : lk 123 25 = some (.getfield 70, 28, 9, 10, .null) := by decide +kernel
theorem x_123_25 : Tr sc d 123 (25, [l0, l1, l2, l3], [.ref k1, .ref k0], h) Q = (okp h k1 9 = true ∧ ∃ q, hR h k1 10 = some q ∧ Tr sc d 123 (28, [l0, l1, l2, l3], [.ref q, .ref k0], h) Q) := t_getr k_123_25
theorem k_123_28 : lk 123 28 = some (.getfield 323, 31, 2, 13, .int 0) := by decide +kernel
theorem x_123_28 : Tr sc d 123 (28, [l0, l1, l2, l3], [.ref k1, .ref k0], h) Q = (okp h k1 2 = true ∧ Tr sc d 123 (31, [l0, l1, l2, l3], [.int (hI h k1 13), .ref k0], h) Q) := t_gd k_123_28 rfl
theorem k_123_31 : lk 123 31 = some (.i2l, 32, 0, 0, .null) := by decide +kernel
theorem x_123_31 : Tr sc d 123 (31, [l0, l1, l2, l3], [.int i1, .ref k0], h) Q = Tr sc d 123 (32, [l0, l1, l2, l3], [.long i1.toInt64, .ref k0], h) Q := t_go k_123_31 rfl
theorem k_123_32 : lk 123 32 = some (.putfield 101, 35, 9, 16, .long 0) := by decide +kernel
theorem x_123_32 : Tr sc d 123 (32, [l0, l1, l2, l3], [.long j1, .ref k0], h) Q = (okp h k0 9 = true ∧ Tr sc d 123 (35, [l0, l1, l2, l3], [], (sL h k0 16 j1)) Q) := t_gd k_123_32 rfl
theorem k_123_35 : lk 123 35 = some (.aload_n 0, 36, 0, 0, .null) := by decide +kernel
theorem x_123_35 : Tr sc d 123 (35, [some (.ref xk), l1, l2, l3], [], h) Q = Tr sc d 123 (36, [some (.ref xk), l1, l2, l3], [.ref xk], h) Q := t_aload_n k_123_35 rfl
theorem k_123_36 : lk 123 36 = some (.getfield 70, 39, 9, 10, .null) := by decide +kernel
theorem x_123_36 : Tr sc d 123 (36, [l0, l1, l2, l3], [.ref k0], h) Q = (okp h k0 9 = true ∧ ∃ q, hR h k0 10 = some q ∧ Tr sc d 123 (39, [l0, l1, l2, l3], [.ref q], h) Q) := t_getr k_123_36
theorem k_123_39 : lk 123 39 = some (.getfield 326, 42, 2, 12, .int 0) := by decide +kernel
theorem x_123_39 : Tr sc d 123 (39, [l0, l1, l2, l3], [.ref k0], h) Q = (okp h k0 2 = true ∧ Tr sc d 123 (42, [l0, l1, l2, l3], [.int (hI h k0 12)], h) Q) := t_gd k_123_39 rfl
theorem k_123_42 : lk 123 42 = some (.ireturn, 43, 0, 0, .null) := by decide +kernel
theorem x_123_42 : Tr sc d 123 (42, [l0, l1, l2, l3], [.int i0], h) Q = Q (some (.int i0), h) := t_ret k_123_42 (by rw [r_123]; rfl)
theorem e_123 : Tr sc d 123 (ent0 123 [.ref k0, .int i1, .int i2] h) Q = Tr sc d 123 (0, [some (.ref k0), some (.int i1), some (.int i2), none], [], h) Q := by
  have e : mL 123 = 4 := by decide +kernel
  unfold ent0
  rw [e]
  rfl
theorem r_124 : mR 124 = some .int := by decide +kernel
theorem k_124_0 : lk 124 0 = some (.aload_n 0, 1, 0, 0, .null) := by decide +kernel
theorem x_124_0 : Tr sc d 124 (0, [some (.ref xk), l1, l2, l3], [], h) Q = Tr sc d 124 (1, [some (.ref xk), l1, l2, l3], [.ref xk], h) Q := t_aload_n k_124_0 rfl
theorem k_124_1 : lk 124 1 = some (.iload_n 1, 2, 1, 0, .null) := by decide +kernel
theorem x_124_1 : Tr sc d 124 (1, [l0, some (.int x), l2, l3], [.ref k0], h) Q = Tr sc d 124 (2, [l0, some (.int x), l2, l3], [.int x, .ref k0], h) Q := t_iload_n k_124_1 rfl
theorem k_124_2 : lk 124 2 = some (.iload_n 2, 3, 2, 0, .null) := by decide +kernel
theorem x_124_2 : Tr sc d 124 (2, [l0, l1, some (.int x), l3], [.int i1, .ref k0], h) Q = Tr sc d 124 (3, [l0, l1, some (.int x), l3], [.int x, .int i1, .ref k0], h) Q := t_iload_n k_124_2 rfl
theorem k_124_3 : lk 124 3 = some (.iconst 3, 4, 0, 0, .int 3) := by decide +kernel
theorem x_124_3 : Tr sc d 124 (3, [l0, l1, l2, l3], [.int i2, .int i1, .ref k0], h) Q = Tr sc d 124 (4, [l0, l1, l2, l3], [.int 3, .int i2, .int i1, .ref k0], h) Q := t_go k_124_3 rfl
theorem k_124_4 : lk 124 4 = some (.invokestatic 270, 7, 143, 2, .null) := by decide +kernel
theorem x_124_4 : Tr sc (d + 1) 124 (4, [l0, l1, l2, l3], [.int i3, .int i2, .int i1, .ref k0], h) Q = Tr sc d 143 (ent0 143 [.int i2, .int i3] h) (fun z => Tr sc (d + 1) 124 (7, [l0, l1, l2, l3], z.1.toList ++ [.int i1, .ref k0], z.2) Q) := t_cs (as := [.int i2, .int i3]) (r := [.int i1, .ref k0]) k_124_4 (by decide) rfl rfl (Nat.le_of_ble_eq_true rfl) (Nat.le_of_ble_eq_true rfl)
theorem k_124_7 : lk 124 7 = some (.invokevirtual 300, 10, 146, 2, .null) := by decide +kernel
theorem x_124_7 : Tr sc (d + 1) 124 (7, [l0, l1, l2, l3], [.int i2, .int i1, .ref k0], h) Q = (okp h k0 9 = true ∧ Tr sc d 146 (ent0 146 [.ref k0, .int i1, .int i2] h) (fun z => Tr sc (d + 1) 124 (10, [l0, l1, l2, l3], z.1.toList ++ [], z.2) Q)) := t_cv (as := [.int i1, .int i2]) (r := []) k_124_7 rfl rfl (Nat.le_of_ble_eq_true rfl) (Nat.le_of_ble_eq_true rfl) (Nat.le_of_ble_eq_true rfl)
theorem k_124_10 : lk 124 10 = some (.istore_n 3, 11, 3, 0, .null) := by decide +kernel
theorem x_124_10 : Tr sc d 124 (10, [l0, l1, l2, l3], [.int i0], h) Q = Tr sc d 124 (11, [l0, l1, cl2 l2, some (.int i0)], [], h) Q := t_istore_n k_124_10 (Nat.le_of_ble_eq_true rfl)
theorem k_124_11 : lk 124 11 = some (.iload_n 3, 12, 3, 0, .null) := by decide +kernel
theorem x_124_11 : Tr sc d 124 (11, [l0, l1, l2, some (.int x)], [], h) Q = Tr sc d 124 (12, [l0, l1, l2, some (.int x)], [.int x], h) Q := t_iload_n k_124_11 rfl
theorem k_124_12 : lk 124 12 = some (.ifCond .eq 5, 15, 17, 0, .null) := by decide +kernel
theorem x_124_12 : Tr sc d 124 (12, [l0, l1, l2, l3], [.int i0], h) Q = if i0 = 0 then Tr sc d 124 (17, [l0, l1, l2, l3], [], h) Q else Tr sc d 124 (15, [l0, l1, l2, l3], [], h) Q := t_if k_124_12 rfl
theorem k_124_15 : lk 124 15 = some (.iload_n 3, 16, 3, 0, .null) := by decide +kernel
theorem x_124_15 : Tr sc d 124 (15, [l0, l1, l2, some (.int x)], [], h) Q = Tr sc d 124 (16, [l0, l1, l2, some (.int x)], [.int x], h) Q := t_iload_n k_124_15 rfl
theorem k_124_16 : lk 124 16 = some (.ireturn, 17, 0, 0, .null) := by decide +kernel
theorem x_124_16 : Tr sc d 124 (16, [l0, l1, l2, l3], [.int i0], h) Q = Q (some (.int i0), h) := t_ret k_124_16 (by rw [r_124]; rfl)
theorem k_124_17 : lk 124 17 = some (.aload_n 0, 18, 0, 0, .null) := by decide +kernel
theorem x_124_17 : Tr sc d 124 (17, [some (.ref xk), l1, l2, l3], [], h) Q = Tr sc d 124 (18, [some (.ref xk), l1, l2, l3], [.ref xk], h) Q := t_aload_n k_124_17 rfl
theorem k_124_18 : lk 124 18 = some (.iload_n 1, 19, 1, 0, .null) := by decide +kernel
theorem x_124_18 : Tr sc d 124 (18, [l0, some (.int x), l2, l3], [.ref k0], h) Q = Tr sc d 124 (19, [l0, some (.int x), l2, l3], [.int x, .ref k0], h) Q := t_iload_n k_124_18 rfl
theorem k_124_19 : lk 124 19 = some (.iload_n 2, 20, 2, 0, .null) := by decide +kernel
theorem x_124_19 : Tr sc d 124 (19, [l0, l1, some (.int x), l3], [.int i1, .ref k0], h) Q = Tr sc d 124 (20, [l0, l1, some (.int x), l3], [.int x, .int i1, .ref k0], h) Q := t_iload_n k_124_19 rfl
theorem k_124_20 : lk 124 20 = some (.invokevirtual 320, 23, 151, 2, .null) := by decide +kernel
theorem x_124_20 : Tr sc (d + 1) 124 (20, [l0, l1, l2, l3], [.int i2, .int i1, .ref k0], h) Q = (okp h k0 9 = true ∧ Tr sc d 151 (ent0 151 [.ref k0, .int i1, .int i2] h) (fun z => Tr sc (d + 1) 124 (23, [l0, l1, l2, l3], z.1.toList ++ [], z.2) Q)) := t_cv (as := [.int i1, .int i2]) (r := []) k_124_20 rfl rfl (Nat.le_of_ble_eq_true rfl) (Nat.le_of_ble_eq_true rfl) (Nat.le_of_ble_eq_true rfl)
theorem k_124_23 : lk 124 23 = some (.aload_n 0, 24, 0, 0, .null) := by decide +kernel
theorem x_124_23 : Tr sc d 124 (23, [some (.ref xk), l1, l2, l3], [], h) Q = Tr sc d 124 (24, [some (.ref xk), l1, l2, l3], [.ref xk], h) Q := t_aload_n k_124_23 rfl
theorem k_124_24 : lk 124 24 = some (.aload_n 0, 25, 0, 0, .null) := by decide +kernel
theorem x_124_24 : Tr sc d 124 (24, [some (.ref xk), l1, l2, l3], [.ref k0], h) Q = Tr sc d 124 (25, [some (.ref xk), l1, l2, l3], [.ref xk, .ref k0], h) Q := t_aload_n k_124_24 rfl
theorem k_124_25 : lk 124 25 = some (.getfield 70, 28, 9, 10, .null) := by decide +kernel
theorem x_124_25 : Tr sc d 124 (25, [l0, l1, l2, l3], [.ref k1, .ref k0], h) Q = (okp h k1 9 = true ∧ ∃ q, hR h k1 10 = some q ∧ Tr sc d 124 (28, [l0, l1, l2, l3], [.ref q, .ref k0], h) Q) := t_getr k_124_25
theorem k_124_28 : lk 124 28 = some (.getfield 329, 31, 2, 14, .int 0) := by decide +kernel
theorem x_124_28 : Tr sc d 124 (28, [l0, l1, l2, l3], [.ref k1, .ref k0], h) Q = (okp h k1 2 = true ∧ Tr sc d 124 (31, [l0, l1, l2, l3], [.int (hI h k1 14), .ref k0], h) Q) := t_gd k_124_28 rfl
theorem k_124_31 : lk 124 31 = some (.i2l, 32, 0, 0, .null) := by decide +kernel
theorem x_124_31 : Tr sc d 124 (31, [l0, l1, l2, l3], [.int i1, .ref k0], h) Q = Tr sc d 124 (32, [l0, l1, l2, l3], [.long i1.toInt64, .ref k0], h) Q := t_go k_124_31 rfl
theorem k_124_32 : lk 124 32 = some (.putfield 101, 35, 9, 16, .long 0) := by decide +kernel
theorem x_124_32 : Tr sc d 124 (32, [l0, l1, l2, l3], [.long j1, .ref k0], h) Q = (okp h k0 9 = true ∧ Tr sc d 124 (35, [l0, l1, l2, l3], [], (sL h k0 16 j1)) Q) := t_gd k_124_32 rfl
theorem k_124_35 : lk 124 35 = some (.aload_n 0, 36, 0, 0, .null) := by decide +kernel
theorem x_124_35 : Tr sc d 124 (35, [some (.ref xk), l1, l2, l3], [], h) Q = Tr sc d 124 (36, [some (.ref xk), l1, l2, l3], [.ref xk], h) Q := t_aload_n k_124_35 rfl
theorem k_124_36 : lk 124 36 = some (.getfield 70, 39, 9, 10, .null) := by decide +kernel
theorem x_124_36 : Tr sc d 124 (36, [l0, l1, l2, l3], [.ref k0], h) Q = (okp h k0 9 = true ∧ ∃ q, hR h k0 10 = some q ∧ Tr sc d 124 (39, [l0, l1, l2, l3], [.ref q], h) Q) := t_getr k_124_36
theorem k_124_39 : lk 124 39 = some (.getfield 326, 42, 2, 12, .int 0) := by decide +kernel
theorem x_124_39 : Tr sc d 124 (39, [l0, l1, l2, l3], [.ref k0], h) Q = (okp h k0 2 = true ∧ Tr sc d 124 (42, [l0, l1, l2, l3], [.int (hI h k0 12)], h) Q) := t_gd k_124_39 rfl
theorem k_124_42 : lk 124 42 = some (.aload_n 0, 43, 0, 0, .null) := by decide +kernel
theorem x_124_42 : Tr sc d 124 (42, [some (.ref xk), l1, l2, l3], [.int i0], h) Q = Tr sc d 124 (43, [some (.ref xk), l1, l2, l3], [.ref xk, .int i0], h) Q := t_aload_n k_124_42 rfl
theorem k_124_43 : lk 124 43 = some (.getfield 51, 46, 9, 7, .null) := by decide +kernel
theorem x_124_43 : Tr sc d 124 (43, [l0, l1, l2, l3], [.ref k1, .int i0], h) Q = (okp h k1 9 = true ∧ ∃ q, hR h k1 7 = some q ∧ Tr sc d 124 (46, [l0, l1, l2, l3], [.ref q, .int i0], h) Q) := t_getr k_124_43
theorem k_124_46 : lk 124 46 = some (.getfield 280, 49, 1, 4, .int 0) := by decide +kernel
theorem x_124_46 : Tr sc d 124 (46, [l0, l1, l2, l3], [.ref k1, .int i0], h) Q = (okp h k1 1 = true ∧ Tr sc d 124 (49, [l0, l1, l2, l3], [.int (hI h k1 4), .int i0], h) Q) := t_gd k_124_46 rfl
theorem k_124_49 : lk 124 49 = some (.isub, 50, 0, 0, .null) := by decide +kernel
theorem x_124_49 : Tr sc d 124 (49, [l0, l1, l2, l3], [.int i1, .int i0], h) Q = Tr sc d 124 (50, [l0, l1, l2, l3], [.int (i0 - i1)], h) Q := t_go k_124_49 rfl
theorem k_124_50 : lk 124 50 = some (.aload_n 0, 51, 0, 0, .null) := by decide +kernel
theorem x_124_50 : Tr sc d 124 (50, [some (.ref xk), l1, l2, l3], [.int i0], h) Q = Tr sc d 124 (51, [some (.ref xk), l1, l2, l3], [.ref xk, .int i0], h) Q := t_aload_n k_124_50 rfl
theorem k_124_51 : lk 124 51 = some (.getfield 70, 54, 9, 10, .null) := by decide +kernel
theorem x_124_51 : Tr sc d 124 (51, [l0, l1, l2, l3], [.ref k1, .int i0], h) Q = (okp h k1 9 = true ∧ ∃ q, hR h k1 10 = some q ∧ Tr sc d 124 (54, [l0, l1, l2, l3], [.ref q, .int i0], h) Q) := t_getr k_124_51
theorem k_124_54 : lk 124 54 = some (.getfield 323, 57, 2, 13, .int 0) := by decide +kernel
theorem x_124_54 : Tr sc d 124 (54, [l0, l1, l2, l3], [.ref k1, .int i0], h) Q = (okp h k1 2 = true ∧ Tr sc d 124 (57, [l0, l1, l2, l3], [.int (hI h k1 13), .int i0], h) Q) := t_gd k_124_54 rfl
theorem k_124_57 : lk 124 57 = some (.iadd, 58, 0, 0, .null) := by decide +kernel
theorem x_124_57 : Tr sc d 124 (57, [l0, l1, l2, l3], [.int i1, .int i0], h) Q = Tr sc d 124 (58, [l0, l1, l2, l3], [.int (i0 + i1)], h) Q := t_go k_124_57 rfl
theorem k_124_58 : lk 124 58 = some (.ireturn, 59, 0, 0, .null) := by decide +kernel
theorem x_124_58 : Tr sc d 124 (58, [l0, l1, l2, l3], [.int i0], h) Q = Q (some (.int i0), h) := t_ret k_124_58 (by rw [r_124]; rfl)
theorem e_124 : Tr sc d 124 (ent0 124 [.ref k0, .int i1, .int i2] h) Q = Tr sc d 124 (0, [some (.ref k0), some (.int i1), some (.int i2), none], [], h) Q := by
  have e : mL 124 = 4 := by decide +kernel
  unfold ent0
  rw [e]
  rfl
theorem r_125 : mR 125 = some .int := by decide +kernel
theorem k_125_0 : lk 125 0 = some (.iload_n 2, 1, 2, 0, .null) := by decide +kernel
theorem x_125_0 : Tr sc d 125 (0, [l0, l1, some (.int x), l3, l4, l5, l6], [], h) Q = Tr sc d 125 (1, [l0, l1, some (.int x), l3, l4, l5, l6], [.int x], h) Q := t_iload_n k_125_0 rfl
theorem k_125_1 : lk 125 1 = some (.sipush (-200), 4, 0, 0, .int (-200)) := by decide +kernel
theorem x_125_1 : Tr sc d 125 (1, [l0, l1, l2, l3, l4, l5, l6], [.int i0], h) Q = Tr sc d 125 (4, [l0, l1, l2, l3, l4, l5, l6], [.int (-200), .int i0], h) Q := t_go k_125_1 rfl
theorem k_125_4 : lk 125 4 = some (.if_icmp .lt 41, 7, 45, 0, .null) := by decide +kernel
theorem x_125_4 : Tr sc d 125 (4, [l0, l1, l2, l3, l4, l5, l6], [.int i1, .int i0], h) Q = if i0 < i1 then Tr sc d 125 (45, [l0, l1, l2, l3, l4, l5, l6], [], h) Q else Tr sc d 125 (7, [l0, l1, l2, l3, l4, l5, l6], [], h) Q := t_if k_125_4 rfl
theorem k_125_7 : lk 125 7 = some (.iload_n 2, 8, 2, 0, .null) := by decide +kernel
theorem x_125_7 : Tr sc d 125 (7, [l0, l1, some (.int x), l3, l4, l5, l6], [], h) Q = Tr sc d 125 (8, [l0, l1, some (.int x), l3, l4, l5, l6], [.int x], h) Q := t_iload_n k_125_7 rfl
theorem k_125_8 : lk 125 8 = some (.sipush 200, 11, 0, 0, .int 200) := by decide +kernel
theorem x_125_8 : Tr sc d 125 (8, [l0, l1, l2, l3, l4, l5, l6], [.int i0], h) Q = Tr sc d 125 (11, [l0, l1, l2, l3, l4, l5, l6], [.int 200, .int i0], h) Q := t_go k_125_8 rfl
theorem k_125_11 : lk 125 11 = some (.if_icmp .gt 34, 14, 45, 0, .null) := by decide +kernel
theorem x_125_11 : Tr sc d 125 (11, [l0, l1, l2, l3, l4, l5, l6], [.int i1, .int i0], h) Q = if i1 < i0 then Tr sc d 125 (45, [l0, l1, l2, l3, l4, l5, l6], [], h) Q else Tr sc d 125 (14, [l0, l1, l2, l3, l4, l5, l6], [], h) Q := t_if k_125_11 rfl
theorem k_125_14 : lk 125 14 = some (.iload_n 3, 15, 3, 0, .null) := by decide +kernel
theorem x_125_14 : Tr sc d 125 (14, [l0, l1, l2, some (.int x), l4, l5, l6], [], h) Q = Tr sc d 125 (15, [l0, l1, l2, some (.int x), l4, l5, l6], [.int x], h) Q := t_iload_n k_125_14 rfl
theorem k_125_15 : lk 125 15 = some (.sipush (-200), 18, 0, 0, .int (-200)) := by decide +kernel
theorem x_125_15 : Tr sc d 125 (15, [l0, l1, l2, l3, l4, l5, l6], [.int i0], h) Q = Tr sc d 125 (18, [l0, l1, l2, l3, l4, l5, l6], [.int (-200), .int i0], h) Q := t_go k_125_15 rfl
theorem k_125_18 : lk 125 18 = some (.if_icmp .lt 27, 21, 45, 0, .null) := by decide +kernel
theorem x_125_18 : Tr sc d 125 (18, [l0, l1, l2, l3, l4, l5, l6], [.int i1, .int i0], h) Q = if i0 < i1 then Tr sc d 125 (45, [l0, l1, l2, l3, l4, l5, l6], [], h) Q else Tr sc d 125 (21, [l0, l1, l2, l3, l4, l5, l6], [], h) Q := t_if k_125_18 rfl
theorem k_125_21 : lk 125 21 = some (.iload_n 3, 22, 3, 0, .null) := by decide +kernel
theorem x_125_21 : Tr sc d 125 (21, [l0, l1, l2, some (.int x), l4, l5, l6], [], h) Q = Tr sc d 125 (22, [l0, l1, l2, some (.int x), l4, l5, l6], [.int x], h) Q := t_iload_n k_125_21 rfl
theorem k_125_22 : lk 125 22 = some (.sipush 200, 25, 0, 0, .int 200) := by decide +kernel
theorem x_125_22 : Tr sc d 125 (22, [l0, l1, l2, l3, l4, l5, l6], [.int i0], h) Q = Tr sc d 125 (25, [l0, l1, l2, l3, l4, l5, l6], [.int 200, .int i0], h) Q := t_go k_125_22 rfl
theorem k_125_25 : lk 125 25 = some (.if_icmp .gt 20, 28, 45, 0, .null) := by decide +kernel
theorem x_125_25 : Tr sc d 125 (25, [l0, l1, l2, l3, l4, l5, l6], [.int i1, .int i0], h) Q = if i1 < i0 then Tr sc d 125 (45, [l0, l1, l2, l3, l4, l5, l6], [], h) Q else Tr sc d 125 (28, [l0, l1, l2, l3, l4, l5, l6], [], h) Q := t_if k_125_25 rfl
theorem k_125_28 : lk 125 28 = some (.iload 4, 30, 4, 0, .null) := by decide +kernel
theorem x_125_28 : Tr sc d 125 (28, [l0, l1, l2, l3, some (.int x), l5, l6], [], h) Q = Tr sc d 125 (30, [l0, l1, l2, l3, some (.int x), l5, l6], [.int x], h) Q := t_iload k_125_28 rfl
theorem k_125_30 : lk 125 30 = some (.iconst 1, 31, 0, 0, .int 1) := by decide +kernel
theorem x_125_30 : Tr sc d 125 (30, [l0, l1, l2, l3, l4, l5, l6], [.int i0], h) Q = Tr sc d 125 (31, [l0, l1, l2, l3, l4, l5, l6], [.int 1, .int i0], h) Q := t_go k_125_30 rfl
theorem k_125_31 : lk 125 31 = some (.if_icmp .lt 14, 34, 45, 0, .null) := by decide +kernel
theorem x_125_31 : Tr sc d 125 (31, [l0, l1, l2, l3, l4, l5, l6], [.int i1, .int i0], h) Q = if i0 < i1 then Tr sc d 125 (45, [l0, l1, l2, l3, l4, l5, l6], [], h) Q else Tr sc d 125 (34, [l0, l1, l2, l3, l4, l5, l6], [], h) Q := t_if k_125_31 rfl
theorem k_125_34 : lk 125 34 = some (.iload 4, 36, 4, 0, .null) := by decide +kernel
theorem x_125_34 : Tr sc d 125 (34, [l0, l1, l2, l3, some (.int x), l5, l6], [], h) Q = Tr sc d 125 (36, [l0, l1, l2, l3, some (.int x), l5, l6], [.int x], h) Q := t_iload k_125_34 rfl
theorem k_125_36 : lk 125 36 = some (.bipush 12, 38, 0, 0, .int 12) := by decide +kernel
theorem x_125_36 : Tr sc d 125 (36, [l0, l1, l2, l3, l4, l5, l6], [.int i0], h) Q = Tr sc d 125 (38, [l0, l1, l2, l3, l4, l5, l6], [.int 12, .int i0], h) Q := t_go k_125_36 rfl
theorem k_125_38 : lk 125 38 = some (.if_icmp .gt 7, 41, 45, 0, .null) := by decide +kernel
theorem x_125_38 : Tr sc d 125 (38, [l0, l1, l2, l3, l4, l5, l6], [.int i1, .int i0], h) Q = if i1 < i0 then Tr sc d 125 (45, [l0, l1, l2, l3, l4, l5, l6], [], h) Q else Tr sc d 125 (41, [l0, l1, l2, l3, l4, l5, l6], [], h) Q := t_if k_125_38 rfl
theorem k_125_41 : lk 125 41 = some (.iconst 1, 42, 0, 0, .int 1) := by decide +kernel
theorem x_125_41 : Tr sc d 125 (41, [l0, l1, l2, l3, l4, l5, l6], [], h) Q = Tr sc d 125 (42, [l0, l1, l2, l3, l4, l5, l6], [.int 1], h) Q := t_go k_125_41 rfl
theorem k_125_42 : lk 125 42 = some (.goto 4, 45, 46, 0, .null) := by decide +kernel
theorem x_125_42 : Tr sc d 125 (42, [l0, l1, l2, l3, l4, l5, l6], [.int i0], h) Q = Tr sc d 125 (46, [l0, l1, l2, l3, l4, l5, l6], [.int i0], h) Q := t_go k_125_42 rfl
theorem k_125_45 : lk 125 45 = some (.iconst 0, 46, 0, 0, .int 0) := by decide +kernel
theorem x_125_45 : Tr sc d 125 (45, [l0, l1, l2, l3, l4, l5, l6], [], h) Q = Tr sc d 125 (46, [l0, l1, l2, l3, l4, l5, l6], [.int 0], h) Q := t_go k_125_45 rfl
theorem k_125_46 : lk 125 46 = some (.istore 5, 48, 5, 0, .null) := by decide +kernel
theorem x_125_46 : Tr sc d 125 (46, [l0, l1, l2, l3, l4, l5, l6], [.int i0], h) Q = Tr sc d 125 (48, [l0, l1, l2, l3, cl2 l4, some (.int i0), l6], [], h) Q := t_istore k_125_46 (Nat.le_of_ble_eq_true rfl)
theorem k_125_48 : lk 125 48 = some (.aload_n 0, 49, 0, 0, .null) := by decide +kernel
theorem x_125_48 : Tr sc d 125 (48, [some (.ref xk), l1, l2, l3, l4, l5, l6], [], h) Q = Tr sc d 125 (49, [some (.ref xk), l1, l2, l3, l4, l5, l6], [.ref xk], h) Q := t_aload_n k_125_48 rfl
theorem k_125_49 : lk 125 49 = some (.iload_n 1, 50, 1, 0, .null) := by decide +kernel
theorem x_125_49 : Tr sc d 125 (49, [l0, some (.int x), l2, l3, l4, l5, l6], [.ref k0], h) Q = Tr sc d 125 (50, [l0, some (.int x), l2, l3, l4, l5, l6], [.int x, .ref k0], h) Q := t_iload_n k_125_49 rfl
theorem k_125_50 : lk 125 50 = some (.iload 5, 52, 5, 0, .null) := by decide +kernel
theorem x_125_50 : Tr sc d 125 (50, [l0, l1, l2, l3, l4, some (.int x), l6], [.int i1, .ref k0], h) Q = Tr sc d 125 (52, [l0, l1, l2, l3, l4, some (.int x), l6], [.int x, .int i1, .ref k0], h) Q := t_iload k_125_50 rfl
theorem k_125_52 : lk 125 52 = some (.invokevirtual 300, 55, 146, 2, .null) := by decide +kernel
theorem x_125_52 : Tr sc (d + 1) 125 (52, [l0, l1, l2, l3, l4, l5, l6], [.int i2, .int i1, .ref k0], h) Q = (okp h k0 9 = true ∧ Tr sc d 146 (ent0 146 [.ref k0, .int i1, .int i2] h) (fun z => Tr sc (d + 1) 125 (55, [l0, l1, l2, l3, l4, l5, l6], z.1.toList ++ [], z.2) Q)) := t_cv (as := [.int i1, .int i2]) (r := []) k_125_52 rfl rfl (Nat.le_of_ble_eq_true rfl) (Nat.le_of_ble_eq_true rfl) (Nat.le_of_ble_eq_true rfl)
theorem k_125_55 : lk 125 55 = some (.istore 6, 57, 6, 0, .null) := by decide +kernel
theorem x_125_55 : Tr sc d 125 (55, [l0, l1, l2, l3, l4, l5, l6], [.int i0], h) Q = Tr sc d 125 (57, [l0, l1, l2, l3, l4, cl2 l5, some (.int i0)], [], h) Q := t_istore k_125_55 (Nat.le_of_ble_eq_true rfl)
theorem k_125_57 : lk 125 57 = some (.iload 6, 59, 6, 0, .null) := by decide +kernel
theorem x_125_57 : Tr sc d 125 (57, [l0, l1, l2, l3, l4, l5, some (.int x)], [], h) Q = Tr sc d 125 (59, [l0, l1, l2, l3, l4, l5, some (.int x)], [.int x], h) Q := t_iload k_125_57 rfl
theorem k_125_59 : lk 125 59 = some (.ifCond .eq 6, 62, 65, 0, .null) := by decide +kernel
theorem x_125_59 : Tr sc d 125 (59, [l0, l1, l2, l3, l4, l5, l6], [.int i0], h) Q = if i0 = 0 then Tr sc d 125 (65, [l0, l1, l2, l3, l4, l5, l6], [], h) Q else Tr sc d 125 (62, [l0, l1, l2, l3, l4, l5, l6], [], h) Q := t_if k_125_59 rfl
theorem k_125_62 : lk 125 62 = some (.iload 6, 64, 6, 0, .null) := by decide +kernel
theorem x_125_62 : Tr sc d 125 (62, [l0, l1, l2, l3, l4, l5, some (.int x)], [], h) Q = Tr sc d 125 (64, [l0, l1, l2, l3, l4, l5, some (.int x)], [.int x], h) Q := t_iload k_125_62 rfl
theorem k_125_64 : lk 125 64 = some (.ireturn, 65, 0, 0, .null) := by decide +kernel
theorem x_125_64 : Tr sc d 125 (64, [l0, l1, l2, l3, l4, l5, l6], [.int i0], h) Q = Q (some (.int i0), h) := t_ret k_125_64 (by rw [r_125]; rfl)
theorem k_125_65 : lk 125 65 = some (.aload_n 0, 66, 0, 0, .null) := by decide +kernel
theorem x_125_65 : Tr sc d 125 (65, [some (.ref xk), l1, l2, l3, l4, l5, l6], [], h) Q = Tr sc d 125 (66, [some (.ref xk), l1, l2, l3, l4, l5, l6], [.ref xk], h) Q := t_aload_n k_125_65 rfl
theorem k_125_66 : lk 125 66 = some (.getfield 79, 69, 9, 11, .null) := by decide +kernel
theorem x_125_66 : Tr sc d 125 (66, [l0, l1, l2, l3, l4, l5, l6], [.ref k0], h) Q = (okp h k0 9 = true ∧ ∃ q, hR h k0 11 = some q ∧ Tr sc d 125 (69, [l0, l1, l2, l3, l4, l5, l6], [.ref q], h) Q) := t_getr k_125_66
theorem k_125_69 : lk 125 69 = some (.aload_n 0, 70, 0, 0, .null) := by decide +kernel
theorem x_125_69 : Tr sc d 125 (69, [some (.ref xk), l1, l2, l3, l4, l5, l6], [.ref k0], h) Q = Tr sc d 125 (70, [some (.ref xk), l1, l2, l3, l4, l5, l6], [.ref xk, .ref k0], h) Q := t_aload_n k_125_69 rfl
theorem k_125_70 : lk 125 70 = some (.getfield 20, 73, 9, 2, .null) := by decide +kernel
theorem x_125_70 : Tr sc d 125 (70, [l0, l1, l2, l3, l4, l5, l6], [.ref k1, .ref k0], h) Q = (okp h k1 9 = true ∧ ∃ q, hR h k1 2 = some q ∧ Tr sc d 125 (73, [l0, l1, l2, l3, l4, l5, l6], [.ref q, .ref k0], h) Q) := t_getr k_125_70
theorem k_125_73 : lk 125 73 = some (.iload_n 1, 74, 1, 0, .null) := by decide +kernel
theorem x_125_73 : Tr sc d 125 (73, [l0, some (.int x), l2, l3, l4, l5, l6], [.ref k1, .ref k0], h) Q = Tr sc d 125 (74, [l0, some (.int x), l2, l3, l4, l5, l6], [.int x, .ref k1, .ref k0], h) Q := t_iload_n k_125_73 rfl
theorem k_125_74 : lk 125 74 = some (.aaload, 75, 0, 0, .null) := by decide +kernel
theorem x_125_74 : Tr sc d 125 (74, [l0, l1, l2, l3, l4, l5, l6], [.int i2, .ref k1, .ref k0], h) Q = (((okp h k1 14 || okp h k1 15) && inb i2 (LN k1)) = true ∧ ∃ q, hR h k1 i2.toNatClampNeg = some q ∧ Tr sc d 125 (75, [l0, l1, l2, l3, l4, l5, l6], [.ref q, .ref k0], h) Q) := t_aald k_125_74
theorem k_125_75 : lk 125 75 = some (.iload 4, 77, 4, 0, .null) := by decide +kernel
theorem x_125_75 : Tr sc d 125 (75, [l0, l1, l2, l3, some (.int x), l5, l6], [.ref k1, .ref k0], h) Q = Tr sc d 125 (77, [l0, l1, l2, l3, some (.int x), l5, l6], [.int x, .ref k1, .ref k0], h) Q := t_iload k_125_75 rfl
theorem k_125_77 : lk 125 77 = some (.invokevirtual 332, 80, 86, 2, .null) := by decide +kernel
theorem x_125_77 : Tr sc (d + 1) 125 (77, [l0, l1, l2, l3, l4, l5, l6], [.int i2, .ref k1, .ref k0], h) Q = (okp h k0 8 = true ∧ Tr sc d 86 (ent0 86 [.ref k0, .ref k1, .int i2] h) (fun z => Tr sc (d + 1) 125 (80, [l0, l1, l2, l3, l4, l5, l6], z.1.toList ++ [], z.2) Q)) := t_cv (as := [.ref k1, .int i2]) (r := []) k_125_77 rfl rfl (Nat.le_of_ble_eq_true rfl) (Nat.le_of_ble_eq_true rfl) (Nat.le_of_ble_eq_true rfl)
theorem k_125_80 : lk 125 80 = some (.aload_n 0, 81, 0, 0, .null) := by decide +kernel
theorem x_125_80 : Tr sc d 125 (80, [some (.ref xk), l1, l2, l3, l4, l5, l6], [], h) Q = Tr sc d 125 (81, [some (.ref xk), l1, l2, l3, l4, l5, l6], [.ref xk], h) Q := t_aload_n k_125_80 rfl
theorem k_125_81 : lk 125 81 = some (.getfield 79, 84, 9, 11, .null) := by decide +kernel
theorem x_125_81 : Tr sc d 125 (81, [l0, l1, l2, l3, l4, l5, l6], [.ref k0], h) Q = (okp h k0 9 = true ∧ ∃ q, hR h k0 11 = some q ∧ Tr sc d 125 (84, [l0, l1, l2, l3, l4, l5, l6], [.ref q], h) Q) := t_getr k_125_81
theorem k_125_84 : lk 125 84 = some (.iload_n 2, 85, 2, 0, .null) := by decide +kernel
theorem x_125_84 : Tr sc d 125 (84, [l0, l1, some (.int x), l3, l4, l5, l6], [.ref k0], h) Q = Tr sc d 125 (85, [l0, l1, some (.int x), l3, l4, l5, l6], [.int x, .ref k0], h) Q := t_iload_n k_125_84 rfl
theorem k_125_85 : lk 125 85 = some (.iload_n 3, 86, 3, 0, .null) := by decide +kernel
theorem x_125_85 : Tr sc d 125 (85, [l0, l1, l2, some (.int x), l4, l5, l6], [.int i1, .ref k0], h) Q = Tr sc d 125 (86, [l0, l1, l2, some (.int x), l4, l5, l6], [.int x, .int i1, .ref k0], h) Q := t_iload_n k_125_85 rfl
theorem k_125_86 : lk 125 86 = some (.invokevirtual 335, 89, 90, 2, .null) := by decide +kernel
theorem x_125_86 : Tr sc (d + 1) 125 (86, [l0, l1, l2, l3, l4, l5, l6], [.int i2, .int i1, .ref k0], h) Q = (okp h k0 8 = true ∧ Tr sc d 90 (ent0 90 [.ref k0, .int i1, .int i2] h) (fun z => Tr sc (d + 1) 125 (89, [l0, l1, l2, l3, l4, l5, l6], z.1.toList ++ [], z.2) Q)) := t_cv (as := [.int i1, .int i2]) (r := []) k_125_86 rfl rfl (Nat.le_of_ble_eq_true rfl) (Nat.le_of_ble_eq_true rfl) (Nat.le_of_ble_eq_true rfl)
theorem k_125_89 : lk 125 89 = some (.ifCond .ne 6, 92, 95, 0, .null) := by decide +kernel
theorem x_125_89 : Tr sc d 125 (89, [l0, l1, l2, l3, l4, l5, l6], [.int i0], h) Q = if i0 = 0 then Tr sc d 125 (92, [l0, l1, l2, l3, l4, l5, l6], [], h) Q else Tr sc d 125 (95, [l0, l1, l2, l3, l4, l5, l6], [], h) Q := t_if k_125_89 rfl
theorem k_125_92 : lk 125 92 = some (.bipush (-6), 94, 0, 0, .int (-6)) := by decide +kernel
theorem x_125_92 : Tr sc d 125 (92, [l0, l1, l2, l3, l4, l5, l6], [], h) Q = Tr sc d 125 (94, [l0, l1, l2, l3, l4, l5, l6], [.int (-6)], h) Q := t_go k_125_92 rfl
theorem k_125_94 : lk 125 94 = some (.ireturn, 95, 0, 0, .null) := by decide +kernel
theorem x_125_94 : Tr sc d 125 (94, [l0, l1, l2, l3, l4, l5, l6], [.int i0], h) Q = Q (some (.int i0), h) := t_ret k_125_94 (by rw [r_125]; rfl)
theorem k_125_95 : lk 125 95 = some (.aload_n 0, 96, 0, 0, .null) := by decide +kernel
theorem x_125_95 : Tr sc d 125 (95, [some (.ref xk), l1, l2, l3, l4, l5, l6], [], h) Q = Tr sc d 125 (96, [some (.ref xk), l1, l2, l3, l4, l5, l6], [.ref xk], h) Q := t_aload_n k_125_95 rfl
theorem k_125_96 : lk 125 96 = some (.aload_n 0, 97, 0, 0, .null) := by decide +kernel
theorem x_125_96 : Tr sc d 125 (96, [some (.ref xk), l1, l2, l3, l4, l5, l6], [.ref k0], h) Q = Tr sc d 125 (97, [some (.ref xk), l1, l2, l3, l4, l5, l6], [.ref xk, .ref k0], h) Q := t_aload_n k_125_96 rfl
theorem k_125_97 : lk 125 97 = some (.getfield 79, 100, 9, 11, .null) := by decide +kernel
theorem x_125_97 : Tr sc d 125 (97, [l0, l1, l2, l3, l4, l5, l6], [.ref k1, .ref k0], h) Q = (okp h k1 9 = true ∧ ∃ q, hR h k1 11 = some q ∧ Tr sc d 125 (100, [l0, l1, l2, l3, l4, l5, l6], [.ref q, .ref k0], h) Q) := t_getr k_125_97
theorem k_125_100 : lk 125 100 = some (.invokevirtual 338, 103, 92, 0, .null) := by decide +kernel
theorem x_125_100 : Tr sc (d + 1) 125 (100, [l0, l1, l2, l3, l4, l5, l6], [.ref k1, .ref k0], h) Q = (okp h k1 8 = true ∧ Tr sc d 92 (ent0 92 [.ref k1] h) (fun z => Tr sc (d + 1) 125 (103, [l0, l1, l2, l3, l4, l5, l6], z.1.toList ++ [.ref k0], z.2) Q)) := t_cv (as := []) (r := [.ref k0]) k_125_100 rfl rfl (Nat.le_of_ble_eq_true rfl) (Nat.le_of_ble_eq_true rfl) (Nat.le_of_ble_eq_true rfl)
theorem k_125_103 : lk 125 103 = some (.putfield 98, 106, 9, 15, .int 0) := by decide +kernel
theorem x_125_103 : Tr sc d 125 (103, [l0, l1, l2, l3, l4, l5, l6], [.int i1, .ref k0], h) Q = (okp h k0 9 = true ∧ Tr sc d 125 (106, [l0, l1, l2, l3, l4, l5, l6], [], (sI h k0 15 i1)) Q) := t_gd k_125_103 rfl
theorem k_125_106 : lk 125 106 = some (.aload_n 0, 107, 0, 0, .null) := by decide +kernel
theorem x_125_106 : Tr sc d 125 (106, [some (.ref xk), l1, l2, l3, l4, l5, l6], [], h) Q = Tr sc d 125 (107, [some (.ref xk), l1, l2, l3, l4, l5, l6], [.ref xk], h) Q := t_aload_n k_125_106 rfl
theorem k_125_107 : lk 125 107 = some (.getfield 98, 110, 9, 15, .int 0) := by decide +kernel
theorem x_125_107 : Tr sc d 125 (107, [l0, l1, l2, l3, l4, l5, l6], [.ref k0], h) Q = (okp h k0 9 = true ∧ Tr sc d 125 (110, [l0, l1, l2, l3, l4, l5, l6], [.int (hI h k0 15)], h) Q) := t_gd k_125_107 rfl
theorem k_125_110 : lk 125 110 = some (.ifCond .le 7, 113, 117, 0, .null) := by decide +kernel
theorem x_125_110 : Tr sc d 125 (110, [l0, l1, l2, l3, l4, l5, l6], [.int i0], h) Q = if i0 ≤ 0 then Tr sc d 125 (117, [l0, l1, l2, l3, l4, l5, l6], [], h) Q else Tr sc d 125 (113, [l0, l1, l2, l3, l4, l5, l6], [], h) Q := t_if k_125_110 rfl
theorem k_125_113 : lk 125 113 = some (.iconst 1, 114, 0, 0, .int 1) := by decide +kernel
theorem x_125_113 : Tr sc d 125 (113, [l0, l1, l2, l3, l4, l5, l6], [], h) Q = Tr sc d 125 (114, [l0, l1, l2, l3, l4, l5, l6], [.int 1], h) Q := t_go k_125_113 rfl
theorem k_125_114 : lk 125 114 = some (.goto 4, 117, 118, 0, .null) := by decide +kernel
theorem x_125_114 : Tr sc d 125 (114, [l0, l1, l2, l3, l4, l5, l6], [.int i0], h) Q = Tr sc d 125 (118, [l0, l1, l2, l3, l4, l5, l6], [.int i0], h) Q := t_go k_125_114 rfl
theorem k_125_117 : lk 125 117 = some (.iconst 0, 118, 0, 0, .int 0) := by decide +kernel
theorem x_125_117 : Tr sc d 125 (117, [l0, l1, l2, l3, l4, l5, l6], [], h) Q = Tr sc d 125 (118, [l0, l1, l2, l3, l4, l5, l6], [.int 0], h) Q := t_go k_125_117 rfl
theorem k_125_118 : lk 125 118 = some (.ireturn, 119, 0, 0, .null) := by decide +kernel
theorem x_125_118 : Tr sc d 125 (118, [l0, l1, l2, l3, l4, l5, l6], [.int i0], h) Q = Q (some (.int i0), h) := t_ret k_125_118 (by rw [r_125]; rfl)
theorem e_125 : Tr sc d 125 (ent0 125 [.ref k0, .int i1, .int i2, .int i3, .int i4] h) Q = Tr sc d 125 (0, [some (.ref k0), some (.int i1), some (.int i2), some (.int i3), some (.int i4), none, none], [], h) Q := by
  have e : mL 125 = 7 := by decide +kernel
  unfold ent0
  rw [e]
  rfl
theorem r_126 : mR 126 = some .int := by decide +kernel
theorem k_126_0 : lk 126 0 = some (.aload_n 0, 1, 0, 0, .null) := by decide +kernel
theorem x_126_0 : Tr sc d 126 (0, [some (.ref xk), l1, l2, l3], [], h) Q = Tr sc d 126 (1, [some (.ref xk), l1, l2, l3], [.ref xk], h) Q := t_aload_n k_126_0 rfl
theorem k_126_1 : lk 126 1 = some (.iload_n 1, 2, 1, 0, .null) := by decide +kernel
theorem x_126_1 : Tr sc d 126 (1, [l0, some (.int x), l2, l3], [.ref k0], h) Q = Tr sc d 126 (2, [l0, some (.int x), l2, l3], [.int x, .ref k0], h) Q := t_iload_n k_126_1 rfl
theorem k_126_2 : lk 126 2 = some (.iload_n 2, 3, 2, 0, .null) := by decide +kernel
theorem x_126_2 : Tr sc d 126 (2, [l0, l1, some (.int x), l3], [.int i1, .ref k0], h) Q = Tr sc d 126 (3, [l0, l1, some (.int x), l3], [.int x, .int i1, .ref k0], h) Q := t_iload_n k_126_2 rfl
theorem k_126_3 : lk 126 3 = some (.ifCond .lt 13, 6, 16, 0, .null) := by decide +kernel
theorem x_126_3 : Tr sc d 126 (3, [l0, l1, l2, l3], [.int i2, .int i1, .ref k0], h) Q = if i2 < 0 then Tr sc d 126 (16, [l0, l1, l2, l3], [.int i1, .ref k0], h) Q else Tr sc d 126 (6, [l0, l1, l2, l3], [.int i1, .ref k0], h) Q := t_if k_126_3 rfl
theorem k_126_6 : lk 126 6 = some (.iload_n 2, 7, 2, 0, .null) := by decide +kernel
theorem x_126_6 : Tr sc d 126 (6, [l0, l1, some (.int x), l3], [.int i1, .ref k0], h) Q = Tr sc d 126 (7, [l0, l1, some (.int x), l3], [.int x, .int i1, .ref k0], h) Q := t_iload_n k_126_6 rfl
theorem k_126_7 : lk 126 7 = some (.bipush 6, 9, 0, 0, .int 6) := by decide +kernel
theorem x_126_7 : Tr sc d 126 (7, [l0, l1, l2, l3], [.int i2, .int i1, .ref k0], h) Q = Tr sc d 126 (9, [l0, l1, l2, l3], [.int 6, .int i2, .int i1, .ref k0], h) Q := t_go k_126_7 rfl
theorem k_126_9 : lk 126 9 = some (.if_icmp .gt 7, 12, 16, 0, .null) := by decide +kernel
theorem x_126_9 : Tr sc d 126 (9, [l0, l1, l2, l3], [.int i3, .int i2, .int i1, .ref k0], h) Q = if i3 < i2 then Tr sc d 126 (16, [l0, l1, l2, l3], [.int i1, .ref k0], h) Q else Tr sc d 126 (12, [l0, l1, l2, l3], [.int i1, .ref k0], h) Q := t_if k_126_9 rfl
theorem k_126_12 : lk 126 12 = some (.iconst 1, 13, 0, 0, .int 1) := by decide +kernel
theorem x_126_12 : Tr sc d 126 (12, [l0, l1, l2, l3], [.int i1, .ref k0], h) Q = Tr sc d 126 (13, [l0, l1, l2, l3], [.int 1, .int i1, .ref k0], h) Q := t_go k_126_12 rfl
theorem k_126_13 : lk 126 13 = some (.goto 4, 16, 17, 0, .null) := by decide +kernel
theorem x_126_13 : Tr sc d 126 (13, [l0, l1, l2, l3], [.int i2, .int i1, .ref k0], h) Q = Tr sc d 126 (17, [l0, l1, l2, l3], [.int i2, .int i1, .ref k0], h) Q := t_go k_126_13 rfl
theorem k_126_16 : lk 126 16 = some (.iconst 0, 17, 0, 0, .int 0) := by decide +kernel
theorem x_126_16 : Tr sc d 126 (16, [l0, l1, l2, l3], [.int i1, .ref k0], h) Q = Tr sc d 126 (17, [l0, l1, l2, l3], [.int 0, .int i1, .ref k0], h) Q := t_go k_126_16 rfl
theorem k_126_17 : lk 126 17 = some (.invokevirtual 300, 20, 146, 2, .null) := by decide +kernel
theorem x_126_17 : Tr sc (d + 1) 126 (17, [l0, l1, l2, l3], [.int i2, .int i1, .ref k0], h) Q = (okp h k0 9 = true ∧ Tr sc d 146 (ent0 146 [.ref k0, .int i1, .int i2] h) (fun z => Tr sc (d + 1) 126 (20, [l0, l1, l2, l3], z.1.toList ++ [], z.2) Q)) := t_cv (as := [.int i1, .int i2]) (r := []) k_126_17 rfl rfl (Nat.le_of_ble_eq_true rfl) (Nat.le_of_ble_eq_true rfl) (Nat.le_of_ble_eq_true rfl)
theorem k_126_20 : lk 126 20 = some (.istore_n 3, 21, 3, 0, .null) := by decide +kernel
theorem x_126_20 : Tr sc d 126 (20, [l0, l1, l2, l3], [.int i0], h) Q = Tr sc d 126 (21, [l0, l1, cl2 l2, some (.int i0)], [], h) Q := t_istore_n k_126_20 (Nat.le_of_ble_eq_true rfl)
theorem k_126_21 : lk 126 21 = some (.iload_n 3, 22, 3, 0, .null) := by decide +kernel
theorem x_126_21 : Tr sc d 126 (21, [l0, l1, l2, some (.int x)], [], h) Q = Tr sc d 126 (22, [l0, l1, l2, some (.int x)], [.int x], h) Q := t_iload_n k_126_21 rfl
theorem k_126_22 : lk 126 22 = some (.ifCond .eq 5, 25, 27, 0, .null) := by decide +kernel
theorem x_126_22 : Tr sc d 126 (22, [l0, l1, l2, l3], [.int i0], h) Q = if i0 = 0 then Tr sc d 126 (27, [l0, l1, l2, l3], [], h) Q else Tr sc d 126 (25, [l0, l1, l2, l3], [], h) Q := t_if k_126_22 rfl
theorem k_126_25 : lk 126 25 = some (.iload_n 3, 26, 3, 0, .null) := by decide +kernel
theorem x_126_25 : Tr sc d 126 (25, [l0, l1, l2, some (.int x)], [], h) Q = Tr sc d 126 (26, [l0, l1, l2, some (.int x)], [.int x], h) Q := t_iload_n k_126_25 rfl
theorem k_126_26 : lk 126 26 = some (.ireturn, 27, 0, 0, .null) := by decide +kernel
theorem x_126_26 : Tr sc d 126 (26, [l0, l1, l2, l3], [.int i0], h) Q = Q (some (.int i0), h) := t_ret k_126_26 (by rw [r_126]; rfl)
theorem k_126_27 : lk 126 27 = some (.aload_n 0, 28, 0, 0, .null) := by decide +kernel
theorem x_126_27 : Tr sc d 126 (27, [some (.ref xk), l1, l2, l3], [], h) Q = Tr sc d 126 (28, [some (.ref xk), l1, l2, l3], [.ref xk], h) Q := t_aload_n k_126_27 rfl
theorem k_126_28 : lk 126 28 = some (.getfield 61, 31, 9, 9, .null) := by decide +kernel
theorem x_126_28 : Tr sc d 126 (28, [l0, l1, l2, l3], [.ref k0], h) Q = (okp h k0 9 = true ∧ ∃ q, hR h k0 9 = some q ∧ Tr sc d 126 (31, [l0, l1, l2, l3], [.ref q], h) Q) := t_getr k_126_28
theorem k_126_31 : lk 126 31 = some (.aload_n 0, 32, 0, 0, .null) := by decide +kernel
theorem x_126_31 : Tr sc d 126 (31, [some (.ref xk), l1, l2, l3], [.ref k0], h) Q = Tr sc d 126 (32, [some (.ref xk), l1, l2, l3], [.ref xk, .ref k0], h) Q := t_aload_n k_126_31 rfl
theorem k_126_32 : lk 126 32 = some (.getfield 20, 35, 9, 2, .null) := by decide +kernel
theorem x_126_32 : Tr sc d 126 (32, [l0, l1, l2, l3], [.ref k1, .ref k0], h) Q = (okp h k1 9 = true ∧ ∃ q, hR h k1 2 = some q ∧ Tr sc d 126 (35, [l0, l1, l2, l3], [.ref q, .ref k0], h) Q) := t_getr k_126_32
theorem k_126_35 : lk 126 35 = some (.iload_n 1, 36, 1, 0, .null) := by decide +kernel
theorem x_126_35 : Tr sc d 126 (35, [l0, some (.int x), l2, l3], [.ref k1, .ref k0], h) Q = Tr sc d 126 (36, [l0, some (.int x), l2, l3], [.int x, .ref k1, .ref k0], h) Q := t_iload_n k_126_35 rfl
theorem k_126_36 : lk 126 36 = some (.aaload, 37, 0, 0, .null) := by decide +kernel
theorem x_126_36 : Tr sc d 126 (36, [l0, l1, l2, l3], [.int i2, .ref k1, .ref k0], h) Q = (((okp h k1 14 || okp h k1 15) && inb i2 (LN k1)) = true ∧ ∃ q, hR h k1 i2.toNatClampNeg = some q ∧ Tr sc d 126 (37, [l0, l1, l2, l3], [.ref q, .ref k0], h) Q) := t_aald k_126_36
theorem k_126_37 : lk 126 37 = some (.invokevirtual 303, 40, 72, 1, .null) := by decide +kernel
theorem x_126_37 : Tr sc (d + 1) 126 (37, [l0, l1, l2, l3], [.ref k1, .ref k0], h) Q = (okp h k0 7 = true ∧ Tr sc d 72 (ent0 72 [.ref k0, .ref k1] h) (fun z => Tr sc (d + 1) 126 (40, [l0, l1, l2, l3], z.1.toList ++ [], z.2) Q)) := t_cv (as := [.ref k1]) (r := []) k_126_37 rfl rfl (Nat.le_of_ble_eq_true rfl) (Nat.le_of_ble_eq_true rfl) (Nat.le_of_ble_eq_true rfl)
theorem k_126_40 : lk 126 40 = some (.aload_n 0, 41, 0, 0, .null) := by decide +kernel
theorem x_126_40 : Tr sc d 126 (40, [some (.ref xk), l1, l2, l3], [], h) Q = Tr sc d 126 (41, [some (.ref xk), l1, l2, l3], [.ref xk], h) Q := t_aload_n k_126_40 rfl
theorem k_126_41 : lk 126 41 = some (.aload_n 0, 42, 0, 0, .null) := by decide +kernel
theorem x_126_41 : Tr sc d 126 (41, [some (.ref xk), l1, l2, l3], [.ref k0], h) Q = Tr sc d 126 (42, [some (.ref xk), l1, l2, l3], [.ref xk, .ref k0], h) Q := t_aload_n k_126_41 rfl
theorem k_126_42 : lk 126 42 = some (.getfield 61, 45, 9, 9, .null) := by decide +kernel
theorem x_126_42 : Tr sc d 126 (42, [l0, l1, l2, l3], [.ref k1, .ref k0], h) Q = (okp h k1 9 = true ∧ ∃ q, hR h k1 9 = some q ∧ Tr sc d 126 (45, [l0, l1, l2, l3], [.ref q, .ref k0], h) Q) := t_getr k_126_42
theorem k_126_45 : lk 126 45 = some (.iload_n 2, 46, 2, 0, .null) := by decide +kernel
theorem x_126_45 : Tr sc d 126 (45, [l0, l1, some (.int x), l3], [.ref k1, .ref k0], h) Q = Tr sc d 126 (46, [l0, l1, some (.int x), l3], [.int x, .ref k1, .ref k0], h) Q := t_iload_n k_126_45 rfl
theorem k_126_46 : lk 126 46 = some (.invokevirtual 341, 49, 83, 1, .null) := by decide +kernel
theorem x_126_46 : Tr sc (d + 1) 126 (46, [l0, l1, l2, l3], [.int i2, .ref k1, .ref k0], h) Q = (okp h k1 7 = true ∧ Tr sc d 83 (ent0 83 [.ref k1, .int i2] h) (fun z => Tr sc (d + 1) 126 (49, [l0, l1, l2, l3], z.1.toList ++ [.ref k0], z.2) Q)) := t_cv (as := [.int i2]) (r := [.ref k0]) k_126_46 rfl rfl (Nat.le_of_ble_eq_true rfl) (Nat.le_of_ble_eq_true rfl) (Nat.le_of_ble_eq_true rfl)
theorem k_126_49 : lk 126 49 = some (.putfield 101, 52, 9, 16, .long 0) := by decide +kernel
theorem x_126_49 : Tr sc d 126 (49, [l0, l1, l2, l3], [.long j1, .ref k0], h) Q = (okp h k0 9 = true ∧ Tr sc d 126 (52, [l0, l1, l2, l3], [], (sL h k0 16 j1)) Q) := t_gd k_126_49 rfl
theorem k_126_52 : lk 126 52 = some (.iconst 1, 53, 0, 0, .int 1) := by decide +kernel
theorem x_126_52 : Tr sc d 126 (52, [l0, l1, l2, l3], [], h) Q = Tr sc d 126 (53, [l0, l1, l2, l3], [.int 1], h) Q := t_go k_126_52 rfl
theorem k_126_53 : lk 126 53 = some (.ireturn, 54, 0, 0, .null) := by decide +kernel
theorem x_126_53 : Tr sc d 126 (53, [l0, l1, l2, l3], [.int i0], h) Q = Q (some (.int i0), h) := t_ret k_126_53 (by rw [r_126]; rfl)
theorem e_126 : Tr sc d 126 (ent0 126 [.ref k0, .int i1, .int i2] h) Q = Tr sc d 126 (0, [some (.ref k0), some (.int i1), some (.int i2), none], [], h) Q := by
  have e : mL 126 = 4 := by decide +kernel
  unfold ent0
  rw [e]
  rfl
theorem r_127 : mR 127 = some .int := by decide +kernel
theorem k_127_0 : lk 127 0 = some (.aload_n 0, 1, 0, 0, .null) := by decide +kernel
theorem x_127_0 : Tr sc d 127 (0, [some (.ref xk), l1, l2, l3], [], h) Q = Tr sc d 127 (1, [some (.ref xk), l1, l2, l3], [.ref xk], h) Q := t_aload_n k_127_0 rfl
theorem k_127_1 : lk 127 1 = some (.iload_n 1, 2, 1, 0, .null) := by decide +kernel
theorem x_127_1 : Tr sc d 127 (1, [l0, some (.int x), l2, l3], [.ref k0], h) Q = Tr sc d 127 (2, [l0, some (.int x), l2, l3], [.int x, .ref k0], h) Q := t_iload_n k_127_1 rfl
theorem k_127_2 : lk 127 2 = some (.iconst 1, 3, 0, 0, .int 1) := by decide +kernel
theorem x_127_2 : Tr sc d 127 (2, [l0, l1, l2, l3], [.int i1, .ref k0], h) Q = Tr sc d 127 (3, [l0, l1, l2, l3], [.int 1, .int i1, .ref k0], h) Q := t_go k_127_2 rfl
theorem k_127_3 : lk 127 3 = some (.invokevirtual 196, 6, 145, 2, .null) := by decide +kernel
theorem x_127_3 : Tr sc (d + 1) 127 (3, [l0, l1, l2, l3], [.int i2, .int i1, .ref k0], h) Q = (okp h k0 9 = true ∧ Tr sc d 145 (ent0 145 [.ref k0, .int i1, .int i2] h) (fun z => Tr sc (d + 1) 127 (6, [l0, l1, l2, l3], z.1.toList ++ [], z.2) Q)) := t_cv (as := [.int i1, .int i2]) (r := []) k_127_3 rfl rfl (Nat.le_of_ble_eq_true rfl) (Nat.le_of_ble_eq_true rfl) (Nat.le_of_ble_eq_true rfl)
theorem k_127_6 : lk 127 6 = some (.istore_n 3, 7, 3, 0, .null) := by decide +kernel
theorem x_127_6 : Tr sc d 127 (6, [l0, l1, l2, l3], [.int i0], h) Q = Tr sc d 127 (7, [l0, l1, cl2 l2, some (.int i0)], [], h) Q := t_istore_n k_127_6 (Nat.le_of_ble_eq_true rfl)
theorem k_127_7 : lk 127 7 = some (.iload_n 3, 8, 3, 0, .null) := by decide +kernel
theorem x_127_7 : Tr sc d 127 (7, [l0, l1, l2, some (.int x)], [], h) Q = Tr sc d 127 (8, [l0, l1, l2, some (.int x)], [.int x], h) Q := t_iload_n k_127_7 rfl
theorem k_127_8 : lk 127 8 = some (.ifCond .eq 5, 11, 13, 0, .null) := by decide +kernel
theorem x_127_8 : Tr sc d 127 (8, [l0, l1, l2, l3], [.int i0], h) Q = if i0 = 0 then Tr sc d 127 (13, [l0, l1, l2, l3], [], h) Q else Tr sc d 127 (11, [l0, l1, l2, l3], [], h) Q := t_if k_127_8 rfl
theorem k_127_11 : lk 127 11 = some (.iload_n 3, 12, 3, 0, .null) := by decide +kernel
theorem x_127_11 : Tr sc d 127 (11, [l0, l1, l2, some (.int x)], [], h) Q = Tr sc d 127 (12, [l0, l1, l2, some (.int x)], [.int x], h) Q := t_iload_n k_127_11 rfl
theorem k_127_12 : lk 127 12 = some (.ireturn, 13, 0, 0, .null) := by decide +kernel
theorem x_127_12 : Tr sc d 127 (12, [l0, l1, l2, l3], [.int i0], h) Q = Q (some (.int i0), h) := t_ret k_127_12 (by rw [r_127]; rfl)
theorem k_127_13 : lk 127 13 = some (.aload_n 0, 14, 0, 0, .null) := by decide +kernel
theorem x_127_13 : Tr sc d 127 (13, [some (.ref xk), l1, l2, l3], [], h) Q = Tr sc d 127 (14, [some (.ref xk), l1, l2, l3], [.ref xk], h) Q := t_aload_n k_127_13 rfl
theorem k_127_14 : lk 127 14 = some (.getfield 20, 17, 9, 2, .null) := by decide +kernel
theorem x_127_14 : Tr sc d 127 (14, [l0, l1, l2, l3], [.ref k0], h) Q = (okp h k0 9 = true ∧ ∃ q, hR h k0 2 = some q ∧ Tr sc d 127 (17, [l0, l1, l2, l3], [.ref q], h) Q) := t_getr k_127_14
theorem k_127_17 : lk 127 17 = some (.iload_n 1, 18, 1, 0, .null) := by decide +kernel
theorem x_127_17 : Tr sc d 127 (17, [l0, some (.int x), l2, l3], [.ref k0], h) Q = Tr sc d 127 (18, [l0, some (.int x), l2, l3], [.int x, .ref k0], h) Q := t_iload_n k_127_17 rfl
theorem k_127_18 : lk 127 18 = some (.aaload, 19, 0, 0, .null) := by decide +kernel
theorem x_127_18 : Tr sc d 127 (18, [l0, l1, l2, l3], [.int i1, .ref k0], h) Q = (((okp h k0 14 || okp h k0 15) && inb i1 (LN k0)) = true ∧ ∃ q, hR h k0 i1.toNatClampNeg = some q ∧ Tr sc d 127 (19, [l0, l1, l2, l3], [.ref q], h) Q) := t_aald k_127_18
theorem k_127_19 : lk 127 19 = some (.getfield 200, 22, 6, 6, .int 0) := by decide +kernel
theorem x_127_19 : Tr sc d 127 (19, [l0, l1, l2, l3], [.ref k0], h) Q = (okp h k0 6 = true ∧ Tr sc d 127 (22, [l0, l1, l2, l3], [.int (hI h k0 6)], h) Q) := t_gd k_127_19 rfl
theorem k_127_22 : lk 127 22 = some (.iconst 4, 23, 0, 0, .int 4) := by decide +kernel
theorem x_127_22 : Tr sc d 127 (22, [l0, l1, l2, l3], [.int i0], h) Q = Tr sc d 127 (23, [l0, l1, l2, l3], [.int 4, .int i0], h) Q := t_go k_127_22 rfl
theorem k_127_23 : lk 127 23 = some (.if_icmp .ne 9, 26, 32, 0, .null) := by decide +kernel
theorem x_127_23 : Tr sc d 127 (23, [l0, l1, l2, l3], [.int i1, .int i0], h) Q = if i0 = i1 then Tr sc d 127 (26, [l0, l1, l2, l3], [], h) Q else Tr sc d 127 (32, [l0, l1, l2, l3], [], h) Q := t_if k_127_23 rfl
theorem k_127_26 : lk 127 26 = some (.aload_n 0, 27, 0, 0, .null) := by decide +kernel
theorem x_127_26 : Tr sc d 127 (26, [some (.ref xk), l1, l2, l3], [], h) Q = Tr sc d 127 (27, [some (.ref xk), l1, l2, l3], [.ref xk], h) Q := t_aload_n k_127_26 rfl
theorem k_127_27 : lk 127 27 = some (.iconst 3, 28, 0, 0, .int 3) := by decide +kernel
theorem x_127_27 : Tr sc d 127 (27, [l0, l1, l2, l3], [.ref k0], h) Q = Tr sc d 127 (28, [l0, l1, l2, l3], [.int 3, .ref k0], h) Q := t_go k_127_27 rfl
theorem k_127_28 : lk 127 28 = some (.invokevirtual 118, 31, 144, 1, .null) := by decide +kernel
theorem x_127_28 : Tr sc (d + 1) 127 (28, [l0, l1, l2, l3], [.int i1, .ref k0], h) Q = (okp h k0 9 = true ∧ Tr sc d 144 (ent0 144 [.ref k0, .int i1] h) (fun z => Tr sc (d + 1) 127 (31, [l0, l1, l2, l3], z.1.toList ++ [], z.2) Q)) := t_cv (as := [.int i1]) (r := []) k_127_28 rfl rfl (Nat.le_of_ble_eq_true rfl) (Nat.le_of_ble_eq_true rfl) (Nat.le_of_ble_eq_true rfl)
theorem k_127_31 : lk 127 31 = some (.ireturn, 32, 0, 0, .null) := by decide +kernel
theorem x_127_31 : Tr sc d 127 (31, [l0, l1, l2, l3], [.int i0], h) Q = Q (some (.int i0), h) := t_ret k_127_31 (by rw [r_127]; rfl)
theorem k_127_32 : lk 127 32 = some (.aload_n 0, 33, 0, 0, .null) := by decide +kernel
theorem x_127_32 : Tr sc d 127 (32, [some (.ref xk), l1, l2, l3], [], h) Q = Tr sc d 127 (33, [some (.ref xk), l1, l2, l3], [.ref xk], h) Q := t_aload_n k_127_32 rfl
theorem k_127_33 : lk 127 33 = some (.getfield 43, 36, 9, 6, .null) := by decide +kernel
theorem x_127_33 : Tr sc d 127 (33, [l0, l1, l2, l3], [.ref k0], h) Q = (okp h k0 9 = true ∧ ∃ q, hR h k0 6 = some q ∧ Tr sc d 127 (36, [l0, l1, l2, l3], [.ref q], h) Q) := t_getr k_127_33
theorem k_127_36 : lk 127 36 = some (.aload_n 0, 37, 0, 0, .null) := by decide +kernel
theorem x_127_36 : Tr sc d 127 (36, [some (.ref xk), l1, l2, l3], [.ref k0], h) Q = Tr sc d 127 (37, [some (.ref xk), l1, l2, l3], [.ref xk, .ref k0], h) Q := t_aload_n k_127_36 rfl
theorem k_127_37 : lk 127 37 = some (.getfield 20, 40, 9, 2, .null) := by decide +kernel
theorem x_127_37 : Tr sc d 127 (37, [l0, l1, l2, l3], [.ref k1, .ref k0], h) Q = (okp h k1 9 = true ∧ ∃ q, hR h k1 2 = some q ∧ Tr sc d 127 (40, [l0, l1, l2, l3], [.ref q, .ref k0], h) Q) := t_getr k_127_37
theorem k_127_40 : lk 127 40 = some (.iload_n 1, 41, 1, 0, .null) := by decide +kernel
theorem x_127_40 : Tr sc d 127 (40, [l0, some (.int x), l2, l3], [.ref k1, .ref k0], h) Q = Tr sc d 127 (41, [l0, some (.int x), l2, l3], [.int x, .ref k1, .ref k0], h) Q := t_iload_n k_127_40 rfl
theorem k_127_41 : lk 127 41 = some (.aaload, 42, 0, 0, .null) := by decide +kernel
theorem x_127_41 : Tr sc d 127 (41, [l0, l1, l2, l3], [.int i2, .ref k1, .ref k0], h) Q = (((okp h k1 14 || okp h k1 15) && inb i2 (LN k1)) = true ∧ ∃ q, hR h k1 i2.toNatClampNeg = some q ∧ Tr sc d 127 (42, [l0, l1, l2, l3], [.ref q, .ref k0], h) Q) := t_aald k_127_41
theorem k_127_42 : lk 127 42 = some (.invokevirtual 344, 45, 4, 1, .null) := by decide +kernel
theorem x_127_42 : Tr sc (d + 1) 127 (42, [l0, l1, l2, l3], [.ref k1, .ref k0], h) Q = (okp h k0 0 = true ∧ Tr sc d 4 (ent0 4 [.ref k0, .ref k1] h) (fun z => Tr sc (d + 1) 127 (45, [l0, l1, l2, l3], z.1.toList ++ [], z.2) Q)) := t_cv (as := [.ref k1]) (r := []) k_127_42 rfl rfl (Nat.le_of_ble_eq_true rfl) (Nat.le_of_ble_eq_true rfl) (Nat.le_of_ble_eq_true rfl)
theorem k_127_45 : lk 127 45 = some (.aload_n 0, 46, 0, 0, .null) := by decide +kernel
theorem x_127_45 : Tr sc d 127 (45, [some (.ref xk), l1, l2, l3], [], h) Q = Tr sc d 127 (46, [some (.ref xk), l1, l2, l3], [.ref xk], h) Q := t_aload_n k_127_45 rfl
theorem k_127_46 : lk 127 46 = some (.iload_n 2, 47, 2, 0, .null) := by decide +kernel
theorem x_127_46 : Tr sc d 127 (46, [l0, l1, some (.int x), l3], [.ref k0], h) Q = Tr sc d 127 (47, [l0, l1, some (.int x), l3], [.int x, .ref k0], h) Q := t_iload_n k_127_46 rfl
theorem k_127_47 : lk 127 47 = some (.ifCond .eq 13, 50, 60, 0, .null) := by decide +kernel
theorem x_127_47 : Tr sc d 127 (47, [l0, l1, l2, l3], [.int i1, .ref k0], h) Q = if i1 = 0 then Tr sc d 127 (60, [l0, l1, l2, l3], [.ref k0], h) Q else Tr sc d 127 (50, [l0, l1, l2, l3], [.ref k0], h) Q := t_if k_127_47 rfl
theorem k_127_50 : lk 127 50 = some (.aload_n 0, 51, 0, 0, .null) := by decide +kernel
theorem x_127_50 : Tr sc d 127 (50, [some (.ref xk), l1, l2, l3], [.ref k0], h) Q = Tr sc d 127 (51, [some (.ref xk), l1, l2, l3], [.ref xk, .ref k0], h) Q := t_aload_n k_127_50 rfl
theorem k_127_51 : lk 127 51 = some (.getfield 43, 54, 9, 6, .null) := by decide +kernel
theorem x_127_51 : Tr sc d 127 (51, [l0, l1, l2, l3], [.ref k1, .ref k0], h) Q = (okp h k1 9 = true ∧ ∃ q, hR h k1 6 = some q ∧ Tr sc d 127 (54, [l0, l1, l2, l3], [.ref q, .ref k0], h) Q) := t_getr k_127_51
theorem k_127_54 : lk 127 54 = some (.invokevirtual 250, 57, 7, 0, .null) := by decide +kernel
theorem x_127_54 : Tr sc (d + 1) 127 (54, [l0, l1, l2, l3], [.ref k1, .ref k0], h) Q = (okp h k1 0 = true ∧ Tr sc d 7 (ent0 7 [.ref k1] h) (fun z => Tr sc (d + 1) 127 (57, [l0, l1, l2, l3], z.1.toList ++ [.ref k0], z.2) Q)) := t_cv (as := []) (r := [.ref k0]) k_127_54 rfl rfl (Nat.le_of_ble_eq_true rfl) (Nat.le_of_ble_eq_true rfl) (Nat.le_of_ble_eq_true rfl)
theorem k_127_57 : lk 127 57 = some (.goto 10, 60, 67, 0, .null) := by decide +kernel
theorem x_127_57 : Tr sc d 127 (57, [l0, l1, l2, l3], [.long j1, .ref k0], h) Q = Tr sc d 127 (67, [l0, l1, l2, l3], [.long j1, .ref k0], h) Q := t_go k_127_57 rfl
theorem k_127_60 : lk 127 60 = some (.aload_n 0, 61, 0, 0, .null) := by decide +kernel
theorem x_127_60 : Tr sc d 127 (60, [some (.ref xk), l1, l2, l3], [.ref k0], h) Q = Tr sc d 127 (61, [some (.ref xk), l1, l2, l3], [.ref xk, .ref k0], h) Q := t_aload_n k_127_60 rfl
theorem k_127_61 : lk 127 61 = some (.getfield 43, 64, 9, 6, .null) := by decide +kernel
theorem x_127_61 : Tr sc d 127 (61, [l0, l1, l2, l3], [.ref k1, .ref k0], h) Q = (okp h k1 9 = true ∧ ∃ q, hR h k1 6 = some q ∧ Tr sc d 127 (64, [l0, l1, l2, l3], [.ref q, .ref k0], h) Q) := t_getr k_127_61
theorem k_127_64 : lk 127 64 = some (.invokevirtual 241, 67, 6, 0, .null) := by decide +kernel
theorem x_127_64 : Tr sc (d + 1) 127 (64, [l0, l1, l2, l3], [.ref k1, .ref k0], h) Q = (okp h k1 0 = true ∧ Tr sc d 6 (ent0 6 [.ref k1] h) (fun z => Tr sc (d + 1) 127 (67, [l0, l1, l2, l3], z.1.toList ++ [.ref k0], z.2) Q)) := t_cv (as := []) (r := [.ref k0]) k_127_64 rfl rfl (Nat.le_of_ble_eq_true rfl) (Nat.le_of_ble_eq_true rfl) (Nat.le_of_ble_eq_true rfl)
theorem k_127_67 : lk 127 67 = some (.aload_n 0, 68, 0, 0, .null) := by decide +kernel
theorem x_127_67 : Tr sc d 127 (67, [some (.ref xk), l1, l2, l3], [.long j1, .ref k0], h) Q = Tr sc d 127 (68, [some (.ref xk), l1, l2, l3], [.ref xk, .long j1, .ref k0], h) Q := t_aload_n k_127_67 rfl
theorem k_127_68 : lk 127 68 = some (.getfield 43, 71, 9, 6, .null) := by decide +kernel
theorem x_127_68 : Tr sc d 127 (68, [l0, l1, l2, l3], [.ref k2, .long j1, .ref k0], h) Q = (okp h k2 9 = true ∧ ∃ q, hR h k2 6 = some q ∧ Tr sc d 127 (71, [l0, l1, l2, l3], [.ref q, .long j1, .ref k0], h) Q) := t_getr k_127_68
theorem k_127_71 : lk 127 71 = some (.invokevirtual 238, 74, 5, 0, .null) := by decide +kernel
theorem x_127_71 : Tr sc (d + 1) 127 (71, [l0, l1, l2, l3], [.ref k2, .long j1, .ref k0], h) Q = (okp h k2 0 = true ∧ Tr sc d 5 (ent0 5 [.ref k2] h) (fun z => Tr sc (d + 1) 127 (74, [l0, l1, l2, l3], z.1.toList ++ [.long j1, .ref k0], z.2) Q)) := t_cv (as := []) (r := [.long j1, .ref k0]) k_127_71 rfl rfl (Nat.le_of_ble_eq_true rfl) (Nat.le_of_ble_eq_true rfl) (Nat.le_of_ble_eq_true rfl)
theorem k_127_74 : lk 127 74 = some (.invokevirtual 262, 77, 153, 2, .null) := by decide +kernel
theorem x_127_74 : Tr sc (d + 1) 127 (74, [l0, l1, l2, l3], [.long j2, .long j1, .ref k0], h) Q = (okp h k0 9 = true ∧ Tr sc d 153 (ent0 153 [.ref k0, .long j1, .long j2] h) (fun z => Tr sc (d + 1) 127 (77, [l0, l1, l2, l3], z.1.toList ++ [], z.2) Q)) := t_cv (as := [.long j1, .long j2]) (r := []) k_127_74 rfl rfl (Nat.le_of_ble_eq_true rfl) (Nat.le_of_ble_eq_true rfl) (Nat.le_of_ble_eq_true rfl)
theorem k_127_77 : lk 127 77 = some (.iconst 1, 78, 0, 0, .int 1) := by decide +kernel
theorem x_127_77 : Tr sc d 127 (77, [l0, l1, l2, l3], [], h) Q = Tr sc d 127 (78, [l0, l1, l2, l3], [.int 1], h) Q := t_go k_127_77 rfl
theorem k_127_78 : lk 127 78 = some (.ireturn, 79, 0, 0, .null) := by decide +kernel
theorem x_127_78 : Tr sc d 127 (78, [l0, l1, l2, l3], [.int i0], h) Q = Q (some (.int i0), h) := t_ret k_127_78 (by rw [r_127]; rfl)
theorem e_127 : Tr sc d 127 (ent0 127 [.ref k0, .int i1, .int i2] h) Q = Tr sc d 127 (0, [some (.ref k0), some (.int i1), some (.int i2), none], [], h) Q := by
  have e : mL 127 = 4 := by decide +kernel
  unfold ent0
  rw [e]
  rfl
theorem r_128 : mR 128 = some .int := by decide +kernel
theorem k_128_0 : lk 128 0 = some (.aload_n 0, 1, 0, 0, .null) := by decide +kernel
theorem x_128_0 : Tr sc d 128 (0, [some (.ref xk), l1, l2, l3, l4, l5], [], h) Q = Tr sc d 128 (1, [some (.ref xk), l1, l2, l3, l4, l5], [.ref xk], h) Q := t_aload_n k_128_0 rfl
theorem k_128_1 : lk 128 1 = some (.iload_n 1, 2, 1, 0, .null) := by decide +kernel
theorem x_128_1 : Tr sc d 128 (1, [l0, some (.int x), l2, l3, l4, l5], [.ref k0], h) Q = Tr sc d 128 (2, [l0, some (.int x), l2, l3, l4, l5], [.int x, .ref k0], h) Q := t_iload_n k_128_1 rfl
theorem k_128_2 : lk 128 2 = some (.iload_n 2, 3, 2, 0, .null) := by decide +kernel
theorem x_128_2 : Tr sc d 128 (2, [l0, l1, some (.int x), l3, l4, l5], [.int i1, .ref k0], h) Q = Tr sc d 128 (3, [l0, l1, some (.int x), l3, l4, l5], [.int x, .int i1, .ref k0], h) Q := t_iload_n k_128_2 rfl
theorem k_128_3 : lk 128 3 = some (.iconst 5, 4, 0, 0, .int 5) := by decide +kernel
theorem x_128_3 : Tr sc d 128 (3, [l0, l1, l2, l3, l4, l5], [.int i2, .int i1, .ref k0], h) Q = Tr sc d 128 (4, [l0, l1, l2, l3, l4, l5], [.int 5, .int i2, .int i1, .ref k0], h) Q := t_go k_128_3 rfl
theorem k_128_4 : lk 128 4 = some (.invokestatic 270, 7, 143, 2, .null) := by decide +kernel
theorem x_128_4 : Tr sc (d + 1) 128 (4, [l0, l1, l2, l3, l4, l5], [.int i3, .int i2, .int i1, .ref k0], h) Q = Tr sc d 143 (ent0 143 [.int i2, .int i3] h) (fun z => Tr sc (d + 1) 128 (7, [l0, l1, l2, l3, l4, l5], z.1.toList ++ [.int i1, .ref k0], z.2) Q) := t_cs (as := [.int i2, .int i3]) (r := [.int i1, .ref k0]) k_128_4 (by decide) rfl rfl (Nat.le_of_ble_eq_true rfl) (Nat.le_of_ble_eq_true rfl)
theorem k_128_7 : lk 128 7 = some (.invokevirtual 196, 10, 145, 2, .null) := by decide +kernel
theorem x_128_7 : Tr sc (d + 1) 128 (7, [l0, l1, l2, l3, l4, l5], [.int i2, .int i1, .ref k0], h) Q = (okp h k0 9 = true ∧ Tr sc d 145 (ent0 145 [.ref k0, .int i1, .int i2] h) (fun z => Tr sc (d + 1) 128 (10, [l0, l1, l2, l3, l4, l5], z.1.toList ++ [], z.2) Q)) := t_cv (as := [.int i1, .int i2]) (r := []) k_128_7 rfl rfl (Nat.le_of_ble_eq_true rfl) (Nat.le_of_ble_eq_true rfl) (Nat.le_of_ble_eq_true rfl)
theorem k_128_10 : lk 128 10 = some (.istore 5, 12, 5, 0, .null) := by decide +kernel
theorem x_128_10 : Tr sc d 128 (10, [l0, l1, l2, l3, l4, l5], [.int i0], h) Q = Tr sc d 128 (12, [l0, l1, l2, l3, cl2 l4, some (.int i0)], [], h) Q := t_istore k_128_10 (Nat.le_of_ble_eq_true rfl)
theorem k_128_12 : lk 128 12 = some (.iload 5, 14, 5, 0, .null) := by decide +kernel
theorem x_128_12 : Tr sc d 128 (12, [l0, l1, l2, l3, l4, some (.int x)], [], h) Q = Tr sc d 128 (14, [l0, l1, l2, l3, l4, some (.int x)], [.int x], h) Q := t_iload k_128_12 rfl
theorem k_128_14 : lk 128 14 = some (.ifCond .eq 6, 17, 20, 0, .null) := by decide +kernel
theorem x_128_14 : Tr sc d 128 (14, [l0, l1, l2, l3, l4, l5], [.int i0], h) Q = if i0 = 0 then Tr sc d 128 (20, [l0, l1, l2, l3, l4, l5], [], h) Q else Tr sc d 128 (17, [l0, l1, l2, l3, l4, l5], [], h) Q := t_if k_128_14 rfl
theorem k_128_17 : lk 128 17 = some (.iload 5, 19, 5, 0, .null) := by decide +kernel
theorem x_128_17 : Tr sc d 128 (17, [l0, l1, l2, l3, l4, some (.int x)], [], h) Q = Tr sc d 128 (19, [l0, l1, l2, l3, l4, some (.int x)], [.int x], h) Q := t_iload k_128_17 rfl
theorem k_128_19 : lk 128 19 = some (.ireturn, 20, 0, 0, .null) := by decide +kernel
theorem x_128_19 : Tr sc d 128 (19, [l0, l1, l2, l3, l4, l5], [.int i0], h) Q = Q (some (.int i0), h) := t_ret k_128_19 (by rw [r_128]; rfl)
theorem k_128_20 : lk 128 20 = some (.aload_n 0, 21, 0, 0, .null) := by decide +kernel
theorem x_128_20 : Tr sc d 128 (20, [some (.ref xk), l1, l2, l3, l4, l5], [], h) Q = Tr sc d 128 (21, [some (.ref xk), l1, l2, l3, l4, l5], [.ref xk], h) Q := t_aload_n k_128_20 rfl
theorem k_128_21 : lk 128 21 = some (.getfield 20, 24, 9, 2, .null) := by decide +kernel
theorem x_128_21 : Tr sc d 128 (21, [l0, l1, l2, l3, l4, l5], [.ref k0], h) Q = (okp h k0 9 = true ∧ ∃ q, hR h k0 2 = some q ∧ Tr sc d 128 (24, [l0, l1, l2, l3, l4, l5], [.ref q], h) Q) := t_getr k_128_21
theorem k_128_24 : lk 128 24 = some (.iload_n 1, 25, 1, 0, .null) := by decide +kernel
theorem x_128_24 : Tr sc d 128 (24, [l0, some (.int x), l2, l3, l4, l5], [.ref k0], h) Q = Tr sc d 128 (25, [l0, some (.int x), l2, l3, l4, l5], [.int x, .ref k0], h) Q := t_iload_n k_128_24 rfl
theorem k_128_25 : lk 128 25 = some (.aaload, 26, 0, 0, .null) := by decide +kernel
theorem x_128_25 : Tr sc d 128 (25, [l0, l1, l2, l3, l4, l5], [.int i1, .ref k0], h) Q = (((okp h k0 14 || okp h k0 15) && inb i1 (LN k0)) = true ∧ ∃ q, hR h k0 i1.toNatClampNeg = some q ∧ Tr sc d 128 (26, [l0, l1, l2, l3, l4, l5], [.ref q], h) Q) := t_aald k_128_25
theorem k_128_26 : lk 128 26 = some (.getfield 200, 29, 6, 6, .int 0) := by decide +kernel
theorem x_128_26 : Tr sc d 128 (26, [l0, l1, l2, l3, l4, l5], [.ref k0], h) Q = (okp h k0 6 = true ∧ Tr sc d 128 (29, [l0, l1, l2, l3, l4, l5], [.int (hI h k0 6)], h) Q) := t_gd k_128_26 rfl
theorem k_128_29 : lk 128 29 = some (.iconst 3, 30, 0, 0, .int 3) := by decide +kernel
theorem x_128_29 : Tr sc d 128 (29, [l0, l1, l2, l3, l4, l5], [.int i0], h) Q = Tr sc d 128 (30, [l0, l1, l2, l3, l4, l5], [.int 3, .int i0], h) Q := t_go k_128_29 rfl
theorem k_128_30 : lk 128 30 = some (.if_icmp .eq 9, 33, 39, 0, .null) := by decide +kernel
theorem x_128_30 : Tr sc d 128 (30, [l0, l1, l2, l3, l4, l5], [.int i1, .int i0], h) Q = if i0 = i1 then Tr sc d 128 (39, [l0, l1, l2, l3, l4, l5], [], h) Q else Tr sc d 128 (33, [l0, l1, l2, l3, l4, l5], [], h) Q := t_if k_128_30 rfl
theorem k_128_33 : lk 128 33 = some (.aload_n 0, 34, 0, 0, .null) := by decide +kernel
theorem x_128_33 : Tr sc d 128 (33, [some (.ref xk), l1, l2, l3, l4, l5], [], h) Q = Tr sc d 128 (34, [some (.ref xk), l1, l2, l3, l4, l5], [.ref xk], h) Q := t_aload_n k_128_33 rfl
theorem k_128_34 : lk 128 34 = some (.iconst 3, 35, 0, 0, .int 3) := by decide +kernel
theorem x_128_34 : Tr sc d 128 (34, [l0, l1, l2, l3, l4, l5], [.ref k0], h) Q = Tr sc d 128 (35, [l0, l1, l2, l3, l4, l5], [.int 3, .ref k0], h) Q := t_go k_128_34 rfl
theorem k_128_35 : lk 128 35 = some (.invokevirtual 118, 38, 144, 1, .null) := by decide +kernel
theorem x_128_35 : Tr sc (d + 1) 128 (35, [l0, l1, l2, l3, l4, l5], [.int i1, .ref k0], h) Q = (okp h k0 9 = true ∧ Tr sc d 144 (ent0 144 [.ref k0, .int i1] h) (fun z => Tr sc (d + 1) 128 (38, [l0, l1, l2, l3, l4, l5], z.1.toList ++ [], z.2) Q)) := t_cv (as := [.int i1]) (r := []) k_128_35 rfl rfl (Nat.le_of_ble_eq_true rfl) (Nat.le_of_ble_eq_true rfl) (Nat.le_of_ble_eq_true rfl)
theorem k_128_38 : lk 128 38 = some (.ireturn, 39, 0, 0, .null) := by decide +kernel
theorem x_128_38 : Tr sc d 128 (38, [l0, l1, l2, l3, l4, l5], [.int i0], h) Q = Q (some (.int i0), h) := t_ret k_128_38 (by rw [r_128]; rfl)
theorem k_128_39 : lk 128 39 = some (.aload_n 0, 40, 0, 0, .null) := by decide +kernel
theorem x_128_39 : Tr sc d 128 (39, [some (.ref xk), l1, l2, l3, l4, l5], [], h) Q = Tr sc d 128 (40, [some (.ref xk), l1, l2, l3, l4, l5], [.ref xk], h) Q := t_aload_n k_128_39 rfl
theorem k_128_40 : lk 128 40 = some (.aload_n 0, 41, 0, 0, .null) := by decide +kernel
theorem x_128_40 : Tr sc d 128 (40, [some (.ref xk), l1, l2, l3, l4, l5], [.ref k0], h) Q = Tr sc d 128 (41, [some (.ref xk), l1, l2, l3, l4, l5], [.ref xk, .ref k0], h) Q := t_aload_n k_128_40 rfl
theorem k_128_41 : lk 128 41 = some (.getfield 20, 44, 9, 2, .null) := by decide +kernel
theorem x_128_41 : Tr sc d 128 (41, [l0, l1, l2, l3, l4, l5], [.ref k1, .ref k0], h) Q = (okp h k1 9 = true ∧ ∃ q, hR h k1 2 = some q ∧ Tr sc d 128 (44, [l0, l1, l2, l3, l4, l5], [.ref q, .ref k0], h) Q) := t_getr k_128_41
theorem k_128_44 : lk 128 44 = some (.iload_n 1, 45, 1, 0, .null) := by decide +kernel
theorem x_128_44 : Tr sc d 128 (44, [l0, some (.int x), l2, l3, l4, l5], [.ref k1, .ref k0], h) Q = Tr sc d 128 (45, [l0, some (.int x), l2, l3, l4, l5], [.int x, .ref k1, .ref k0], h) Q := t_iload_n k_128_44 rfl
theorem k_128_45 : lk 128 45 = some (.aaload, 46, 0, 0, .null) := by decide +kernel
theorem x_128_45 : Tr sc d 128 (45, [l0, l1, l2, l3, l4, l5], [.int i2, .ref k1, .ref k0], h) Q = (((okp h k1 14 || okp h k1 15) && inb i2 (LN k1)) = true ∧ ∃ q, hR h k1 i2.toNatClampNeg = some q ∧ Tr sc d 128 (46, [l0, l1, l2, l3, l4, l5], [.ref q, .ref k0], h) Q) := t_aald k_128_45
theorem k_128_46 : lk 128 46 = some (.iload_n 2, 47, 2, 0, .null) := by decide +kernel
theorem x_128_46 : Tr sc d 128 (46, [l0, l1, some (.int x), l3, l4, l5], [.ref k1, .ref k0], h) Q = Tr sc d 128 (47, [l0, l1, some (.int x), l3, l4, l5], [.int x, .ref k1, .ref k0], h) Q := t_iload_n k_128_46 rfl
theorem k_128_47 : lk 128 47 = some (.iconst 0, 48, 0, 0, .int 0) := by decide +kernel
theorem x_128_47 : Tr sc d 128 (47, [l0, l1, l2, l3, l4, l5], [.int i2, .ref k1, .ref k0], h) Q = Tr sc d 128 (48, [l0, l1, l2, l3, l4, l5], [.int 0, .int i2, .ref k1, .ref k0], h) Q := t_go k_128_47 rfl
theorem k_128_48 : lk 128 48 = some (.iconst 0, 49, 0, 0, .int 0) := by decide +kernel
theorem x_128_48 : Tr sc d 128 (48, [l0, l1, l2, l3, l4, l5], [.int i3, .int i2, .ref k1, .ref k0], h) Q = Tr sc d 128 (49, [l0, l1, l2, l3, l4, l5], [.int 0, .int i3, .int i2, .ref k1, .ref k0], h) Q := t_go k_128_48 rfl
theorem k_128_49 : lk 128 49 = some (.iconst 1, 50, 0, 0, .int 1) := by decide +kernel
theorem x_128_49 : Tr sc d 128 (49, [l0, l1, l2, l3, l4, l5], [.int i4, .int i3, .int i2, .ref k1, .ref k0], h) Q = Tr sc d 128 (50, [l0, l1, l2, l3, l4, l5], [.int 1, .int i4, .int i3, .int i2, .ref k1, .ref k0], h) Q := t_go k_128_49 rfl
theorem k_128_50 : lk 128 50 = some (.iload_n 3, 51, 3, 0, .null) := by decide +kernel
theorem x_128_50 : Tr sc d 128 (50, [l0, l1, l2, some (.int x), l4, l5], [.int i5, .int i4, .int i3, .int i2, .ref k1, .ref k0], h) Q = Tr sc d 128 (51, [l0, l1, l2, some (.int x), l4, l5], [.int x, .int i5, .int i4, .int i3, .int i2, .ref k1, .ref k0], h) Q := t_iload_n k_128_50 rfl
theorem k_128_51 : lk 128 51 = some (.iload 4, 53, 4, 0, .null) := by decide +kernel
theorem x_128_51 : Tr sc d 128 (51, [l0, l1, l2, l3, some (.int x), l5], [.int i6, .int i5, .int i4, .int i3, .int i2, .ref k1, .ref k0], h) Q = Tr sc d 128 (53, [l0, l1, l2, l3, some (.int x), l5], [.int x, .int i6, .int i5, .int i4, .int i3, .int i2, .ref k1, .ref k0], h) Q := t_iload k_128_51 rfl
theorem k_128_53 : lk 128 53 = some (.invokevirtual 347, 56, 69, 6, .null) := by decide +kernel
theorem x_128_53 : Tr sc (d + 1) 128 (53, [l0, l1, l2, l3, l4, l5], [.int i7, .int i6, .int i5, .int i4, .int i3, .int i2, .ref k1, .ref k0], h) Q = (okp h k1 6 = true ∧ Tr sc d 69 (ent0 69 [.ref k1, .int i2, .int i3, .int i4, .int i5, .int i6, .int i7] h) (fun z => Tr sc (d + 1) 128 (56, [l0, l1, l2, l3, l4, l5], z.1.toList ++ [.ref k0], z.2) Q)) := t_cv (as := [.int i2, .int i3, .int i4, .int i5, .int i6, .int i7]) (r := [.ref k0]) k_128_53 rfl rfl (Nat.le_of_ble_eq_true rfl) (Nat.le_of_ble_eq_true rfl) (Nat.le_of_ble_eq_true rfl)
theorem k_128_56 : lk 128 56 = some (.putfield 101, 59, 9, 16, .long 0) := by decide +kernel
theorem x_128_56 : Tr sc d 128 (56, [l0, l1, l2, l3, l4, l5], [.long j1, .ref k0], h) Q = (okp h k0 9 = true ∧ Tr sc d 128 (59, [l0, l1, l2, l3, l4, l5], [], (sL h k0 16 j1)) Q) := t_gd k_128_56 rfl
theorem k_128_59 : lk 128 59 = some (.iconst 1, 60, 0, 0, .int 1) := by decide +kernel
theorem x_128_59 : Tr sc d 128 (59, [l0, l1, l2, l3, l4, l5], [], h) Q = Tr sc d 128 (60, [l0, l1, l2, l3, l4, l5], [.int 1], h) Q := t_go k_128_59 rfl
theorem k_128_60 : lk 128 60 = some (.ireturn, 61, 0, 0, .null) := by decide +kernel
theorem x_128_60 : Tr sc d 128 (60, [l0, l1, l2, l3, l4, l5], [.int i0], h) Q = Q (some (.int i0), h) := t_ret k_128_60 (by rw [r_128]; rfl)
theorem e_128 : Tr sc d 128 (ent0 128 [.ref k0, .int i1, .int i2, .int i3, .int i4] h) Q = Tr sc d 128 (0, [some (.ref k0), some (.int i1), some (.int i2), some (.int i3), some (.int i4), none], [], h) Q := by
  have e : mL 128 = 6 := by decide +kernel
  unfold ent0
  rw [e]
  rfl
theorem r_129 : mR 129 = some .int := by decide +kernel
theorem k_129_0 : lk 129 0 = some (.aload_n 0, 1, 0, 0, .null) := by decide +kernel
theorem x_129_0 : Tr sc d 129 (0, [some (.ref xk), l1, l2, l3], [], h) Q = Tr sc d 129 (1, [some (.ref xk), l1, l2, l3], [.ref xk], h) Q := t_aload_n k_129_0 rfl
theorem k_129_1 : lk 129 1 = some (.iload_n 1, 2, 1, 0, .null) := by decide +kernel
theorem x_129_1 : Tr sc d 129 (1, [l0, some (.int x), l2, l3], [.ref k0], h) Q = Tr sc d 129 (2, [l0, some (.int x), l2, l3], [.int x, .ref k0], h) Q := t_iload_n k_129_1 rfl
theorem k_129_2 : lk 129 2 = some (.iload_n 2, 3, 2, 0, .null) := by decide +kernel
theorem x_129_2 : Tr sc d 129 (2, [l0, l1, some (.int x), l3], [.int i1, .ref k0], h) Q = Tr sc d 129 (3, [l0, l1, some (.int x), l3], [.int x, .int i1, .ref k0], h) Q := t_iload_n k_129_2 rfl
theorem k_129_3 : lk 129 3 = some (.iconst 3, 4, 0, 0, .int 3) := by decide +kernel
theorem x_129_3 : Tr sc d 129 (3, [l0, l1, l2, l3], [.int i2, .int i1, .ref k0], h) Q = Tr sc d 129 (4, [l0, l1, l2, l3], [.int 3, .int i2, .int i1, .ref k0], h) Q := t_go k_129_3 rfl
theorem k_129_4 : lk 129 4 = some (.invokestatic 270, 7, 143, 2, .null) := by decide +kernel
theorem x_129_4 : Tr sc (d + 1) 129 (4, [l0, l1, l2, l3], [.int i3, .int i2, .int i1, .ref k0], h) Q = Tr sc d 143 (ent0 143 [.int i2, .int i3] h) (fun z => Tr sc (d + 1) 129 (7, [l0, l1, l2, l3], z.1.toList ++ [.int i1, .ref k0], z.2) Q) := t_cs (as := [.int i2, .int i3]) (r := [.int i1, .ref k0]) k_129_4 (by decide) rfl rfl (Nat.le_of_ble_eq_true rfl) (Nat.le_of_ble_eq_true rfl)
theorem k_129_7 : lk 129 7 = some (.invokevirtual 196, 10, 145, 2, .null) := by decide +kernel
theorem x_129_7 : Tr sc (d + 1) 129 (7, [l0, l1, l2, l3], [.int i2, .int i1, .ref k0], h) Q = (okp h k0 9 = true ∧ Tr sc d 145 (ent0 145 [.ref k0, .int i1, .int i2] h) (fun z => Tr sc (d + 1) 129 (10, [l0, l1, l2, l3], z.1.toList ++ [], z.2) Q)) := t_cv (as := [.int i1, .int i2]) (r := []) k_129_7 rfl rfl (Nat.le_of_ble_eq_true rfl) (Nat.le_of_ble_eq_true rfl) (Nat.le_of_ble_eq_true rfl)
theorem k_129_10 : lk 129 10 = some (.istore_n 3, 11, 3, 0, .null) := by decide +kernel
theorem x_129_10 : Tr sc d 129 (10, [l0, l1, l2, l3], [.int i0], h) Q = Tr sc d 129 (11, [l0, l1, cl2 l2, some (.int i0)], [], h) Q := t_istore_n k_129_10 (Nat.le_of_ble_eq_true rfl)
theorem k_129_11 : lk 129 11 = some (.iload_n 3, 12, 3, 0, .null) := by decide +kernel
theorem x_129_11 : Tr sc d 129 (11, [l0, l1, l2, some (.int x)], [], h) Q = Tr sc d 129 (12, [l0, l1, l2, some (.int x)], [.int x], h) Q := t_iload_n k_129_11 rfl
theorem k_129_12 : lk 129 12 = some (.ifCond .eq 5, 15, 17, 0, .null) := by decide +kernel
theorem x_129_12 : Tr sc d 129 (12, [l0, l1, l2, l3], [.int i0], h) Q = if i0 = 0 then Tr sc d 129 (17, [l0, l1, l2, l3], [], h) Q else Tr sc d 129 (15, [l0, l1, l2, l3], [], h) Q := t_if k_129_12 rfl
theorem k_129_15 : lk 129 15 = some (.iload_n 3, 16, 3, 0, .null) := by decide +kernel
theorem x_129_15 : Tr sc d 129 (15, [l0, l1, l2, some (.int x)], [], h) Q = Tr sc d 129 (16, [l0, l1, l2, some (.int x)], [.int x], h) Q := t_iload_n k_129_15 rfl
theorem k_129_16 : lk 129 16 = some (.ireturn, 17, 0, 0, .null) := by decide +kernel
theorem x_129_16 : Tr sc d 129 (16, [l0, l1, l2, l3], [.int i0], h) Q = Q (some (.int i0), h) := t_ret k_129_16 (by rw [r_129]; rfl)
theorem k_129_17 : lk 129 17 = some (.aload_n 0, 18, 0, 0, .null) := by decide +kernel
theorem x_129_17 : Tr sc d 129 (17, [some (.ref xk), l1, l2, l3], [], h) Q = Tr sc d 129 (18, [some (.ref xk), l1, l2, l3], [.ref xk], h) Q := t_aload_n k_129_17 rfl
theorem k_129_18 : lk 129 18 = some (.getfield 51, 21, 9, 7, .null) := by decide +kernel
theorem x_129_18 : Tr sc d 129 (18, [l0, l1, l2, l3], [.ref k0], h) Q = (okp h k0 9 = true ∧ ∃ q, hR h k0 7 = some q ∧ Tr sc d 129 (21, [l0, l1, l2, l3], [.ref q], h) Q) := t_getr k_129_18
theorem k_129_21 : lk 129 21 = some (.aload_n 0, 22, 0, 0, .null) := by decide +kernel
theorem x_129_21 : Tr sc d 129 (21, [some (.ref xk), l1, l2, l3], [.ref k0], h) Q = Tr sc d 129 (22, [some (.ref xk), l1, l2, l3], [.ref xk, .ref k0], h) Q := t_aload_n k_129_21 rfl
theorem k_129_22 : lk 129 22 = some (.getfield 20, 25, 9, 2, .null) := by decide +kernel
theorem x_129_22 : Tr sc d 129 (22, [l0, l1, l2, l3], [.ref k1, .ref k0], h) Q = (okp h k1 9 = true ∧ ∃ q, hR h k1 2 = some q ∧ Tr sc d 129 (25, [l0, l1, l2, l3], [.ref q, .ref k0], h) Q) := t_getr k_129_22
theorem k_129_25 : lk 129 25 = some (.iload_n 1, 26, 1, 0, .null) := by decide +kernel
theorem x_129_25 : Tr sc d 129 (25, [l0, some (.int x), l2, l3], [.ref k1, .ref k0], h) Q = Tr sc d 129 (26, [l0, some (.int x), l2, l3], [.int x, .ref k1, .ref k0], h) Q := t_iload_n k_129_25 rfl
theorem k_129_26 : lk 129 26 = some (.aaload, 27, 0, 0, .null) := by decide +kernel
theorem x_129_26 : Tr sc d 129 (26, [l0, l1, l2, l3], [.int i2, .ref k1, .ref k0], h) Q = (((okp h k1 14 || okp h k1 15) && inb i2 (LN k1)) = true ∧ ∃ q, hR h k1 i2.toNatClampNeg = some q ∧ Tr sc d 129 (27, [l0, l1, l2, l3], [.ref q, .ref k0], h) Q) := t_aald k_129_26
theorem k_129_27 : lk 129 27 = some (.iload_n 2, 28, 2, 0, .null) := by decide +kernel
theorem x_129_27 : Tr sc d 129 (27, [l0, l1, some (.int x), l3], [.ref k1, .ref k0], h) Q = Tr sc d 129 (28, [l0, l1, some (.int x), l3], [.int x, .ref k1, .ref k0], h) Q := t_iload_n k_129_27 rfl
theorem k_129_28 : lk 129 28 = some (.invokevirtual 273, 31, 10, 2, .null) := by decide +kernel
theorem x_129_28 : Tr sc (d + 1) 129 (28, [l0, l1, l2, l3], [.int i2, .ref k1, .ref k0], h) Q = (okp h k0 1 = true ∧ Tr sc d 10 (ent0 10 [.ref k0, .ref k1, .int i2] h) (fun z => Tr sc (d + 1) 129 (31, [l0, l1, l2, l3], z.1.toList ++ [], z.2) Q)) := t_cv (as := [.ref k1, .int i2]) (r := []) k_129_28 rfl rfl (Nat.le_of_ble_eq_true rfl) (Nat.le_of_ble_eq_true rfl) (Nat.le_of_ble_eq_true rfl)
theorem k_129_31 : lk 129 31 = some (.aload_n 0, 32, 0, 0, .null) := by decide +kernel
theorem x_129_31 : Tr sc d 129 (31, [some (.ref xk), l1, l2, l3], [], h) Q = Tr sc d 129 (32, [some (.ref xk), l1, l2, l3], [.ref xk], h) Q := t_aload_n k_129_31 rfl
theorem k_129_32 : lk 129 32 = some (.getfield 51, 35, 9, 7, .null) := by decide +kernel
theorem x_129_32 : Tr sc d 129 (32, [l0, l1, l2, l3], [.ref k0], h) Q = (okp h k0 9 = true ∧ ∃ q, hR h k0 7 = some q ∧ Tr sc d 129 (35, [l0, l1, l2, l3], [.ref q], h) Q) := t_getr k_129_32
theorem k_129_35 : lk 129 35 = some (.getfield 280, 38, 1, 4, .int 0) := by decide +kernel
theorem x_129_35 : Tr sc d 129 (35, [l0, l1, l2, l3], [.ref k0], h) Q = (okp h k0 1 = true ∧ Tr sc d 129 (38, [l0, l1, l2, l3], [.int (hI h k0 4)], h) Q) := t_gd k_129_35 rfl
theorem k_129_38 : lk 129 38 = some (.ifCond .ne 5, 41, 43, 0, .null) := by decide +kernel
theorem x_129_38 : Tr sc d 129 (38, [l0, l1, l2, l3], [.int i0], h) Q = if i0 = 0 then Tr sc d 129 (41, [l0, l1, l2, l3], [], h) Q else Tr sc d 129 (43, [l0, l1, l2, l3], [], h) Q := t_if k_129_38 rfl
theorem k_129_41 : lk 129 41 = some (.iconst 0, 42, 0, 0, .int 0) := by decide +kernel
theorem x_129_41 : Tr sc d 129 (41, [l0, l1, l2, l3], [], h) Q = Tr sc d 129 (42, [l0, l1, l2, l3], [.int 0], h) Q := t_go k_129_41 rfl
theorem k_129_42 : lk 129 42 = some (.ireturn, 43, 0, 0, .null) := by decide +kernel
theorem x_129_42 : Tr sc d 129 (42, [l0, l1, l2, l3], [.int i0], h) Q = Q (some (.int i0), h) := t_ret k_129_42 (by rw [r_129]; rfl)
theorem k_129_43 : lk 129 43 = some (.aload_n 0, 44, 0, 0, .null) := by decide +kernel
theorem x_129_43 : Tr sc d 129 (43, [some (.ref xk), l1, l2, l3], [], h) Q = Tr sc d 129 (44, [some (.ref xk), l1, l2, l3], [.ref xk], h) Q := t_aload_n k_129_43 rfl
theorem k_129_44 : lk 129 44 = some (.getfield 86, 47, 9, 12, .null) := by decide +kernel
theorem x_129_44 : Tr sc d 129 (44, [l0, l1, l2, l3], [.ref k0], h) Q = (okp h k0 9 = true ∧ ∃ q, hR h k0 12 = some q ∧ Tr sc d 129 (47, [l0, l1, l2, l3], [.ref q], h) Q) := t_getr k_129_44
theorem k_129_47 : lk 129 47 = some (.aload_n 0, 48, 0, 0, .null) := by decide +kernel
theorem x_129_47 : Tr sc d 129 (47, [some (.ref xk), l1, l2, l3], [.ref k0], h) Q = Tr sc d 129 (48, [some (.ref xk), l1, l2, l3], [.ref xk, .ref k0], h) Q := t_aload_n k_129_47 rfl
theorem k_129_48 : lk 129 48 = some (.getfield 51, 51, 9, 7, .null) := by decide +kernel
theorem x_129_48 : Tr sc d 129 (48, [l0, l1, l2, l3], [.ref k1, .ref k0], h) Q = (okp h k1 9 = true ∧ ∃ q, hR h k1 7 = some q ∧ Tr sc d 129 (51, [l0, l1, l2, l3], [.ref q, .ref k0], h) Q) := t_getr k_129_48
theorem k_129_51 : lk 129 51 = some (.invokevirtual 351, 54, 31, 1, .null) := by decide +kernel
theorem x_129_51 : Tr sc (d + 1) 129 (51, [l0, l1, l2, l3], [.ref k1, .ref k0], h) Q = (okp h k0 3 = true ∧ Tr sc d 31 (ent0 31 [.ref k0, .ref k1] h) (fun z => Tr sc (d + 1) 129 (54, [l0, l1, l2, l3], z.1.toList ++ [], z.2) Q)) := t_cv (as := [.ref k1]) (r := []) k_129_51 rfl rfl (Nat.le_of_ble_eq_true rfl) (Nat.le_of_ble_eq_true rfl) (Nat.le_of_ble_eq_true rfl)
theorem k_129_54 : lk 129 54 = some (.ifCond .ne 6, 57, 60, 0, .null) := by decide +kernel
theorem x_129_54 : Tr sc d 129 (54, [l0, l1, l2, l3], [.int i0], h) Q = if i0 = 0 then Tr sc d 129 (57, [l0, l1, l2, l3], [], h) Q else Tr sc d 129 (60, [l0, l1, l2, l3], [], h) Q := t_if k_129_54 rfl
theorem k_129_57 : lk 129 57 = some (.bipush (-6), 59, 0, 0, .int (-6)) := by decide +kernel
theorem x_129_57 : Tr sc d 129 (57, [l0, l1, l2, l3], [], h) Q = Tr sc d 129 (59, [l0, l1, l2, l3], [.int (-6)], h) Q := t_go k_129_57 rfl
theorem k_129_59 : lk 129 59 = some (.ireturn, 60, 0, 0, .null) := by decide +kernel
theorem x_129_59 : Tr sc d 129 (59, [l0, l1, l2, l3], [.int i0], h) Q = Q (some (.int i0), h) := t_ret k_129_59 (by rw [r_129]; rfl)
theorem k_129_60 : lk 129 60 = some (.aload_n 0, 61, 0, 0, .null) := by decide +kernel
theorem x_129_60 : Tr sc d 129 (60, [some (.ref xk), l1, l2, l3], [], h) Q = Tr sc d 129 (61, [some (.ref xk), l1, l2, l3], [.ref xk], h) Q := t_aload_n k_129_60 rfl
theorem k_129_61 : lk 129 61 = some (.getfield 86, 64, 9, 12, .null) := by decide +kernel
theorem x_129_61 : Tr sc d 129 (61, [l0, l1, l2, l3], [.ref k0], h) Q = (okp h k0 9 = true ∧ ∃ q, hR h k0 12 = some q ∧ Tr sc d 129 (64, [l0, l1, l2, l3], [.ref q], h) Q) := t_getr k_129_61
theorem k_129_64 : lk 129 64 = some (.invokevirtual 355, 67, 32, 0, .null) := by decide +kernel
theorem x_129_64 : Tr sc (d + 1) 129 (64, [l0, l1, l2, l3], [.ref k0], h) Q = (okp h k0 3 = true ∧ Tr sc d 32 (ent0 32 [.ref k0] h) (fun z => Tr sc (d + 1) 129 (67, [l0, l1, l2, l3], z.1.toList ++ [], z.2) Q)) := t_cv (as := []) (r := []) k_129_64 rfl rfl (Nat.le_of_ble_eq_true rfl) (Nat.le_of_ble_eq_true rfl) (Nat.le_of_ble_eq_true rfl)
theorem k_129_67 : lk 129 67 = some (.ireturn, 68, 0, 0, .null) := by decide +kernel
theorem x_129_67 : Tr sc d 129 (67, [l0, l1, l2, l3], [.int i0], h) Q = Q (some (.int i0), h) := t_ret k_129_67 (by rw [r_129]; rfl)
theorem e_129 : Tr sc d 129 (ent0 129 [.ref k0, .int i1, .int i2] h) Q = Tr sc d 129 (0, [some (.ref k0), some (.int i1), some (.int i2), none], [], h) Q := by
  have e : mL 129 = 4 := by decide +kernel
  unfold ent0
  rw [e]
  rfl
theorem r_130 : mR 130 = some .int := by decide +kernel
theorem k_130_0 : lk 130 0 = some (.aload_n 0, 1, 0, 0, .null) := by decide +kernel
theorem x_130_0 : Tr sc d 130 (0, [some (.ref xk), l1, l2, l3, l4], [], h) Q = Tr sc d 130 (1, [some (.ref xk), l1, l2, l3, l4], [.ref xk], h) Q := t_aload_n k_130_0 rfl
theorem k_130_1 : lk 130 1 = some (.iload_n 1, 2, 1, 0, .null) := by decide +kernel
theorem x_130_1 : Tr sc d 130 (1, [l0, some (.int x), l2, l3, l4], [.ref k0], h) Q = Tr sc d 130 (2, [l0, some (.int x), l2, l3, l4], [.int x, .ref k0], h) Q := t_iload_n k_130_1 rfl
theorem k_130_2 : lk 130 2 = some (.iload_n 2, 3, 2, 0, .null) := by decide +kernel
theorem x_130_2 : Tr sc d 130 (2, [l0, l1, some (.int x), l3, l4], [.int i1, .ref k0], h) Q = Tr sc d 130 (3, [l0, l1, some (.int x), l3, l4], [.int x, .int i1, .ref k0], h) Q := t_iload_n k_130_2 rfl
theorem k_130_3 : lk 130 3 = some (.iconst 3, 4, 0, 0, .int 3) := by decide +kernel
theorem x_130_3 : Tr sc d 130 (3, [l0, l1, l2, l3, l4], [.int i2, .int i1, .ref k0], h) Q = Tr sc d 130 (4, [l0, l1, l2, l3, l4], [.int 3, .int i2, .int i1, .ref k0], h) Q := t_go k_130_3 rfl
theorem k_130_4 : lk 130 4 = some (.invokestatic 270, 7, 143, 2, .null) := by decide +kernel
theorem x_130_4 : Tr sc (d + 1) 130 (4, [l0, l1, l2, l3, l4], [.int i3, .int i2, .int i1, .ref k0], h) Q = Tr sc d 143 (ent0 143 [.int i2, .int i3] h) (fun z => Tr sc (d + 1) 130 (7, [l0, l1, l2, l3, l4], z.1.toList ++ [.int i1, .ref k0], z.2) Q) := t_cs (as := [.int i2, .int i3]) (r := [.int i1, .ref k0]) k_130_4 (by decide) rfl rfl (Nat.le_of_ble_eq_true rfl) (Nat.le_of_ble_eq_true rfl)
theorem k_130_7 : lk 130 7 = some (.invokevirtual 196, 10, 145, 2, .null) := by decide +kernel
theorem x_130_7 : Tr sc (d + 1) 130 (7, [l0, l1, l2, l3, l4], [.int i2, .int i1, .ref k0], h) Q = (okp h k0 9 = true ∧ Tr sc d 145 (ent0 145 [.ref k0, .int i1, .int i2] h) (fun z => Tr sc (d + 1) 130 (10, [l0, l1, l2, l3, l4], z.1.toList ++ [], z.2) Q)) := t_cv (as := [.int i1, .int i2]) (r := []) k_130_7 rfl rfl (Nat.le_of_ble_eq_true rfl) (Nat.le_of_ble_eq_true rfl) (Nat.le_of_ble_eq_true rfl)
theorem k_130_10 : lk 130 10 = some (.istore 4, 12, 4, 0, .null) := by decide +kernel
theorem x_130_10 : Tr sc d 130 (10, [l0, l1, l2, l3, l4], [.int i0], h) Q = Tr sc d 130 (12, [l0, l1, l2, cl2 l3, some (.int i0)], [], h) Q := t_istore k_130_10 (Nat.le_of_ble_eq_true rfl)
theorem k_130_12 : lk 130 12 = some (.iload 4, 14, 4, 0, .null) := by decide +kernel
theorem x_130_12 : Tr sc d 130 (12, [l0, l1, l2, l3, some (.int x)], [], h) Q = Tr sc d 130 (14, [l0, l1, l2, l3, some (.int x)], [.int x], h) Q := t_iload k_130_12 rfl
theorem k_130_14 : lk 130 14 = some (.ifCond .eq 6, 17, 20, 0, .null) := by decide +kernel
theorem x_130_14 : Tr sc d 130 (14, [l0, l1, l2, l3, l4], [.int i0], h) Q = if i0 = 0 then Tr sc d 130 (20, [l0, l1, l2, l3, l4], [], h) Q else Tr sc d 130 (17, [l0, l1, l2, l3, l4], [], h) Q := t_if k_130_14 rfl
theorem k_130_17 : lk 130 17 = some (.iload 4, 19, 4, 0, .null) := by decide +kernel
theorem x_130_17 : Tr sc d 130 (17, [l0, l1, l2, l3, some (.int x)], [], h) Q = Tr sc d 130 (19, [l0, l1, l2, l3, some (.int x)], [.int x], h) Q := t_iload k_130_17 rfl
theorem k_130_19 : lk 130 19 = some (.ireturn, 20, 0, 0, .null) := by decide +kernel
theorem x_130_19 : Tr sc d 130 (19, [l0, l1, l2, l3, l4], [.int i0], h) Q = Q (some (.int i0), h) := t_ret k_130_19 (by rw [r_130]; rfl)
theorem k_130_20 : lk 130 20 = some (.aload_n 0, 21, 0, 0, .null) := by decide +kernel
theorem x_130_20 : Tr sc d 130 (20, [some (.ref xk), l1, l2, l3, l4], [], h) Q = Tr sc d 130 (21, [some (.ref xk), l1, l2, l3, l4], [.ref xk], h) Q := t_aload_n k_130_20 rfl
theorem k_130_21 : lk 130 21 = some (.getfield 51, 24, 9, 7, .null) := by decide +kernel
theorem x_130_21 : Tr sc d 130 (21, [l0, l1, l2, l3, l4], [.ref k0], h) Q = (okp h k0 9 = true ∧ ∃ q, hR h k0 7 = some q ∧ Tr sc d 130 (24, [l0, l1, l2, l3, l4], [.ref q], h) Q) := t_getr k_130_21
theorem k_130_24 : lk 130 24 = some (.aload_n 0, 25, 0, 0, .null) := by decide +kernel
theorem x_130_24 : Tr sc d 130 (24, [some (.ref xk), l1, l2, l3, l4], [.ref k0], h) Q = Tr sc d 130 (25, [some (.ref xk), l1, l2, l3, l4], [.ref xk, .ref k0], h) Q := t_aload_n k_130_24 rfl
theorem k_130_25 : lk 130 25 = some (.getfield 20, 28, 9, 2, .null) := by decide +kernel
theorem x_130_25 : Tr sc d 130 (25, [l0, l1, l2, l3, l4], [.ref k1, .ref k0], h) Q = (okp h k1 9 = true ∧ ∃ q, hR h k1 2 = some q ∧ Tr sc d 130 (28, [l0, l1, l2, l3, l4], [.ref q, .ref k0], h) Q) := t_getr k_130_25
theorem k_130_28 : lk 130 28 = some (.iload_n 1, 29, 1, 0, .null) := by decide +kernel
theorem x_130_28 : Tr sc d 130 (28, [l0, some (.int x), l2, l3, l4], [.ref k1, .ref k0], h) Q = Tr sc d 130 (29, [l0, some (.int x), l2, l3, l4], [.int x, .ref k1, .ref k0], h) Q := t_iload_n k_130_28 rfl
theorem k_130_29 : lk 130 29 = some (.aaload, 30, 0, 0, .null) := by decide +kernel
theorem x_130_29 : Tr sc d 130 (29, [l0, l1, l2, l3, l4], [.int i2, .ref k1, .ref k0], h) Q = (((okp h k1 14 || okp h k1 15) && inb i2 (LN k1)) = true ∧ ∃ q, hR h k1 i2.toNatClampNeg = some q ∧ Tr sc d 130 (30, [l0, l1, l2, l3, l4], [.ref q, .ref k0], h) Q) := t_aald k_130_29
theorem k_130_30 : lk 130 30 = some (.iload_n 2, 31, 2, 0, .null) := by decide +kernel
theorem x_130_30 : Tr sc d 130 (30, [l0, l1, some (.int x), l3, l4], [.ref k1, .ref k0], h) Q = Tr sc d 130 (31, [l0, l1, some (.int x), l3, l4], [.int x, .ref k1, .ref k0], h) Q := t_iload_n k_130_30 rfl
theorem k_130_31 : lk 130 31 = some (.invokevirtual 273, 34, 10, 2, .null) := by decide +kernel
theorem x_130_31 : Tr sc (d + 1) 130 (31, [l0, l1, l2, l3, l4], [.int i2, .ref k1, .ref k0], h) Q = (okp h k0 1 = true ∧ Tr sc d 10 (ent0 10 [.ref k0, .ref k1, .int i2] h) (fun z => Tr sc (d + 1) 130 (34, [l0, l1, l2, l3, l4], z.1.toList ++ [], z.2) Q)) := t_cv (as := [.ref k1, .int i2]) (r := []) k_130_31 rfl rfl (Nat.le_of_ble_eq_true rfl) (Nat.le_of_ble_eq_true rfl) (Nat.le_of_ble_eq_true rfl)
theorem k_130_34 : lk 130 34 = some (.aload_n 0, 35, 0, 0, .null) := by decide +kernel
theorem x_130_34 : Tr sc d 130 (34, [some (.ref xk), l1, l2, l3, l4], [], h) Q = Tr sc d 130 (35, [some (.ref xk), l1, l2, l3, l4], [.ref xk], h) Q := t_aload_n k_130_34 rfl
theorem k_130_35 : lk 130 35 = some (.getfield 51, 38, 9, 7, .null) := by decide +kernel
theorem x_130_35 : Tr sc d 130 (35, [l0, l1, l2, l3, l4], [.ref k0], h) Q = (okp h k0 9 = true ∧ ∃ q, hR h k0 7 = some q ∧ Tr sc d 130 (38, [l0, l1, l2, l3, l4], [.ref q], h) Q) := t_getr k_130_35
theorem k_130_38 : lk 130 38 = some (.getfield 280, 41, 1, 4, .int 0) := by decide +kernel
theorem x_130_38 : Tr sc d 130 (38, [l0, l1, l2, l3, l4], [.ref k0], h) Q = (okp h k0 1 = true ∧ Tr sc d 130 (41, [l0, l1, l2, l3, l4], [.int (hI h k0 4)], h) Q) := t_gd k_130_38 rfl
theorem k_130_41 : lk 130 41 = some (.ifCond .ne 9, 44, 50, 0, .null) := by decide +kernel
theorem x_130_41 : Tr sc d 130 (41, [l0, l1, l2, l3, l4], [.int i0], h) Q = if i0 = 0 then Tr sc d 130 (44, [l0, l1, l2, l3, l4], [], h) Q else Tr sc d 130 (50, [l0, l1, l2, l3, l4], [], h) Q := t_if k_130_41 rfl
theorem k_130_44 : lk 130 44 = some (.aload_n 0, 45, 0, 0, .null) := by decide +kernel
theorem x_130_44 : Tr sc d 130 (44, [some (.ref xk), l1, l2, l3, l4], [], h) Q = Tr sc d 130 (45, [some (.ref xk), l1, l2, l3, l4], [.ref xk], h) Q := t_aload_n k_130_44 rfl
theorem k_130_45 : lk 130 45 = some (.iconst 4, 46, 0, 0, .int 4) := by decide +kernel
theorem x_130_45 : Tr sc d 130 (45, [l0, l1, l2, l3, l4], [.ref k0], h) Q = Tr sc d 130 (46, [l0, l1, l2, l3, l4], [.int 4, .ref k0], h) Q := t_go k_130_45 rfl
theorem k_130_46 : lk 130 46 = some (.invokevirtual 118, 49, 144, 1, .null) := by decide +kernel
theorem x_130_46 : Tr sc (d + 1) 130 (46, [l0, l1, l2, l3, l4], [.int i1, .ref k0], h) Q = (okp h k0 9 = true ∧ Tr sc d 144 (ent0 144 [.ref k0, .int i1] h) (fun z => Tr sc (d + 1) 130 (49, [l0, l1, l2, l3, l4], z.1.toList ++ [], z.2) Q)) := t_cv (as := [.int i1]) (r := []) k_130_46 rfl rfl (Nat.le_of_ble_eq_true rfl) (Nat.le_of_ble_eq_true rfl) (Nat.le_of_ble_eq_true rfl)
theorem k_130_49 : lk 130 49 = some (.ireturn, 50, 0, 0, .null) := by decide +kernel
theorem x_130_49 : Tr sc d 130 (49, [l0, l1, l2, l3, l4], [.int i0], h) Q = Q (some (.int i0), h) := t_ret k_130_49 (by rw [r_130]; rfl)
theorem k_130_50 : lk 130 50 = some (.iload_n 3, 51, 3, 0, .null) := by decide +kernel
theorem x_130_50 : Tr sc d 130 (50, [l0, l1, l2, some (.int x), l4], [], h) Q = Tr sc d 130 (51, [l0, l1, l2, some (.int x), l4], [.int x], h) Q := t_iload_n k_130_50 rfl
theorem k_130_51 : lk 130 51 = some (.ifCond .lt 22, 54, 73, 0, .null) := by decide +kernel
theorem x_130_51 : Tr sc d 130 (51, [l0, l1, l2, l3, l4], [.int i0], h) Q = if i0 < 0 then Tr sc d 130 (73, [l0, l1, l2, l3, l4], [], h) Q else Tr sc d 130 (54, [l0, l1, l2, l3, l4], [], h) Q := t_if k_130_51 rfl
theorem k_130_54 : lk 130 54 = some (.iload_n 3, 55, 3, 0, .null) := by decide +kernel
theorem x_130_54 : Tr sc d 130 (54, [l0, l1, l2, some (.int x), l4], [], h) Q = Tr sc d 130 (55, [l0, l1, l2, some (.int x), l4], [.int x], h) Q := t_iload_n k_130_54 rfl
theorem k_130_55 : lk 130 55 = some (.aload_n 0, 56, 0, 0, .null) := by decide +kernel
theorem x_130_55 : Tr sc d 130 (55, [some (.ref xk), l1, l2, l3, l4], [.int i0], h) Q = Tr sc d 130 (56, [some (.ref xk), l1, l2, l3, l4], [.ref xk, .int i0], h) Q := t_aload_n k_130_55 rfl
theorem k_130_56 : lk 130 56 = some (.getfield 51, 59, 9, 7, .null) := by decide +kernel
theorem x_130_56 : Tr sc d 130 (56, [l0, l1, l2, l3, l4], [.ref k1, .int i0], h) Q = (okp h k1 9 = true ∧ ∃ q, hR h k1 7 = some q ∧ Tr sc d 130 (59, [l0, l1, l2, l3, l4], [.ref q, .int i0], h) Q) := t_getr k_130_56
theorem k_130_59 : lk 130 59 = some (.getfield 297, 62, 1, 9, .int 0) := by decide +kernel
theorem x_130_59 : Tr sc d 130 (59, [l0, l1, l2, l3, l4], [.ref k1, .int i0], h) Q = (okp h k1 1 = true ∧ Tr sc d 130 (62, [l0, l1, l2, l3, l4], [.int (hI h k1 9), .int i0], h) Q) := t_gd k_130_59 rfl
theorem k_130_62 : lk 130 62 = some (.aload_n 0, 63, 0, 0, .null) := by decide +kernel
theorem x_130_62 : Tr sc d 130 (62, [some (.ref xk), l1, l2, l3, l4], [.int i1, .int i0], h) Q = Tr sc d 130 (63, [some (.ref xk), l1, l2, l3, l4], [.ref xk, .int i1, .int i0], h) Q := t_aload_n k_130_62 rfl
theorem k_130_63 : lk 130 63 = some (.getfield 51, 66, 9, 7, .null) := by decide +kernel
theorem x_130_63 : Tr sc d 130 (63, [l0, l1, l2, l3, l4], [.ref k2, .int i1, .int i0], h) Q = (okp h k2 9 = true ∧ ∃ q, hR h k2 7 = some q ∧ Tr sc d 130 (66, [l0, l1, l2, l3, l4], [.ref q, .int i1, .int i0], h) Q) := t_getr k_130_63
theorem k_130_66 : lk 130 66 = some (.getfield 294, 69, 1, 8, .int 0) := by decide +kernel
theorem x_130_66 : Tr sc d 130 (66, [l0, l1, l2, l3, l4], [.ref k2, .int i1, .int i0], h) Q = (okp h k2 1 = true ∧ Tr sc d 130 (69, [l0, l1, l2, l3, l4], [.int (hI h k2 8), .int i1, .int i0], h) Q) := t_gd k_130_66 rfl
theorem k_130_69 : lk 130 69 = some (.isub, 70, 0, 0, .null) := by decide +kernel
theorem x_130_69 : Tr sc d 130 (69, [l0, l1, l2, l3, l4], [.int i2, .int i1, .int i0], h) Q = Tr sc d 130 (70, [l0, l1, l2, l3, l4], [.int (i1 - i2), .int i0], h) Q := t_go k_130_69 rfl
theorem k_130_70 : lk 130 70 = some (.if_icmp .le 9, 73, 79, 0, .null) := by decide +kernel
theorem x_130_70 : Tr sc d 130 (70, [l0, l1, l2, l3, l4], [.int i1, .int i0], h) Q = if i0 ≤ i1 then Tr sc d 130 (79, [l0, l1, l2, l3, l4], [], h) Q else Tr sc d 130 (73, [l0, l1, l2, l3, l4], [], h) Q := t_if k_130_70 rfl
theorem k_130_73 : lk 130 73 = some (.aload_n 0, 74, 0, 0, .null) := by decide +kernel
theorem x_130_73 : Tr sc d 130 (73, [some (.ref xk), l1, l2, l3, l4], [], h) Q = Tr sc d 130 (74, [some (.ref xk), l1, l2, l3, l4], [.ref xk], h) Q := t_aload_n k_130_73 rfl
theorem k_130_74 : lk 130 74 = some (.iconst 2, 75, 0, 0, .int 2) := by decide +kernel
theorem x_130_74 : Tr sc d 130 (74, [l0, l1, l2, l3, l4], [.ref k0], h) Q = Tr sc d 130 (75, [l0, l1, l2, l3, l4], [.int 2, .ref k0], h) Q := t_go k_130_74 rfl
theorem k_130_75 : lk 130 75 = some (.invokevirtual 118, 78, 144, 1, .null) := by decide +kernel
theorem x_130_75 : Tr sc (d + 1) 130 (75, [l0, l1, l2, l3, l4], [.int i1, .ref k0], h) Q = (okp h k0 9 = true ∧ Tr sc d 144 (ent0 144 [.ref k0, .int i1] h) (fun z => Tr sc (d + 1) 130 (78, [l0, l1, l2, l3, l4], z.1.toList ++ [], z.2) Q)) := t_cv (as := [.int i1]) (r := []) k_130_75 rfl rfl (Nat.le_of_ble_eq_true rfl) (Nat.le_of_ble_eq_true rfl) (Nat.le_of_ble_eq_true rfl)
theorem k_130_78 : lk 130 78 = some (.ireturn, 79, 0, 0, .null) := by decide +kernel
theorem x_130_78 : Tr sc d 130 (78, [l0, l1, l2, l3, l4], [.int i0], h) Q = Q (some (.int i0), h) := t_ret k_130_78 (by rw [r_130]; rfl)
theorem k_130_79 : lk 130 79 = some (.aload_n 0, 80, 0, 0, .null) := by decide +kernel
theorem x_130_79 : Tr sc d 130 (79, [some (.ref xk), l1, l2, l3, l4], [], h) Q = Tr sc d 130 (80, [some (.ref xk), l1, l2, l3, l4], [.ref xk], h) Q := t_aload_n k_130_79 rfl
theorem k_130_80 : lk 130 80 = some (.getfield 51, 83, 9, 7, .null) := by decide +kernel
theorem x_130_80 : Tr sc d 130 (80, [l0, l1, l2, l3, l4], [.ref k0], h) Q = (okp h k0 9 = true ∧ ∃ q, hR h k0 7 = some q ∧ Tr sc d 130 (83, [l0, l1, l2, l3, l4], [.ref q], h) Q) := t_getr k_130_80
theorem k_130_83 : lk 130 83 = some (.getfield 291, 86, 1, 7, .int 0) := by decide +kernel
theorem x_130_83 : Tr sc d 130 (83, [l0, l1, l2, l3, l4], [.ref k0], h) Q = (okp h k0 1 = true ∧ Tr sc d 130 (86, [l0, l1, l2, l3, l4], [.int (hI h k0 7)], h) Q) := t_gd k_130_83 rfl
theorem k_130_86 : lk 130 86 = some (.aload_n 0, 87, 0, 0, .null) := by decide +kernel
theorem x_130_86 : Tr sc d 130 (86, [some (.ref xk), l1, l2, l3, l4], [.int i0], h) Q = Tr sc d 130 (87, [some (.ref xk), l1, l2, l3, l4], [.ref xk, .int i0], h) Q := t_aload_n k_130_86 rfl
theorem k_130_87 : lk 130 87 = some (.getfield 51, 90, 9, 7, .null) := by decide +kernel
theorem x_130_87 : Tr sc d 130 (87, [l0, l1, l2, l3, l4], [.ref k1, .int i0], h) Q = (okp h k1 9 = true ∧ ∃ q, hR h k1 7 = some q ∧ Tr sc d 130 (90, [l0, l1, l2, l3, l4], [.ref q, .int i0], h) Q) := t_getr k_130_87
theorem k_130_90 : lk 130 90 = some (.getfield 288, 93, 1, 6, .int 0) := by decide +kernel
theorem x_130_90 : Tr sc d 130 (90, [l0, l1, l2, l3, l4], [.ref k1, .int i0], h) Q = (okp h k1 1 = true ∧ Tr sc d 130 (93, [l0, l1, l2, l3, l4], [.int (hI h k1 6), .int i0], h) Q) := t_gd k_130_90 rfl
theorem k_130_93 : lk 130 93 = some (.isub, 94, 0, 0, .null) := by decide +kernel
theorem x_130_93 : Tr sc d 130 (93, [l0, l1, l2, l3, l4], [.int i1, .int i0], h) Q = Tr sc d 130 (94, [l0, l1, l2, l3, l4], [.int (i0 - i1)], h) Q := t_go k_130_93 rfl
theorem k_130_94 : lk 130 94 = some (.bipush 60, 96, 0, 0, .int 60) := by decide +kernel
theorem x_130_94 : Tr sc d 130 (94, [l0, l1, l2, l3, l4], [.int i0], h) Q = Tr sc d 130 (96, [l0, l1, l2, l3, l4], [.int 60, .int i0], h) Q := t_go k_130_94 rfl
theorem k_130_96 : lk 130 96 = some (.if_icmp .lt 6, 99, 102, 0, .null) := by decide +kernel
theorem x_130_96 : Tr sc d 130 (96, [l0, l1, l2, l3, l4], [.int i1, .int i0], h) Q = if i0 < i1 then Tr sc d 130 (102, [l0, l1, l2, l3, l4], [], h) Q else Tr sc d 130 (99, [l0, l1, l2, l3, l4], [], h) Q := t_if k_130_96 rfl
theorem k_130_99 : lk 130 99 = some (.bipush (-6), 101, 0, 0, .int (-6)) := by decide +kernel
theorem x_130_99 : Tr sc d 130 (99, [l0, l1, l2, l3, l4], [], h) Q = Tr sc d 130 (101, [l0, l1, l2, l3, l4], [.int (-6)], h) Q := t_go k_130_99 rfl
theorem k_130_101 : lk 130 101 = some (.ireturn, 102, 0, 0, .null) := by decide +kernel
theorem x_130_101 : Tr sc d 130 (101, [l0, l1, l2, l3, l4], [.int i0], h) Q = Q (some (.int i0), h) := t_ret k_130_101 (by rw [r_130]; rfl)
theorem k_130_102 : lk 130 102 = some (.aload_n 0, 103, 0, 0, .null) := by decide +kernel
theorem x_130_102 : Tr sc d 130 (102, [some (.ref xk), l1, l2, l3, l4], [], h) Q = Tr sc d 130 (103, [some (.ref xk), l1, l2, l3, l4], [.ref xk], h) Q := t_aload_n k_130_102 rfl
theorem k_130_103 : lk 130 103 = some (.aload_n 0, 104, 0, 0, .null) := by decide +kernel
theorem x_130_103 : Tr sc d 130 (103, [some (.ref xk), l1, l2, l3, l4], [.ref k0], h) Q = Tr sc d 130 (104, [some (.ref xk), l1, l2, l3, l4], [.ref xk, .ref k0], h) Q := t_aload_n k_130_103 rfl
theorem k_130_104 : lk 130 104 = some (.getfield 51, 107, 9, 7, .null) := by decide +kernel
theorem x_130_104 : Tr sc d 130 (104, [l0, l1, l2, l3, l4], [.ref k1, .ref k0], h) Q = (okp h k1 9 = true ∧ ∃ q, hR h k1 7 = some q ∧ Tr sc d 130 (107, [l0, l1, l2, l3, l4], [.ref q, .ref k0], h) Q) := t_getr k_130_104
theorem k_130_107 : lk 130 107 = some (.iload_n 3, 108, 3, 0, .null) := by decide +kernel
theorem x_130_107 : Tr sc d 130 (107, [l0, l1, l2, some (.int x), l4], [.ref k1, .ref k0], h) Q = Tr sc d 130 (108, [l0, l1, l2, some (.int x), l4], [.int x, .ref k1, .ref k0], h) Q := t_iload_n k_130_107 rfl
theorem k_130_108 : lk 130 108 = some (.invokevirtual 358, 111, 20, 1, .null) := by decide +kernel
theorem x_130_108 : Tr sc (d + 1) 130 (108, [l0, l1, l2, l3, l4], [.int i2, .ref k1, .ref k0], h) Q = (okp h k1 1 = true ∧ Tr sc d 20 (ent0 20 [.ref k1, .int i2] h) (fun z => Tr sc (d + 1) 130 (111, [l0, l1, l2, l3, l4], z.1.toList ++ [.ref k0], z.2) Q)) := t_cv (as := [.int i2]) (r := [.ref k0]) k_130_108 rfl rfl (Nat.le_of_ble_eq_true rfl) (Nat.le_of_ble_eq_true rfl) (Nat.le_of_ble_eq_true rfl)
theorem k_130_111 : lk 130 111 = some (.putfield 101, 114, 9, 16, .long 0) := by decide +kernel
theorem x_130_111 : Tr sc d 130 (111, [l0, l1, l2, l3, l4], [.long j1, .ref k0], h) Q = (okp h k0 9 = true ∧ Tr sc d 130 (114, [l0, l1, l2, l3, l4], [], (sL h k0 16 j1)) Q) := t_gd k_130_111 rfl
theorem k_130_114 : lk 130 114 = some (.aload_n 0, 115, 0, 0, .null) := by decide +kernel
theorem x_130_114 : Tr sc d 130 (114, [some (.ref xk), l1, l2, l3, l4], [], h) Q = Tr sc d 130 (115, [some (.ref xk), l1, l2, l3, l4], [.ref xk], h) Q := t_aload_n k_130_114 rfl
theorem k_130_115 : lk 130 115 = some (.getfield 101, 118, 9, 16, .long 0) := by decide +kernel
theorem x_130_115 : Tr sc d 130 (115, [l0, l1, l2, l3, l4], [.ref k0], h) Q = (okp h k0 9 = true ∧ Tr sc d 130 (118, [l0, l1, l2, l3, l4], [.long (hL h k0 16)], h) Q) := t_gd k_130_115 rfl
theorem k_130_118 : lk 130 118 = some (.invokestatic 361, 121, 252, 1, .null) := by decide +kernel
theorem x_130_118 : Tr sc (d + 1) 130 (118, [l0, l1, l2, l3, l4], [.long j0], h) Q = Tr sc d 252 (ent0 252 [.long j0] h) (fun z => Tr sc (d + 1) 130 (121, [l0, l1, l2, l3, l4], z.1.toList ++ [], z.2) Q) := t_cs (as := [.long j0]) (r := []) k_130_118 (by decide) rfl rfl (Nat.le_of_ble_eq_true rfl) (Nat.le_of_ble_eq_true rfl)
theorem k_130_121 : lk 130 121 = some (.ireturn, 122, 0, 0, .null) := by decide +kernel
theorem x_130_121 : Tr sc d 130 (121, [l0, l1, l2, l3, l4], [.int i0], h) Q = Q (some (.int i0), h) := t_ret k_130_121 (by rw [r_130]; rfl)
theorem e_130 : Tr sc d 130 (ent0 130 [.ref k0, .int i1, .int i2, .int i3] h) Q = Tr sc d 130 (0, [some (.ref k0), some (.int i1), some (.int i2), some (.int i3), none], [], h) Q := by
  have e : mL 130 = 5 := by decide +kernel
  unfold ent0
  rw [e]
  rfl
theorem r_131 : mR 131 = some .int := by decide +kernel
theorem k_131_0 : lk 131 0 = some (.iload_n 1, 1, 1, 0, .null) := by decide +kernel
theorem x_131_0 : Tr sc d 131 (0, [l0, some (.int x), l2, l3, l4, l5], [], h) Q = Tr sc d 131 (1, [l0, some (.int x), l2, l3, l4, l5], [.int x], h) Q := t_iload_n k_131_0 rfl
theorem k_131_1 : lk 131 1 = some (.invokestatic 159, 4, 142, 1, .null) := by decide +kernel
theorem x_131_1 : Tr sc (d + 1) 131 (1, [l0, l1, l2, l3, l4, l5], [.int i0], h) Q = Tr sc d 142 (ent0 142 [.int i0] h) (fun z => Tr sc (d + 1) 131 (4, [l0, l1, l2, l3, l4, l5], z.1.toList ++ [], z.2) Q) := t_cs (as := [.int i0]) (r := []) k_131_1 (by decide) rfl rfl (Nat.le_of_ble_eq_true rfl) (Nat.le_of_ble_eq_true rfl)
theorem k_131_4 : lk 131 4 = some (.ifCond .eq 18, 7, 22, 0, .null) := by decide +kernel
theorem x_131_4 : Tr sc d 131 (4, [l0, l1, l2, l3, l4, l5], [.int i0], h) Q = if i0 = 0 then Tr sc d 131 (22, [l0, l1, l2, l3, l4, l5], [], h) Q else Tr sc d 131 (7, [l0, l1, l2, l3, l4, l5], [], h) Q := t_if k_131_4 rfl
theorem k_131_7 : lk 131 7 = some (.iload_n 2, 8, 2, 0, .null) := by decide +kernel
theorem x_131_7 : Tr sc d 131 (7, [l0, l1, some (.int x), l3, l4, l5], [], h) Q = Tr sc d 131 (8, [l0, l1, some (.int x), l3, l4, l5], [.int x], h) Q := t_iload_n k_131_7 rfl
theorem k_131_8 : lk 131 8 = some (.invokestatic 159, 11, 142, 1, .null) := by decide +kernel
theorem x_131_8 : Tr sc (d + 1) 131 (8, [l0, l1, l2, l3, l4, l5], [.int i0], h) Q = Tr sc d 142 (ent0 142 [.int i0] h) (fun z => Tr sc (d + 1) 131 (11, [l0, l1, l2, l3, l4, l5], z.1.toList ++ [], z.2) Q) := t_cs (as := [.int i0]) (r := []) k_131_8 (by decide) rfl rfl (Nat.le_of_ble_eq_true rfl) (Nat.le_of_ble_eq_true rfl)
theorem k_131_11 : lk 131 11 = some (.ifCond .eq 11, 14, 22, 0, .null) := by decide +kernel
theorem x_131_11 : Tr sc d 131 (11, [l0, l1, l2, l3, l4, l5], [.int i0], h) Q = if i0 = 0 then Tr sc d 131 (22, [l0, l1, l2, l3, l4, l5], [], h) Q else Tr sc d 131 (14, [l0, l1, l2, l3, l4, l5], [], h) Q := t_if k_131_11 rfl
theorem k_131_14 : lk 131 14 = some (.iload_n 3, 15, 3, 0, .null) := by decide +kernel
theorem x_131_14 : Tr sc d 131 (14, [l0, l1, l2, some (.int x), l4, l5], [], h) Q = Tr sc d 131 (15, [l0, l1, l2, some (.int x), l4, l5], [.int x], h) Q := t_iload_n k_131_14 rfl
theorem k_131_15 : lk 131 15 = some (.iconst 4, 16, 0, 0, .int 4) := by decide +kernel
theorem x_131_15 : Tr sc d 131 (15, [l0, l1, l2, l3, l4, l5], [.int i0], h) Q = Tr sc d 131 (16, [l0, l1, l2, l3, l4, l5], [.int 4, .int i0], h) Q := t_go k_131_15 rfl
theorem k_131_16 : lk 131 16 = some (.invokestatic 270, 19, 143, 2, .null) := by decide +kernel
theorem x_131_16 : Tr sc (d + 1) 131 (16, [l0, l1, l2, l3, l4, l5], [.int i1, .int i0], h) Q = Tr sc d 143 (ent0 143 [.int i0, .int i1] h) (fun z => Tr sc (d + 1) 131 (19, [l0, l1, l2, l3, l4, l5], z.1.toList ++ [], z.2) Q) := t_cs (as := [.int i0, .int i1]) (r := []) k_131_16 (by decide) rfl rfl (Nat.le_of_ble_eq_true rfl) (Nat.le_of_ble_eq_true rfl)
theorem k_131_19 : lk 131 19 = some (.ifCond .ne 5, 22, 24, 0, .null) := by decide +kernel
theorem x_131_19 : Tr sc d 131 (19, [l0, l1, l2, l3, l4, l5], [.int i0], h) Q = if i0 = 0 then Tr sc d 131 (22, [l0, l1, l2, l3, l4, l5], [], h) Q else Tr sc d 131 (24, [l0, l1, l2, l3, l4, l5], [], h) Q := t_if k_131_19 rfl
theorem k_131_22 : lk 131 22 = some (.iconst (-1), 23, 0, 0, .int (-1)) := by decide +kernel
theorem x_131_22 : Tr sc d 131 (22, [l0, l1, l2, l3, l4, l5], [], h) Q = Tr sc d 131 (23, [l0, l1, l2, l3, l4, l5], [.int (-1)], h) Q := t_go k_131_22 rfl
theorem k_131_23 : lk 131 23 = some (.ireturn, 24, 0, 0, .null) := by decide +kernel
theorem x_131_23 : Tr sc d 131 (23, [l0, l1, l2, l3, l4, l5], [.int i0], h) Q = Q (some (.int i0), h) := t_ret k_131_23 (by rw [r_131]; rfl)
theorem k_131_24 : lk 131 24 = some (.aload_n 0, 25, 0, 0, .null) := by decide +kernel
theorem x_131_24 : Tr sc d 131 (24, [some (.ref xk), l1, l2, l3, l4, l5], [], h) Q = Tr sc d 131 (25, [some (.ref xk), l1, l2, l3, l4, l5], [.ref xk], h) Q := t_aload_n k_131_24 rfl
theorem k_131_25 : lk 131 25 = some (.getfield 20, 28, 9, 2, .null) := by decide +kernel
theorem x_131_25 : Tr sc d 131 (25, [l0, l1, l2, l3, l4, l5], [.ref k0], h) Q = (okp h k0 9 = true ∧ ∃ q, hR h k0 2 = some q ∧ Tr sc d 131 (28, [l0, l1, l2, l3, l4, l5], [.ref q], h) Q) := t_getr k_131_25
theorem k_131_28 : lk 131 28 = some (.iload_n 1, 29, 1, 0, .null) := by decide +kernel
theorem x_131_28 : Tr sc d 131 (28, [l0, some (.int x), l2, l3, l4, l5], [.ref k0], h) Q = Tr sc d 131 (29, [l0, some (.int x), l2, l3, l4, l5], [.int x, .ref k0], h) Q := t_iload_n k_131_28 rfl
theorem k_131_29 : lk 131 29 = some (.aaload, 30, 0, 0, .null) := by decide +kernel
theorem x_131_29 : Tr sc d 131 (29, [l0, l1, l2, l3, l4, l5], [.int i1, .ref k0], h) Q = (((okp h k0 14 || okp h k0 15) && inb i1 (LN k0)) = true ∧ ∃ q, hR h k0 i1.toNatClampNeg = some q ∧ Tr sc d 131 (30, [l0, l1, l2, l3, l4, l5], [.ref q], h) Q) := t_aald k_131_29
theorem k_131_30 : lk 131 30 = some (.invokevirtual 366, 33, 48, 0, .null) := by decide +kernel
theorem x_131_30 : Tr sc (d + 1) 131 (30, [l0, l1, l2, l3, l4, l5], [.ref k0], h) Q = (okp h k0 6 = true ∧ Tr sc d 48 (ent0 48 [.ref k0] h) (fun z => Tr sc (d + 1) 131 (33, [l0, l1, l2, l3, l4, l5], z.1.toList ++ [], z.2) Q)) := t_cv (as := []) (r := []) k_131_30 rfl rfl (Nat.le_of_ble_eq_true rfl) (Nat.le_of_ble_eq_true rfl) (Nat.le_of_ble_eq_true rfl)
theorem k_131_33 : lk 131 33 = some (.ifCond .ne 15, 36, 48, 0, .null) := by decide +kernel
theorem x_131_33 : Tr sc d 131 (33, [l0, l1, l2, l3, l4, l5], [.int i0], h) Q = if i0 = 0 then Tr sc d 131 (36, [l0, l1, l2, l3, l4, l5], [], h) Q else Tr sc d 131 (48, [l0, l1, l2, l3, l4, l5], [], h) Q := t_if k_131_33 rfl
theorem k_131_36 : lk 131 36 = some (.aload_n 0, 37, 0, 0, .null) := by decide +kernel
theorem x_131_36 : Tr sc d 131 (36, [some (.ref xk), l1, l2, l3, l4, l5], [], h) Q = Tr sc d 131 (37, [some (.ref xk), l1, l2, l3, l4, l5], [.ref xk], h) Q := t_aload_n k_131_36 rfl
theorem k_131_37 : lk 131 37 = some (.getfield 20, 40, 9, 2, .null) := by decide +kernel
theorem x_131_37 : Tr sc d 131 (37, [l0, l1, l2, l3, l4, l5], [.ref k0], h) Q = (okp h k0 9 = true ∧ ∃ q, hR h k0 2 = some q ∧ Tr sc d 131 (40, [l0, l1, l2, l3, l4, l5], [.ref q], h) Q) := t_getr k_131_37
theorem k_131_40 : lk 131 40 = some (.iload_n 2, 41, 2, 0, .null) := by decide +kernel
theorem x_131_40 : Tr sc d 131 (40, [l0, l1, some (.int x), l3, l4, l5], [.ref k0], h) Q = Tr sc d 131 (41, [l0, l1, some (.int x), l3, l4, l5], [.int x, .ref k0], h) Q := t_iload_n k_131_40 rfl
theorem k_131_41 : lk 131 41 = some (.aaload, 42, 0, 0, .null) := by decide +kernel
theorem x_131_41 : Tr sc d 131 (41, [l0, l1, l2, l3, l4, l5], [.int i1, .ref k0], h) Q = (((okp h k0 14 || okp h k0 15) && inb i1 (LN k0)) = true ∧ ∃ q, hR h k0 i1.toNatClampNeg = some q ∧ Tr sc d 131 (42, [l0, l1, l2, l3, l4, l5], [.ref q], h) Q) := t_aald k_131_41
theorem k_131_42 : lk 131 42 = some (.invokevirtual 366, 45, 48, 0, .null) := by decide +kernel
theorem x_131_42 : Tr sc (d + 1) 131 (42, [l0, l1, l2, l3, l4, l5], [.ref k0], h) Q = (okp h k0 6 = true ∧ Tr sc d 48 (ent0 48 [.ref k0] h) (fun z => Tr sc (d + 1) 131 (45, [l0, l1, l2, l3, l4, l5], z.1.toList ++ [], z.2) Q)) := t_cv (as := []) (r := []) k_131_42 rfl rfl (Nat.le_of_ble_eq_true rfl) (Nat.le_of_ble_eq_true rfl) (Nat.le_of_ble_eq_true rfl)
theorem k_131_45 : lk 131 45 = some (.ifCond .eq 9, 48, 54, 0, .null) := by decide +kernel
theorem x_131_45 : Tr sc d 131 (45, [l0, l1, l2, l3, l4, l5], [.int i0], h) Q = if i0 = 0 then Tr sc d 131 (54, [l0, l1, l2, l3, l4, l5], [], h) Q else Tr sc d 131 (48, [l0, l1, l2, l3, l4, l5], [], h) Q := t_if k_131_45 rfl
theorem k_131_48 : lk 131 48 = some (.aload_n 0, 49, 0, 0, .null) := by decide +kernel
theorem x_131_48 : Tr sc d 131 (48, [some (.ref xk), l1, l2, l3, l4, l5], [], h) Q = Tr sc d 131 (49, [some (.ref xk), l1, l2, l3, l4, l5], [.ref xk], h) Q := t_aload_n k_131_48 rfl
theorem k_131_49 : lk 131 49 = some (.iconst 1, 50, 0, 0, .int 1) := by decide +kernel
theorem x_131_49 : Tr sc d 131 (49, [l0, l1, l2, l3, l4, l5], [.ref k0], h) Q = Tr sc d 131 (50, [l0, l1, l2, l3, l4, l5], [.int 1, .ref k0], h) Q := t_go k_131_49 rfl
theorem k_131_50 : lk 131 50 = some (.invokevirtual 118, 53, 144, 1, .null) := by decide +kernel
theorem x_131_50 : Tr sc (d + 1) 131 (50, [l0, l1, l2, l3, l4, l5], [.int i1, .ref k0], h) Q = (okp h k0 9 = true ∧ Tr sc d 144 (ent0 144 [.ref k0, .int i1] h) (fun z => Tr sc (d + 1) 131 (53, [l0, l1, l2, l3, l4, l5], z.1.toList ++ [], z.2) Q)) := t_cv (as := [.int i1]) (r := []) k_131_50 rfl rfl (Nat.le_of_ble_eq_true rfl) (Nat.le_of_ble_eq_true rfl) (Nat.le_of_ble_eq_true rfl)
theorem k_131_53 : lk 131 53 = some (.ireturn, 54, 0, 0, .null) := by decide +kernel
theorem x_131_53 : Tr sc d 131 (53, [l0, l1, l2, l3, l4, l5], [.int i0], h) Q = Q (some (.int i0), h) := t_ret k_131_53 (by rw [r_131]; rfl)
theorem k_131_54 : lk 131 54 = some (.aload_n 0, 55, 0, 0, .null) := by decide +kernel
theorem x_131_54 : Tr sc d 131 (54, [some (.ref xk), l1, l2, l3, l4, l5], [], h) Q = Tr sc d 131 (55, [some (.ref xk), l1, l2, l3, l4, l5], [.ref xk], h) Q := t_aload_n k_131_54 rfl
theorem k_131_55 : lk 131 55 = some (.getfield 51, 58, 9, 7, .null) := by decide +kernel
theorem x_131_55 : Tr sc d 131 (55, [l0, l1, l2, l3, l4, l5], [.ref k0], h) Q = (okp h k0 9 = true ∧ ∃ q, hR h k0 7 = some q ∧ Tr sc d 131 (58, [l0, l1, l2, l3, l4, l5], [.ref q], h) Q) := t_getr k_131_55
theorem k_131_58 : lk 131 58 = some (.aload_n 0, 59, 0, 0, .null) := by decide +kernel
theorem x_131_58 : Tr sc d 131 (58, [some (.ref xk), l1, l2, l3, l4, l5], [.ref k0], h) Q = Tr sc d 131 (59, [some (.ref xk), l1, l2, l3, l4, l5], [.ref xk, .ref k0], h) Q := t_aload_n k_131_58 rfl
theorem k_131_59 : lk 131 59 = some (.getfield 20, 62, 9, 2, .null) := by decide +kernel
theorem x_131_59 : Tr sc d 131 (59, [l0, l1, l2, l3, l4, l5], [.ref k1, .ref k0], h) Q = (okp h k1 9 = true ∧ ∃ q, hR h k1 2 = some q ∧ Tr sc d 131 (62, [l0, l1, l2, l3, l4, l5], [.ref q, .ref k0], h) Q) := t_getr k_131_59
theorem k_131_62 : lk 131 62 = some (.iload_n 1, 63, 1, 0, .null) := by decide +kernel
theorem x_131_62 : Tr sc d 131 (62, [l0, some (.int x), l2, l3, l4, l5], [.ref k1, .ref k0], h) Q = Tr sc d 131 (63, [l0, some (.int x), l2, l3, l4, l5], [.int x, .ref k1, .ref k0], h) Q := t_iload_n k_131_62 rfl
theorem k_131_63 : lk 131 63 = some (.aaload, 64, 0, 0, .null) := by decide +kernel
theorem x_131_63 : Tr sc d 131 (63, [l0, l1, l2, l3, l4, l5], [.int i2, .ref k1, .ref k0], h) Q = (((okp h k1 14 || okp h k1 15) && inb i2 (LN k1)) = true ∧ ∃ q, hR h k1 i2.toNatClampNeg = some q ∧ Tr sc d 131 (64, [l0, l1, l2, l3, l4, l5], [.ref q, .ref k0], h) Q) := t_aald k_131_63
theorem k_131_64 : lk 131 64 = some (.iload_n 3, 65, 3, 0, .null) := by decide +kernel
theorem x_131_64 : Tr sc d 131 (64, [l0, l1, l2, some (.int x), l4, l5], [.ref k1, .ref k0], h) Q = Tr sc d 131 (65, [l0, l1, l2, some (.int x), l4, l5], [.int x, .ref k1, .ref k0], h) Q := t_iload_n k_131_64 rfl
theorem k_131_65 : lk 131 65 = some (.invokevirtual 273, 68, 10, 2, .null) := by decide +kernel
theorem x_131_65 : Tr sc (d + 1) 131 (65, [l0, l1, l2, l3, l4, l5], [.int i2, .ref k1, .ref k0], h) Q = (okp h k0 1 = true ∧ Tr sc d 10 (ent0 10 [.ref k0, .ref k1, .int i2] h) (fun z => Tr sc (d + 1) 131 (68, [l0, l1, l2, l3, l4, l5], z.1.toList ++ [], z.2) Q)) := t_cv (as := [.ref k1, .int i2]) (r := []) k_131_65 rfl rfl (Nat.le_of_ble_eq_true rfl) (Nat.le_of_ble_eq_true rfl) (Nat.le_of_ble_eq_true rfl)
theorem k_131_68 : lk 131 68 = some (.aload_n 0, 69, 0, 0, .null) := by decide +kernel
theorem x_131_68 : Tr sc d 131 (68, [some (.ref xk), l1, l2, l3, l4, l5], [], h) Q = Tr sc d 131 (69, [some (.ref xk), l1, l2, l3, l4, l5], [.ref xk], h) Q := t_aload_n k_131_68 rfl
theorem k_131_69 : lk 131 69 = some (.getfield 55, 72, 9, 8, .null) := by decide +kernel
theorem x_131_69 : Tr sc d 131 (69, [l0, l1, l2, l3, l4, l5], [.ref k0], h) Q = (okp h k0 9 = true ∧ ∃ q, hR h k0 8 = some q ∧ Tr sc d 131 (72, [l0, l1, l2, l3, l4, l5], [.ref q], h) Q) := t_getr k_131_69
theorem k_131_72 : lk 131 72 = some (.aload_n 0, 73, 0, 0, .null) := by decide +kernel
theorem x_131_72 : Tr sc d 131 (72, [some (.ref xk), l1, l2, l3, l4, l5], [.ref k0], h) Q = Tr sc d 131 (73, [some (.ref xk), l1, l2, l3, l4, l5], [.ref xk, .ref k0], h) Q := t_aload_n k_131_72 rfl
theorem k_131_73 : lk 131 73 = some (.getfield 20, 76, 9, 2, .null) := by decide +kernel
theorem x_131_73 : Tr sc d 131 (73, [l0, l1, l2, l3, l4, l5], [.ref k1, .ref k0], h) Q = (okp h k1 9 = true ∧ ∃ q, hR h k1 2 = some q ∧ Tr sc d 131 (76, [l0, l1, l2, l3, l4, l5], [.ref q, .ref k0], h) Q) := t_getr k_131_73
theorem k_131_76 : lk 131 76 = some (.iload_n 2, 77, 2, 0, .null) := by decide +kernel
theorem x_131_76 : Tr sc d 131 (76, [l0, l1, some (.int x), l3, l4, l5], [.ref k1, .ref k0], h) Q = Tr sc d 131 (77, [l0, l1, some (.int x), l3, l4, l5], [.int x, .ref k1, .ref k0], h) Q := t_iload_n k_131_76 rfl
theorem k_131_77 : lk 131 77 = some (.aaload, 78, 0, 0, .null) := by decide +kernel
theorem x_131_77 : Tr sc d 131 (77, [l0, l1, l2, l3, l4, l5], [.int i2, .ref k1, .ref k0], h) Q = (((okp h k1 14 || okp h k1 15) && inb i2 (LN k1)) = true ∧ ∃ q, hR h k1 i2.toNatClampNeg = some q ∧ Tr sc d 131 (78, [l0, l1, l2, l3, l4, l5], [.ref q, .ref k0], h) Q) := t_aald k_131_77
theorem k_131_78 : lk 131 78 = some (.iload_n 3, 79, 3, 0, .null) := by decide +kernel
theorem x_131_78 : Tr sc d 131 (78, [l0, l1, l2, some (.int x), l4, l5], [.ref k1, .ref k0], h) Q = Tr sc d 131 (79, [l0, l1, l2, some (.int x), l4, l5], [.int x, .ref k1, .ref k0], h) Q := t_iload_n k_131_78 rfl
theorem k_131_79 : lk 131 79 = some (.invokevirtual 273, 82, 10, 2, .null) := by decide +kernel
theorem x_131_79 : Tr sc (d + 1) 131 (79, [l0, l1, l2, l3, l4, l5], [.int i2, .ref k1, .ref k0], h) Q = (okp h k0 1 = true ∧ Tr sc d 10 (ent0 10 [.ref k0, .ref k1, .int i2] h) (fun z => Tr sc (d + 1) 131 (82, [l0, l1, l2, l3, l4, l5], z.1.toList ++ [], z.2) Q)) := t_cv (as := [.ref k1, .int i2]) (r := []) k_131_79 rfl rfl (Nat.le_of_ble_eq_true rfl) (Nat.le_of_ble_eq_true rfl) (Nat.le_of_ble_eq_true rfl)
theorem k_131_82 : lk 131 82 = some (.aload_n 0, 83, 0, 0, .null) := by decide +kernel
theorem x_131_82 : Tr sc d 131 (82, [some (.ref xk), l1, l2, l3, l4, l5], [], h) Q = Tr sc d 131 (83, [some (.ref xk), l1, l2, l3, l4, l5], [.ref xk], h) Q := t_aload_n k_131_82 rfl
theorem k_131_83 : lk 131 83 = some (.getfield 51, 86, 9, 7, .null) := by decide +kernel
theorem x_131_83 : Tr sc d 131 (83, [l0, l1, l2, l3, l4, l5], [.ref k0], h) Q = (okp h k0 9 = true ∧ ∃ q, hR h k0 7 = some q ∧ Tr sc d 131 (86, [l0, l1, l2, l3, l4, l5], [.ref q], h) Q) := t_getr k_131_83
theorem k_131_86 : lk 131 86 = some (.getfield 280, 89, 1, 4, .int 0) := by decide +kernel
theorem x_131_86 : Tr sc d 131 (86, [l0, l1, l2, l3, l4, l5], [.ref k0], h) Q = (okp h k0 1 = true ∧ Tr sc d 131 (89, [l0, l1, l2, l3, l4, l5], [.int (hI h k0 4)], h) Q) := t_gd k_131_86 rfl
theorem k_131_89 : lk 131 89 = some (.aload_n 0, 90, 0, 0, .null) := by decide +kernel
theorem x_131_89 : Tr sc d 131 (89, [some (.ref xk), l1, l2, l3, l4, l5], [.int i0], h) Q = Tr sc d 131 (90, [some (.ref xk), l1, l2, l3, l4, l5], [.ref xk, .int i0], h) Q := t_aload_n k_131_89 rfl
theorem k_131_90 : lk 131 90 = some (.getfield 55, 93, 9, 8, .null) := by decide +kernel
theorem x_131_90 : Tr sc d 131 (90, [l0, l1, l2, l3, l4, l5], [.ref k1, .int i0], h) Q = (okp h k1 9 = true ∧ ∃ q, hR h k1 8 = some q ∧ Tr sc d 131 (93, [l0, l1, l2, l3, l4, l5], [.ref q, .int i0], h) Q) := t_getr k_131_90
theorem k_131_93 : lk 131 93 = some (.getfield 280, 96, 1, 4, .int 0) := by decide +kernel
theorem x_131_93 : Tr sc d 131 (93, [l0, l1, l2, l3, l4, l5], [.ref k1, .int i0], h) Q = (okp h k1 1 = true ∧ Tr sc d 131 (96, [l0, l1, l2, l3, l4, l5], [.int (hI h k1 4), .int i0], h) Q) := t_gd k_131_93 rfl
theorem k_131_96 : lk 131 96 = some (.if_icmp .eq 5, 99, 101, 0, .null) := by decide +kernel
theorem x_131_96 : Tr sc d 131 (96, [l0, l1, l2, l3, l4, l5], [.int i1, .int i0], h) Q = if i0 = i1 then Tr sc d 131 (101, [l0, l1, l2, l3, l4, l5], [], h) Q else Tr sc d 131 (99, [l0, l1, l2, l3, l4, l5], [], h) Q := t_if k_131_96 rfl
theorem k_131_99 : lk 131 99 = some (.iconst 0, 100, 0, 0, .int 0) := by decide +kernel
theorem x_131_99 : Tr sc d 131 (99, [l0, l1, l2, l3, l4, l5], [], h) Q = Tr sc d 131 (100, [l0, l1, l2, l3, l4, l5], [.int 0], h) Q := t_go k_131_99 rfl
theorem k_131_100 : lk 131 100 = some (.ireturn, 101, 0, 0, .null) := by decide +kernel
theorem x_131_100 : Tr sc d 131 (100, [l0, l1, l2, l3, l4, l5], [.int i0], h) Q = Q (some (.int i0), h) := t_ret k_131_100 (by rw [r_131]; rfl)
theorem k_131_101 : lk 131 101 = some (.aload_n 0, 102, 0, 0, .null) := by decide +kernel
theorem x_131_101 : Tr sc d 131 (101, [some (.ref xk), l1, l2, l3, l4, l5], [], h) Q = Tr sc d 131 (102, [some (.ref xk), l1, l2, l3, l4, l5], [.ref xk], h) Q := t_aload_n k_131_101 rfl
theorem k_131_102 : lk 131 102 = some (.getfield 51, 105, 9, 7, .null) := by decide +kernel
theorem x_131_102 : Tr sc d 131 (102, [l0, l1, l2, l3, l4, l5], [.ref k0], h) Q = (okp h k0 9 = true ∧ ∃ q, hR h k0 7 = some q ∧ Tr sc d 131 (105, [l0, l1, l2, l3, l4, l5], [.ref q], h) Q) := t_getr k_131_102
theorem k_131_105 : lk 131 105 = some (.getfield 280, 108, 1, 4, .int 0) := by decide +kernel
theorem x_131_105 : Tr sc d 131 (105, [l0, l1, l2, l3, l4, l5], [.ref k0], h) Q = (okp h k0 1 = true ∧ Tr sc d 131 (108, [l0, l1, l2, l3, l4, l5], [.int (hI h k0 4)], h) Q) := t_gd k_131_105 rfl
theorem k_131_108 : lk 131 108 = some (.ifCond .ne 10, 111, 118, 0, .null) := by decide +kernel
theorem x_131_108 : Tr sc d 131 (108, [l0, l1, l2, l3, l4, l5], [.int i0], h) Q = if i0 = 0 then Tr sc d 131 (111, [l0, l1, l2, l3, l4, l5], [], h) Q else Tr sc d 131 (118, [l0, l1, l2, l3, l4, l5], [], h) Q := t_if k_131_108 rfl
theorem k_131_111 : lk 131 111 = some (.aload_n 0, 112, 0, 0, .null) := by decide +kernel
theorem x_131_111 : Tr sc d 131 (111, [some (.ref xk), l1, l2, l3, l4, l5], [], h) Q = Tr sc d 131 (112, [some (.ref xk), l1, l2, l3, l4, l5], [.ref xk], h) Q := t_aload_n k_131_111 rfl
theorem k_131_112 : lk 131 112 = some (.iconst 0, 113, 0, 0, .int 0) := by decide +kernel
theorem x_131_112 : Tr sc d 131 (112, [l0, l1, l2, l3, l4, l5], [.ref k0], h) Q = Tr sc d 131 (113, [l0, l1, l2, l3, l4, l5], [.int 0, .ref k0], h) Q := t_go k_131_112 rfl
theorem k_131_113 : lk 131 113 = some (.putfield 98, 116, 9, 15, .int 0) := by decide +kernel
theorem x_131_113 : Tr sc d 131 (113, [l0, l1, l2, l3, l4, l5], [.int i1, .ref k0], h) Q = (okp h k0 9 = true ∧ Tr sc d 131 (116, [l0, l1, l2, l3, l4, l5], [], (sI h k0 15 i1)) Q) := t_gd k_131_113 rfl
theorem k_131_116 : lk 131 116 = some (.iconst 1, 117, 0, 0, .int 1) := by decide +kernel
theorem x_131_116 : Tr sc d 131 (116, [l0, l1, l2, l3, l4, l5], [], h) Q = Tr sc d 131 (117, [l0, l1, l2, l3, l4, l5], [.int 1], h) Q := t_go k_131_116 rfl
theorem k_131_117 : lk 131 117 = some (.ireturn, 118, 0, 0, .null) := by decide +kernel
theorem x_131_117 : Tr sc d 131 (117, [l0, l1, l2, l3, l4, l5], [.int i0], h) Q = Q (some (.int i0), h) := t_ret k_131_117 (by rw [r_131]; rfl)
theorem k_131_118 : lk 131 118 = some (.aload_n 0, 119, 0, 0, .null) := by decide +kernel
theorem x_131_118 : Tr sc d 131 (118, [some (.ref xk), l1, l2, l3, l4, l5], [], h) Q = Tr sc d 131 (119, [some (.ref xk), l1, l2, l3, l4, l5], [.ref xk], h) Q := t_aload_n k_131_118 rfl
theorem k_131_119 : lk 131 119 = some (.getfield 55, 122, 9, 8, .null) := by decide +kernel
theorem x_131_119 : Tr sc d 131 (119, [l0, l1, l2, l3, l4, l5], [.ref k0], h) Q = (okp h k0 9 = true ∧ ∃ q, hR h k0 8 = some q ∧ Tr sc d 131 (122, [l0, l1, l2, l3, l4, l5], [.ref q], h) Q) := t_getr k_131_119
theorem k_131_122 : lk 131 122 = some (.getfield 288, 125, 1, 6, .int 0) := by decide +kernel
theorem x_131_122 : Tr sc d 131 (122, [l0, l1, l2, l3, l4, l5], [.ref k0], h) Q = (okp h k0 1 = true ∧ Tr sc d 131 (125, [l0, l1, l2, l3, l4, l5], [.int (hI h k0 6)], h) Q) := t_gd k_131_122 rfl
theorem k_131_125 : lk 131 125 = some (.aload_n 0, 126, 0, 0, .null) := by decide +kernel
theorem x_131_125 : Tr sc d 131 (125, [some (.ref xk), l1, l2, l3, l4, l5], [.int i0], h) Q = Tr sc d 131 (126, [some (.ref xk), l1, l2, l3, l4, l5], [.ref xk, .int i0], h) Q := t_aload_n k_131_125 rfl
theorem k_131_126 : lk 131 126 = some (.getfield 51, 129, 9, 7, .null) := by decide +kernel
theorem x_131_126 : Tr sc d 131 (126, [l0, l1, l2, l3, l4, l5], [.ref k1, .int i0], h) Q = (okp h k1 9 = true ∧ ∃ q, hR h k1 7 = some q ∧ Tr sc d 131 (129, [l0, l1, l2, l3, l4, l5], [.ref q, .int i0], h) Q) := t_getr k_131_126
theorem k_131_129 : lk 131 129 = some (.getfield 288, 132, 1, 6, .int 0) := by decide +kernel
theorem x_131_129 : Tr sc d 131 (129, [l0, l1, l2, l3, l4, l5], [.ref k1, .int i0], h) Q = (okp h k1 1 = true ∧ Tr sc d 131 (132, [l0, l1, l2, l3, l4, l5], [.int (hI h k1 6), .int i0], h) Q) := t_gd k_131_129 rfl
theorem k_131_132 : lk 131 132 = some (.isub, 133, 0, 0, .null) := by decide +kernel
theorem x_131_132 : Tr sc d 131 (132, [l0, l1, l2, l3, l4, l5], [.int i1, .int i0], h) Q = Tr sc d 131 (133, [l0, l1, l2, l3, l4, l5], [.int (i0 - i1)], h) Q := t_go k_131_132 rfl
theorem k_131_133 : lk 131 133 = some (.istore 4, 135, 4, 0, .null) := by decide +kernel
theorem x_131_133 : Tr sc d 131 (133, [l0, l1, l2, l3, l4, l5], [.int i0], h) Q = Tr sc d 131 (135, [l0, l1, l2, cl2 l3, some (.int i0), l5], [], h) Q := t_istore k_131_133 (Nat.le_of_ble_eq_true rfl)
theorem k_131_135 : lk 131 135 = some (.aload_n 0, 136, 0, 0, .null) := by decide +kernel
theorem x_131_135 : Tr sc d 131 (135, [some (.ref xk), l1, l2, l3, l4, l5], [], h) Q = Tr sc d 131 (136, [some (.ref xk), l1, l2, l3, l4, l5], [.ref xk], h) Q := t_aload_n k_131_135 rfl
theorem k_131_136 : lk 131 136 = some (.getfield 55, 139, 9, 8, .null) := by decide +kernel
theorem x_131_136 : Tr sc d 131 (136, [l0, l1, l2, l3, l4, l5], [.ref k0], h) Q = (okp h k0 9 = true ∧ ∃ q, hR h k0 8 = some q ∧ Tr sc d 131 (139, [l0, l1, l2, l3, l4, l5], [.ref q], h) Q) := t_getr k_131_136
theorem k_131_139 : lk 131 139 = some (.getfield 294, 142, 1, 8, .int 0) := by decide +kernel
theorem x_131_139 : Tr sc d 131 (139, [l0, l1, l2, l3, l4, l5], [.ref k0], h) Q = (okp h k0 1 = true ∧ Tr sc d 131 (142, [l0, l1, l2, l3, l4, l5], [.int (hI h k0 8)], h) Q) := t_gd k_131_139 rfl
theorem k_131_142 : lk 131 142 = some (.aload_n 0, 143, 0, 0, .null) := by decide +kernel
theorem x_131_142 : Tr sc d 131 (142, [some (.ref xk), l1, l2, l3, l4, l5], [.int i0], h) Q = Tr sc d 131 (143, [some (.ref xk), l1, l2, l3, l4, l5], [.ref xk, .int i0], h) Q := t_aload_n k_131_142 rfl
theorem k_131_143 : lk 131 143 = some (.getfield 51, 146, 9, 7, .null) := by decide +kernel
theorem x_131_143 : Tr sc d 131 (143, [l0, l1, l2, l3, l4, l5], [.ref k1, .int i0], h) Q = (okp h k1 9 = true ∧ ∃ q, hR h k1 7 = some q ∧ Tr sc d 131 (146, [l0, l1, l2, l3, l4, l5], [.ref q, .int i0], h) Q) := t_getr k_131_143
theorem k_131_146 : lk 131 146 = some (.getfield 294, 149, 1, 8, .int 0) := by decide +kernel
theorem x_131_146 : Tr sc d 131 (146, [l0, l1, l2, l3, l4, l5], [.ref k1, .int i0], h) Q = (okp h k1 1 = true ∧ Tr sc d 131 (149, [l0, l1, l2, l3, l4, l5], [.int (hI h k1 8), .int i0], h) Q) := t_gd k_131_146 rfl
theorem k_131_149 : lk 131 149 = some (.isub, 150, 0, 0, .null) := by decide +kernel
theorem x_131_149 : Tr sc d 131 (149, [l0, l1, l2, l3, l4, l5], [.int i1, .int i0], h) Q = Tr sc d 131 (150, [l0, l1, l2, l3, l4, l5], [.int (i0 - i1)], h) Q := t_go k_131_149 rfl
theorem k_131_150 : lk 131 150 = some (.istore 5, 152, 5, 0, .null) := by decide +kernel
theorem x_131_150 : Tr sc d 131 (150, [l0, l1, l2, l3, l4, l5], [.int i0], h) Q = Tr sc d 131 (152, [l0, l1, l2, l3, cl2 l4, some (.int i0)], [], h) Q := t_istore k_131_150 (Nat.le_of_ble_eq_true rfl)
theorem k_131_152 : lk 131 152 = some (.aload_n 0, 153, 0, 0, .null) := by decide +kernel
theorem x_131_152 : Tr sc d 131 (152, [some (.ref xk), l1, l2, l3, l4, l5], [], h) Q = Tr sc d 131 (153, [some (.ref xk), l1, l2, l3, l4, l5], [.ref xk], h) Q := t_aload_n k_131_152 rfl
theorem k_131_153 : lk 131 153 = some (.getfield 51, 156, 9, 7, .null) := by decide +kernel
theorem x_131_153 : Tr sc d 131 (153, [l0, l1, l2, l3, l4, l5], [.ref k0], h) Q = (okp h k0 9 = true ∧ ∃ q, hR h k0 7 = some q ∧ Tr sc d 131 (156, [l0, l1, l2, l3, l4, l5], [.ref q], h) Q) := t_getr k_131_153
theorem k_131_156 : lk 131 156 = some (.aload_n 0, 157, 0, 0, .null) := by decide +kernel
theorem x_131_156 : Tr sc d 131 (156, [some (.ref xk), l1, l2, l3, l4, l5], [.ref k0], h) Q = Tr sc d 131 (157, [some (.ref xk), l1, l2, l3, l4, l5], [.ref xk, .ref k0], h) Q := t_aload_n k_131_156 rfl
theorem k_131_157 : lk 131 157 = some (.getfield 55, 160, 9, 8, .null) := by decide +kernel
theorem x_131_157 : Tr sc d 131 (157, [l0, l1, l2, l3, l4, l5], [.ref k1, .ref k0], h) Q = (okp h k1 9 = true ∧ ∃ q, hR h k1 8 = some q ∧ Tr sc d 131 (160, [l0, l1, l2, l3, l4, l5], [.ref q, .ref k0], h) Q) := t_getr k_131_157
theorem k_131_160 : lk 131 160 = some (.iload 4, 162, 4, 0, .null) := by decide +kernel
theorem x_131_160 : Tr sc d 131 (160, [l0, l1, l2, l3, some (.int x), l5], [.ref k1, .ref k0], h) Q = Tr sc d 131 (162, [l0, l1, l2, l3, some (.int x), l5], [.int x, .ref k1, .ref k0], h) Q := t_iload k_131_160 rfl
theorem k_131_162 : lk 131 162 = some (.iload 5, 164, 5, 0, .null) := by decide +kernel
theorem x_131_162 : Tr sc d 131 (162, [l0, l1, l2, l3, l4, some (.int x)], [.int i2, .ref k1, .ref k0], h) Q = Tr sc d 131 (164, [l0, l1, l2, l3, l4, some (.int x)], [.int x, .int i2, .ref k1, .ref k0], h) Q := t_iload k_131_162 rfl
theorem k_131_164 : lk 131 164 = some (.invokevirtual 367, 167, 21, 3, .null) := by decide +kernel
theorem x_131_164 : Tr sc (d + 1) 131 (164, [l0, l1, l2, l3, l4, l5], [.int i3, .int i2, .ref k1, .ref k0], h) Q = (okp h k0 1 = true ∧ Tr sc d 21 (ent0 21 [.ref k0, .ref k1, .int i2, .int i3] h) (fun z => Tr sc (d + 1) 131 (167, [l0, l1, l2, l3, l4, l5], z.1.toList ++ [], z.2) Q)) := t_cv (as := [.ref k1, .int i2, .int i3]) (r := []) k_131_164 rfl rfl (Nat.le_of_ble_eq_true rfl) (Nat.le_of_ble_eq_true rfl) (Nat.le_of_ble_eq_true rfl)
theorem k_131_167 : lk 131 167 = some (.ifCond .ne 5, 170, 172, 0, .null) := by decide +kernel
theorem x_131_167 : Tr sc d 131 (167, [l0, l1, l2, l3, l4, l5], [.int i0], h) Q = if i0 = 0 then Tr sc d 131 (170, [l0, l1, l2, l3, l4, l5], [], h) Q else Tr sc d 131 (172, [l0, l1, l2, l3, l4, l5], [], h) Q := t_if k_131_167 rfl
theorem k_131_170 : lk 131 170 = some (.iconst 0, 171, 0, 0, .int 0) := by decide +kernel
theorem x_131_170 : Tr sc d 131 (170, [l0, l1, l2, l3, l4, l5], [], h) Q = Tr sc d 131 (171, [l0, l1, l2, l3, l4, l5], [.int 0], h) Q := t_go k_131_170 rfl
theorem k_131_171 : lk 131 171 = some (.ireturn, 172, 0, 0, .null) := by decide +kernel
theorem x_131_171 : Tr sc d 131 (171, [l0, l1, l2, l3, l4, l5], [.int i0], h) Q = Q (some (.int i0), h) := t_ret k_131_171 (by rw [r_131]; rfl)
theorem k_131_172 : lk 131 172 = some (.aload_n 0, 173, 0, 0, .null) := by decide +kernel
theorem x_131_172 : Tr sc d 131 (172, [some (.ref xk), l1, l2, l3, l4, l5], [], h) Q = Tr sc d 131 (173, [some (.ref xk), l1, l2, l3, l4, l5], [.ref xk], h) Q := t_aload_n k_131_172 rfl
theorem k_131_173 : lk 131 173 = some (.iload 4, 175, 4, 0, .null) := by decide +kernel
theorem x_131_173 : Tr sc d 131 (173, [l0, l1, l2, l3, some (.int x), l5], [.ref k0], h) Q = Tr sc d 131 (175, [l0, l1, l2, l3, some (.int x), l5], [.int x, .ref k0], h) Q := t_iload k_131_173 rfl
theorem k_131_175 : lk 131 175 = some (.putfield 98, 178, 9, 15, .int 0) := by decide +kernel
theorem x_131_175 : Tr sc d 131 (175, [l0, l1, l2, l3, l4, l5], [.int i1, .ref k0], h) Q = (okp h k0 9 = true ∧ Tr sc d 131 (178, [l0, l1, l2, l3, l4, l5], [], (sI h k0 15 i1)) Q) := t_gd k_131_175 rfl
theorem k_131_178 : lk 131 178 = some (.iconst 1, 179, 0, 0, .int 1) := by decide +kernel
theorem x_131_178 : Tr sc d 131 (178, [l0, l1, l2, l3, l4, l5], [], h) Q = Tr sc d 131 (179, [l0, l1, l2, l3, l4, l5], [.int 1], h) Q := t_go k_131_178 rfl
theorem k_131_179 : lk 131 179 = some (.ireturn, 180, 0, 0, .null) := by decide +kernel
theorem x_131_179 : Tr sc d 131 (179, [l0, l1, l2, l3, l4, l5], [.int i0], h) Q = Q (some (.int i0), h) := t_ret k_131_179 (by rw [r_131]; rfl)
theorem e_131 : Tr sc d 131 (ent0 131 [.ref k0, .int i1, .int i2, .int i3] h) Q = Tr sc d 131 (0, [some (.ref k0), some (.int i1), some (.int i2), some (.int i3), none, none], [], h) Q := by
  have e : mL 131 = 6 := by decide +kernel
  unfold ent0
  rw [e]
  rfl
theorem r_132 : mR 132 = some .long := by decide +kernel
theorem k_132_0 : lk 132 0 = some (.aload_n 0, 1, 0, 0, .null) := by decide +kernel
theorem x_132_0 : Tr sc d 132 (0, [some (.ref xk)], [], h) Q = Tr sc d 132 (1, [some (.ref xk)], [.ref xk], h) Q := t_aload_n k_132_0 rfl
theorem k_132_1 : lk 132 1 = some (.getfield 101, 4, 9, 16, .long 0) := by decide +kernel
theorem x_132_1 : Tr sc d 132 (1, [l0], [.ref k0], h) Q = (okp h k0 9 = true ∧ Tr sc d 132 (4, [l0], [.long (hL h k0 16)], h) Q) := t_gd k_132_1 rfl
theorem k_132_4 : lk 132 4 = some (.lreturn, 5, 0, 0, .null) := by decide +kernel
theorem x_132_4 : Tr sc d 132 (4, [l0], [.long j0], h) Q = Q (some (.long j0), h) := t_ret k_132_4 (by rw [r_132]; rfl)
theorem e_132 : Tr sc d 132 (ent0 132 [.ref k0] h) Q = Tr sc d 132 (0, [some (.ref k0)], [], h) Q := by
  have e : mL 132 = 1 := by decide +kernel
  unfold ent0
  rw [e]
  rfl
theorem r_133 : mR 133 = some .int := by decide +kernel
theorem k_133_0 : lk 133 0 = some (.aload_n 0, 1, 0, 0, .null) := by decide +kernel
theorem x_133_0 : Tr sc d 133 (0, [some (.ref xk)], [], h) Q = Tr sc d 133 (1, [some (.ref xk)], [.ref xk], h) Q := t_aload_n k_133_0 rfl
theorem k_133_1 : lk 133 1 = some (.getfield 98, 4, 9, 15, .int 0) := by decide +kernel
theorem x_133_1 : Tr sc d 133 (1, [l0], [.ref k0], h) Q = (okp h k0 9 = true ∧ Tr sc d 133 (4, [l0], [.int (hI h k0 15)], h) Q) := t_gd k_133_1 rfl
theorem k_133_4 : lk 133 4 = some (.ireturn, 5, 0, 0, .null) := by decide +kernel
theorem x_133_4 : Tr sc d 133 (4, [l0], [.int i0], h) Q = Q (some (.int i0), h) := t_ret k_133_4 (by rw [r_133]; rfl)
theorem e_133 : Tr sc d 133 (ent0 133 [.ref k0] h) Q = Tr sc d 133 (0, [some (.ref k0)], [], h) Q := by
  have e : mL 133 = 1 := by decide +kernel
  unfold ent0
  rw [e]
  rfl
theorem r_134 : mR 134 = some .long := by decide +kernel
theorem k_134_0 : lk 134 0 = some (.aload_n 0, 1, 0, 0, .null) := by decide +kernel
theorem x_134_0 : Tr sc d 134 (0, [some (.ref xk)], [], h) Q = Tr sc d 134 (1, [some (.ref xk)], [.ref xk], h) Q := t_aload_n k_134_0 rfl
theorem k_134_1 : lk 134 1 = some (.getfield 105, 4, 9, 17, .long 0) := by decide +kernel
theorem x_134_1 : Tr sc d 134 (1, [l0], [.ref k0], h) Q = (okp h k0 9 = true ∧ Tr sc d 134 (4, [l0], [.long (hL h k0 17)], h) Q) := t_gd k_134_1 rfl
theorem k_134_4 : lk 134 4 = some (.lreturn, 5, 0, 0, .null) := by decide +kernel
theorem x_134_4 : Tr sc d 134 (4, [l0], [.long j0], h) Q = Q (some (.long j0), h) := t_ret k_134_4 (by rw [r_134]; rfl)
theorem e_134 : Tr sc d 134 (ent0 134 [.ref k0] h) Q = Tr sc d 134 (0, [some (.ref k0)], [], h) Q := by
  have e : mL 134 = 1 := by decide +kernel
  unfold ent0
  rw [e]
  rfl
theorem r_135 : mR 135 = some .long := by decide +kernel
theorem k_135_0 : lk 135 0 = some (.aload_n 0, 1, 0, 0, .null) := by decide +kernel
theorem x_135_0 : Tr sc d 135 (0, [some (.ref xk)], [], h) Q = Tr sc d 135 (1, [some (.ref xk)], [.ref xk], h) Q := t_aload_n k_135_0 rfl
theorem k_135_1 : lk 135 1 = some (.getfield 108, 4, 9, 18, .long 0) := by decide +kernel
theorem x_135_1 : Tr sc d 135 (1, [l0], [.ref k0], h) Q = (okp h k0 9 = true ∧ Tr sc d 135 (4, [l0], [.long (hL h k0 18)], h) Q) := t_gd k_135_1 rfl
theorem k_135_4 : lk 135 4 = some (.lreturn, 5, 0, 0, .null) := by decide +kernel
theorem x_135_4 : Tr sc d 135 (4, [l0], [.long j0], h) Q = Q (some (.long j0), h) := t_ret k_135_4 (by rw [r_135]; rfl)
theorem e_135 : Tr sc d 135 (ent0 135 [.ref k0] h) Q = Tr sc d 135 (0, [some (.ref k0)], [], h) Q := by
  have e : mL 135 = 1 := by decide +kernel
  unfold ent0
  rw [e]
  rfl
theorem r_136 : mR 136 = some .int := by decide +kernel
theorem k_136_0 : lk 136 0 = some (.iload_n 1, 1, 1, 0, .null) := by decide +kernel
theorem x_136_0 : Tr sc d 136 (0, [l0, some (.int x), l2, l3], [], h) Q = Tr sc d 136 (1, [l0, some (.int x), l2, l3], [.int x], h) Q := t_iload_n k_136_0 rfl
theorem k_136_1 : lk 136 1 = some (.ifCond .lt 8, 4, 9, 0, .null) := by decide +kernel
theorem x_136_1 : Tr sc d 136 (1, [l0, l1, l2, l3], [.int i0], h) Q = if i0 < 0 then Tr sc d 136 (9, [l0, l1, l2, l3], [], h) Q else Tr sc d 136 (4, [l0, l1, l2, l3], [], h) Q := t_if k_136_1 rfl
theorem k_136_4 : lk 136 4 = some (.iload_n 1, 5, 1, 0, .null) := by decide +kernel
theorem x_136_4 : Tr sc d 136 (4, [l0, some (.int x), l2, l3], [], h) Q = Tr sc d 136 (5, [l0, some (.int x), l2, l3], [.int x], h) Q := t_iload_n k_136_4 rfl
theorem k_136_5 : lk 136 5 = some (.iconst 3, 6, 0, 0, .int 3) := by decide +kernel
theorem x_136_5 : Tr sc d 136 (5, [l0, l1, l2, l3], [.int i0], h) Q = Tr sc d 136 (6, [l0, l1, l2, l3], [.int 3, .int i0], h) Q := t_go k_136_5 rfl
theorem k_136_6 : lk 136 6 = some (.if_icmp .le 5, 9, 11, 0, .null) := by decide +kernel
theorem x_136_6 : Tr sc d 136 (6, [l0, l1, l2, l3], [.int i1, .int i0], h) Q = if i0 ≤ i1 then Tr sc d 136 (11, [l0, l1, l2, l3], [], h) Q else Tr sc d 136 (9, [l0, l1, l2, l3], [], h) Q := t_if k_136_6 rfl
theorem k_136_9 : lk 136 9 = some (.iconst (-1), 10, 0, 0, .int (-1)) := by decide +kernel
theorem x_136_9 : Tr sc d 136 (9, [l0, l1, l2, l3], [], h) Q = Tr sc d 136 (10, [l0, l1, l2, l3], [.int (-1)], h) Q := t_go k_136_9 rfl
theorem k_136_10 : lk 136 10 = some (.ireturn, 11, 0, 0, .null) := by decide +kernel
theorem x_136_10 : Tr sc d 136 (10, [l0, l1, l2, l3], [.int i0], h) Q = Q (some (.int i0), h) := t_ret k_136_10 (by rw [r_136]; rfl)
theorem k_136_11 : lk 136 11 = some (.iload_n 1, 12, 1, 0, .null) := by decide +kernel
theorem x_136_11 : Tr sc d 136 (11, [l0, some (.int x), l2, l3], [], h) Q = Tr sc d 136 (12, [l0, some (.int x), l2, l3], [.int x], h) Q := t_iload_n k_136_11 rfl
theorem k_136_12 : lk 136 12 = some (.ifCond .ne 11, 15, 23, 0, .null) := by decide +kernel
theorem x_136_12 : Tr sc d 136 (12, [l0, l1, l2, l3], [.int i0], h) Q = if i0 = 0 then Tr sc d 136 (15, [l0, l1, l2, l3], [], h) Q else Tr sc d 136 (23, [l0, l1, l2, l3], [], h) Q := t_if k_136_12 rfl
theorem k_136_15 : lk 136 15 = some (.aload_n 0, 16, 0, 0, .null) := by decide +kernel
theorem x_136_15 : Tr sc d 136 (15, [some (.ref xk), l1, l2, l3], [], h) Q = Tr sc d 136 (16, [some (.ref xk), l1, l2, l3], [.ref xk], h) Q := t_aload_n k_136_15 rfl
theorem k_136_16 : lk 136 16 = some (.getfield 11, 19, 9, 0, .null) := by decide +kernel
theorem x_136_16 : Tr sc d 136 (16, [l0, l1, l2, l3], [.ref k0], h) Q = (okp h k0 9 = true ∧ ∃ q, hR h k0 0 = some q ∧ Tr sc d 136 (19, [l0, l1, l2, l3], [.ref q], h) Q) := t_getr k_136_16
theorem k_136_19 : lk 136 19 = some (.invokestatic 371, 22, 152, 1, .null) := by decide +kernel
theorem x_136_19 : Tr sc (d + 1) 136 (19, [l0, l1, l2, l3], [.ref k0], h) Q = Tr sc d 152 (ent0 152 [.ref k0] h) (fun z => Tr sc (d + 1) 136 (22, [l0, l1, l2, l3], z.1.toList ++ [], z.2) Q) := t_cs (as := [.ref k0]) (r := []) k_136_19 (by decide) rfl rfl (Nat.le_of_ble_eq_true rfl) (Nat.le_of_ble_eq_true rfl)
theorem k_136_22 : lk 136 22 = some (.ireturn, 23, 0, 0, .null) := by decide +kernel
theorem x_136_22 : Tr sc d 136 (22, [l0, l1, l2, l3], [.int i0], h) Q = Q (some (.int i0), h) := t_ret k_136_22 (by rw [r_136]; rfl)
theorem k_136_23 : lk 136 23 = some (.iload_n 1, 24, 1, 0, .null) := by decide +kernel
theorem x_136_23 : Tr sc d 136 (23, [l0, some (.int x), l2, l3], [], h) Q = Tr sc d 136 (24, [l0, some (.int x), l2, l3], [.int x], h) Q := t_iload_n k_136_23 rfl
theorem k_136_24 : lk 136 24 = some (.iconst 1, 25, 0, 0, .int 1) := by decide +kernel
theorem x_136_24 : Tr sc d 136 (24, [l0, l1, l2, l3], [.int i0], h) Q = Tr sc d 136 (25, [l0, l1, l2, l3], [.int 1, .int i0], h) Q := t_go k_136_24 rfl
theorem k_136_25 : lk 136 25 = some (.if_icmp .ne 11, 28, 36, 0, .null) := by decide +kernel
theorem x_136_25 : Tr sc d 136 (25, [l0, l1, l2, l3], [.int i1, .int i0], h) Q = if i0 = i1 then Tr sc d 136 (28, [l0, l1, l2, l3], [], h) Q else Tr sc d 136 (36, [l0, l1, l2, l3], [], h) Q := t_if k_136_25 rfl
theorem k_136_28 : lk 136 28 = some (.aload_n 0, 29, 0, 0, .null) := by decide +kernel
theorem x_136_28 : Tr sc d 136 (28, [some (.ref xk), l1, l2, l3], [], h) Q = Tr sc d 136 (29, [some (.ref xk), l1, l2, l3], [.ref xk], h) Q := t_aload_n k_136_28 rfl
theorem k_136_29 : lk 136 29 = some (.getfield 15, 32, 9, 1, .null) := by decide +kernel
theorem x_136_29 : Tr sc d 136 (29, [l0, l1, l2, l3], [.ref k0], h) Q = (okp h k0 9 = true ∧ ∃ q, hR h k0 1 = some q ∧ Tr sc d 136 (32, [l0, l1, l2, l3], [.ref q], h) Q) := t_getr k_136_29
theorem k_136_32 : lk 136 32 = some (.invokestatic 371, 35, 152, 1, .null) := by decide +kernel
theorem x_136_32 : Tr sc (d + 1) 136 (32, [l0, l1, l2, l3], [.ref k0], h) Q = Tr sc d 152 (ent0 152 [.ref k0] h) (fun z => Tr sc (d + 1) 136 (35, [l0, l1, l2, l3], z.1.toList ++ [], z.2) Q) := t_cs (as := [.ref k0]) (r := []) k_136_32 (by decide) rfl rfl (Nat.le_of_ble_eq_true rfl) (Nat.le_of_ble_eq_true rfl)
theorem k_136_35 : lk 136 35 = some (.ireturn, 36, 0, 0, .null) := by decide +kernel
theorem x_136_35 : Tr sc d 136 (35, [l0, l1, l2, l3], [.int i0], h) Q = Q (some (.int i0), h) := t_ret k_136_35 (by rw [r_136]; rfl)
theorem k_136_36 : lk 136 36 = some (.iconst 0, 37, 0, 0, .int 0) := by decide +kernel
theorem x_136_36 : Tr sc d 136 (36, [l0, l1, l2, l3], [], h) Q = Tr sc d 136 (37, [l0, l1, l2, l3], [.int 0], h) Q := t_go k_136_36 rfl
theorem k_136_37 : lk 136 37 = some (.istore_n 2, 38, 2, 0, .null) := by decide +kernel
theorem x_136_37 : Tr sc d 136 (37, [l0, l1, l2, l3], [.int i0], h) Q = Tr sc d 136 (38, [l0, cl2 l1, some (.int i0), l3], [], h) Q := t_istore_n k_136_37 (Nat.le_of_ble_eq_true rfl)
theorem k_136_38 : lk 136 38 = some (.iconst 0, 39, 0, 0, .int 0) := by decide +kernel
theorem x_136_38 : Tr sc d 136 (38, [l0, l1, l2, l3], [], h) Q = Tr sc d 136 (39, [l0, l1, l2, l3], [.int 0], h) Q := t_go k_136_38 rfl
theorem k_136_39 : lk 136 39 = some (.istore_n 3, 40, 3, 0, .null) := by decide +kernel
theorem x_136_39 : Tr sc d 136 (39, [l0, l1, l2, l3], [.int i0], h) Q = Tr sc d 136 (40, [l0, l1, cl2 l2, some (.int i0)], [], h) Q := t_istore_n k_136_39 (Nat.le_of_ble_eq_true rfl)
theorem k_136_40 : lk 136 40 = some (.iload_n 3, 41, 3, 0, .null) := by decide +kernel
theorem x_136_40 : Tr sc d 136 (40, [l0, l1, l2, some (.int x)], [], h) Q = Tr sc d 136 (41, [l0, l1, l2, some (.int x)], [.int x], h) Q := t_iload_n k_136_40 rfl
theorem k_136_41 : lk 136 41 = some (.bipush 8, 43, 0, 0, .int 8) := by decide +kernel
theorem x_136_41 : Tr sc d 136 (41, [l0, l1, l2, l3], [.int i0], h) Q = Tr sc d 136 (43, [l0, l1, l2, l3], [.int 8, .int i0], h) Q := t_go k_136_41 rfl
theorem k_136_43 : lk 136 43 = some (.if_icmp .ge 44, 46, 87, 0, .null) := by decide +kernel
theorem x_136_43 : Tr sc d 136 (43, [l0, l1, l2, l3], [.int i1, .int i0], h) Q = if i1 ≤ i0 then Tr sc d 136 (87, [l0, l1, l2, l3], [], h) Q else Tr sc d 136 (46, [l0, l1, l2, l3], [], h) Q := t_if k_136_43 rfl
theorem k_136_46 : lk 136 46 = some (.iload_n 1, 47, 1, 0, .null) := by decide +kernel
theorem x_136_46 : Tr sc d 136 (46, [l0, some (.int x), l2, l3], [], h) Q = Tr sc d 136 (47, [l0, some (.int x), l2, l3], [.int x], h) Q := t_iload_n k_136_46 rfl
theorem k_136_47 : lk 136 47 = some (.iconst 2, 48, 0, 0, .int 2) := by decide +kernel
theorem x_136_47 : Tr sc d 136 (47, [l0, l1, l2, l3], [.int i0], h) Q = Tr sc d 136 (48, [l0, l1, l2, l3], [.int 2, .int i0], h) Q := t_go k_136_47 rfl
theorem k_136_48 : lk 136 48 = some (.if_icmp .ne 18, 51, 66, 0, .null) := by decide +kernel
theorem x_136_48 : Tr sc d 136 (48, [l0, l1, l2, l3], [.int i1, .int i0], h) Q = if i0 = i1 then Tr sc d 136 (51, [l0, l1, l2, l3], [], h) Q else Tr sc d 136 (66, [l0, l1, l2, l3], [], h) Q := t_if k_136_48 rfl
theorem k_136_51 : lk 136 51 = some (.aload_n 0, 52, 0, 0, .null) := by decide +kernel
theorem x_136_51 : Tr sc d 136 (51, [some (.ref xk), l1, l2, l3], [], h) Q = Tr sc d 136 (52, [some (.ref xk), l1, l2, l3], [.ref xk], h) Q := t_aload_n k_136_51 rfl
theorem k_136_52 : lk 136 52 = some (.getfield 20, 55, 9, 2, .null) := by decide +kernel
theorem x_136_52 : Tr sc d 136 (52, [l0, l1, l2, l3], [.ref k0], h) Q = (okp h k0 9 = true ∧ ∃ q, hR h k0 2 = some q ∧ Tr sc d 136 (55, [l0, l1, l2, l3], [.ref q], h) Q) := t_getr k_136_52
theorem k_136_55 : lk 136 55 = some (.iload_n 3, 56, 3, 0, .null) := by decide +kernel
theorem x_136_55 : Tr sc d 136 (55, [l0, l1, l2, some (.int x)], [.ref k0], h) Q = Tr sc d 136 (56, [l0, l1, l2, some (.int x)], [.int x, .ref k0], h) Q := t_iload_n k_136_55 rfl
theorem k_136_56 : lk 136 56 = some (.aaload, 57, 0, 0, .null) := by decide +kernel
theorem x_136_56 : Tr sc d 136 (56, [l0, l1, l2, l3], [.int i1, .ref k0], h) Q = (((okp h k0 14 || okp h k0 15) && inb i1 (LN k0)) = true ∧ ∃ q, hR h k0 i1.toNatClampNeg = some q ∧ Tr sc d 136 (57, [l0, l1, l2, l3], [.ref q], h) Q) := t_aald k_136_56
theorem k_136_57 : lk 136 57 = some (.invokevirtual 366, 60, 48, 0, .null) := by decide +kernel
theorem x_136_57 : Tr sc (d + 1) 136 (57, [l0, l1, l2, l3], [.ref k0], h) Q = (okp h k0 6 = true ∧ Tr sc d 48 (ent0 48 [.ref k0] h) (fun z => Tr sc (d + 1) 136 (60, [l0, l1, l2, l3], z.1.toList ++ [], z.2) Q)) := t_cv (as := []) (r := []) k_136_57 rfl rfl (Nat.le_of_ble_eq_true rfl) (Nat.le_of_ble_eq_true rfl) (Nat.le_of_ble_eq_true rfl)
theorem k_136_60 : lk 136 60 = some (.ifCond .ne 21, 63, 81, 0, .null) := by decide +kernel
theorem x_136_60 : Tr sc d 136 (60, [l0, l1, l2, l3], [.int i0], h) Q = if i0 = 0 then Tr sc d 136 (63, [l0, l1, l2, l3], [], h) Q else Tr sc d 136 (81, [l0, l1, l2, l3], [], h) Q := t_if k_136_60 rfl
theorem k_136_63 : lk 136 63 = some (.goto 15, 66, 78, 0, .null) := by decide +kernel
theorem x_136_63 : Tr sc d 136 (63, [l0, l1, l2, l3], [], h) Q = Tr sc d 136 (78, [l0, l1, l2, l3], [], h) Q := t_go k_136_63 rfl
theorem k_136_66 : lk 136 66 = some (.aload_n 0, 67, 0, 0, .null) := by decide +kernel
theorem x_136_66 : Tr sc d 136 (66, [some (.ref xk), l1, l2, l3], [], h) Q = Tr sc d 136 (67, [some (.ref xk), l1, l2, l3], [.ref xk], h) Q := t_aload_n k_136_66 rfl
theorem k_136_67 : lk 136 67 = some (.getfield 20, 70, 9, 2, .null) := by decide +kernel
theorem x_136_67 : Tr sc d 136 (67, [l0, l1, l2, l3], [.ref k0], h) Q = (okp h k0 9 = true ∧ ∃ q, hR h k0 2 = some q ∧ Tr sc d 136 (70, [l0, l1, l2, l3], [.ref q], h) Q) := t_getr k_136_67
theorem k_136_70 : lk 136 70 = some (.iload_n 3, 71, 3, 0, .null) := by decide +kernel
theorem x_136_70 : Tr sc d 136 (70, [l0, l1, l2, some (.int x)], [.ref k0], h) Q = Tr sc d 136 (71, [l0, l1, l2, some (.int x)], [.int x, .ref k0], h) Q := t_iload_n k_136_70 rfl
theorem k_136_71 : lk 136 71 = some (.aaload, 72, 0, 0, .null) := by decide +kernel
theorem x_136_71 : Tr sc d 136 (71, [l0, l1, l2, l3], [.int i1, .ref k0], h) Q = (((okp h k0 14 || okp h k0 15) && inb i1 (LN k0)) = true ∧ ∃ q, hR h k0 i1.toNatClampNeg = some q ∧ Tr sc d 136 (72, [l0, l1, l2, l3], [.ref q], h) Q) := t_aald k_136_71
theorem k_136_72 : lk 136 72 = some (.invokevirtual 218, 75, 49, 0, .null) := by decide +kernel
theorem x_136_72 : Tr sc (d + 1) 136 (72, [l0, l1, l2, l3], [.ref k0], h) Q = (okp h k0 6 = true ∧ Tr sc d 49 (ent0 49 [.ref k0] h) (fun z => Tr sc (d + 1) 136 (75, [l0, l1, l2, l3], z.1.toList ++ [], z.2) Q)) := t_cv (as := []) (r := []) k_136_72 rfl rfl (Nat.le_of_ble_eq_true rfl) (Nat.le_of_ble_eq_true rfl) (Nat.le_of_ble_eq_true rfl)
theorem k_136_75 : lk 136 75 = some (.ifCond .eq 6, 78, 81, 0, .null) := by decide +kernel
theorem x_136_75 : Tr sc d 136 (75, [l0, l1, l2, l3], [.int i0], h) Q = if i0 = 0 then Tr sc d 136 (81, [l0, l1, l2, l3], [], h) Q else Tr sc d 136 (78, [l0, l1, l2, l3], [], h) Q := t_if k_136_75 rfl
theorem k_136_78 : lk 136 78 = some (.iinc 2 1, 81, 2, 0, .int 1) := by decide +kernel
theorem x_136_78 : Tr sc d 136 (78, [l0, l1, some (.int x), l3], [], h) Q = Tr sc d 136 (81, [l0, cl2 l1, some (.int (x + 1)), l3], [], h) Q := t_inc k_136_78 rfl (Nat.le_of_ble_eq_true rfl)
theorem k_136_81 : lk 136 81 = some (.iinc 3 1, 84, 3, 0, .int 1) := by decide +kernel
theorem x_136_81 : Tr sc d 136 (81, [l0, l1, l2, some (.int x)], [], h) Q = Tr sc d 136 (84, [l0, l1, cl2 l2, some (.int (x + 1))], [], h) Q := t_inc k_136_81 rfl (Nat.le_of_ble_eq_true rfl)
theorem k_136_84 : lk 136 84 = some (.goto (-44), 87, 40, 0, .null) := by decide +kernel
theorem x_136_84 : Tr sc d 136 (84, [l0, l1, l2, l3], [], h) Q = Tr sc d 136 (40, [l0, l1, l2, l3], [], h) Q := t_go k_136_84 rfl
theorem k_136_87 : lk 136 87 = some (.iload_n 2, 88, 2, 0, .null) := by decide +kernel
theorem x_136_87 : Tr sc d 136 (87, [l0, l1, some (.int x), l3], [], h) Q = Tr sc d 136 (88, [l0, l1, some (.int x), l3], [.int x], h) Q := t_iload_n k_136_87 rfl
theorem k_136_88 : lk 136 88 = some (.ireturn, 89, 0, 0, .null) := by decide +kernel
theorem x_136_88 : Tr sc d 136 (88, [l0, l1, l2, l3], [.int i0], h) Q = Q (some (.int i0), h) := t_ret k_136_88 (by rw [r_136]; rfl)
theorem e_136 : Tr sc d 136 (ent0 136 [.ref k0, .int i1] h) Q = Tr sc d 136 (0, [some (.ref k0), some (.int i1), none, none], [], h) Q := by
  have e : mL 136 = 4 := by decide +kernel
  unfold ent0
  rw [e]
  rfl
theorem r_137 : mR 137 = some .int := by decide +kernel
theorem k_137_0 : lk 137 0 = some (.aload_n 0, 1, 0, 0, .null) := by decide +kernel
theorem x_137_0 : Tr sc d 137 (0, [some (.ref xk)], [], h) Q = Tr sc d 137 (1, [some (.ref xk)], [.ref xk], h) Q := t_aload_n k_137_0 rfl
theorem k_137_1 : lk 137 1 = some (.getfield 94, 4, 9, 14, .int 0) := by decide +kernel
theorem x_137_1 : Tr sc d 137 (1, [l0], [.ref k0], h) Q = (okp h k0 9 = true ∧ Tr sc d 137 (4, [l0], [.int (hI h k0 14)], h) Q) := t_gd k_137_1 rfl
theorem k_137_4 : lk 137 4 = some (.ireturn, 5, 0, 0, .null) := by decide +kernel
theorem x_137_4 : Tr sc d 137 (4, [l0], [.int i0], h) Q = Q (some (.int i0), h) := t_ret k_137_4 (by rw [r_137]; rfl)
theorem e_137 : Tr sc d 137 (ent0 137 [.ref k0] h) Q = Tr sc d 137 (0, [some (.ref k0)], [], h) Q := by
  have e : mL 137 = 1 := by decide +kernel
  unfold ent0
  rw [e]
  rfl
theorem r_138 : mR 138 = some .int := by decide +kernel
theorem k_138_0 : lk 138 0 = some (.iload_n 1, 1, 1, 0, .null) := by decide +kernel
theorem x_138_0 : Tr sc d 138 (0, [l0, some (.int x)], [], h) Q = Tr sc d 138 (1, [l0, some (.int x)], [.int x], h) Q := t_iload_n k_138_0 rfl
theorem k_138_1 : lk 138 1 = some (.iconst 1, 2, 0, 0, .int 1) := by decide +kernel
theorem x_138_1 : Tr sc d 138 (1, [l0, l1], [.int i0], h) Q = Tr sc d 138 (2, [l0, l1], [.int 1, .int i0], h) Q := t_go k_138_1 rfl
theorem k_138_2 : lk 138 2 = some (.if_icmp .lt 8, 5, 10, 0, .null) := by decide +kernel
theorem x_138_2 : Tr sc d 138 (2, [l0, l1], [.int i1, .int i0], h) Q = if i0 < i1 then Tr sc d 138 (10, [l0, l1], [], h) Q else Tr sc d 138 (5, [l0, l1], [], h) Q := t_if k_138_2 rfl
theorem k_138_5 : lk 138 5 = some (.iload_n 1, 6, 1, 0, .null) := by decide +kernel
theorem x_138_5 : Tr sc d 138 (5, [l0, some (.int x)], [], h) Q = Tr sc d 138 (6, [l0, some (.int x)], [.int x], h) Q := t_iload_n k_138_5 rfl
theorem k_138_6 : lk 138 6 = some (.iconst 5, 7, 0, 0, .int 5) := by decide +kernel
theorem x_138_6 : Tr sc d 138 (6, [l0, l1], [.int i0], h) Q = Tr sc d 138 (7, [l0, l1], [.int 5, .int i0], h) Q := t_go k_138_6 rfl
theorem k_138_7 : lk 138 7 = some (.if_icmp .le 7, 10, 14, 0, .null) := by decide +kernel
theorem x_138_7 : Tr sc d 138 (7, [l0, l1], [.int i1, .int i0], h) Q = if i0 ≤ i1 then Tr sc d 138 (14, [l0, l1], [], h) Q else Tr sc d 138 (10, [l0, l1], [], h) Q := t_if k_138_7 rfl
theorem k_138_10 : lk 138 10 = some (.iconst (-1), 11, 0, 0, .int (-1)) := by decide +kernel
theorem x_138_10 : Tr sc d 138 (10, [l0, l1], [], h) Q = Tr sc d 138 (11, [l0, l1], [.int (-1)], h) Q := t_go k_138_10 rfl
theorem k_138_11 : lk 138 11 = some (.goto 9, 14, 20, 0, .null) := by decide +kernel
theorem x_138_11 : Tr sc d 138 (11, [l0, l1], [.int i0], h) Q = Tr sc d 138 (20, [l0, l1], [.int i0], h) Q := t_go k_138_11 rfl
theorem k_138_14 : lk 138 14 = some (.aload_n 0, 15, 0, 0, .null) := by decide +kernel
theorem x_138_14 : Tr sc d 138 (14, [some (.ref xk), l1], [], h) Q = Tr sc d 138 (15, [some (.ref xk), l1], [.ref xk], h) Q := t_aload_n k_138_14 rfl
theorem k_138_15 : lk 138 15 = some (.getfield 90, 18, 9, 13, .null) := by decide +kernel
theorem x_138_15 : Tr sc d 138 (15, [l0, l1], [.ref k0], h) Q = (okp h k0 9 = true ∧ ∃ q, hR h k0 13 = some q ∧ Tr sc d 138 (18, [l0, l1], [.ref q], h) Q) := t_getr k_138_15
theorem k_138_18 : lk 138 18 = some (.iload_n 1, 19, 1, 0, .null) := by decide +kernel
theorem x_138_18 : Tr sc d 138 (18, [l0, some (.int x)], [.ref k0], h) Q = Tr sc d 138 (19, [l0, some (.int x)], [.int x, .ref k0], h) Q := t_iload_n k_138_18 rfl
theorem k_138_19 : lk 138 19 = some (.iaload, 20, 0, 0, .null) := by decide +kernel
theorem x_138_19 : Tr sc d 138 (19, [l0, l1], [.int i1, .ref k0], h) Q = (iOk sc h k0 i1 ∧ Tr sc d 138 (20, [l0, l1], [.int (iRd sc h k0 i1)], h) Q) := t_iald k_138_19
theorem k_138_20 : lk 138 20 = some (.ireturn, 21, 0, 0, .null) := by decide +kernel
theorem x_138_20 : Tr sc d 138 (20, [l0, l1], [.int i0], h) Q = Q (some (.int i0), h) := t_ret k_138_20 (by rw [r_138]; rfl)
theorem e_138 : Tr sc d 138 (ent0 138 [.ref k0, .int i1] h) Q = Tr sc d 138 (0, [some (.ref k0), some (.int i1)], [], h) Q := by
  have e : mL 138 = 2 := by decide +kernel
  unfold ent0
  rw [e]
  rfl
theorem r_139 : mR 139 = some .long := by decide +kernel
theorem k_139_0 : lk 139 0 = some (.ldc2_w 375, 3, 0, 1157, .long 17) := by decide +kernel
theorem x_139_0 : Tr sc d 139 (0, [l0, l1, l2, l3], [], h) Q = Tr sc d 139 (3, [l0, l1, l2, l3], [.long 17], h) Q := t_go k_139_0 rfl
theorem k_139_3 : lk 139 3 = some (.lstore_n 1, 4, 1, 0, .null) := by decide +kernel
theorem x_139_3 : Tr sc d 139 (3, [l0, l1, l2, l3], [.long j0], h) Q = Tr sc d 139 (4, [cl2 l0, some (.long j0), none, l3], [], h) Q := t_lstore_n k_139_3 (Nat.le_of_ble_eq_true rfl)
theorem k_139_4 : lk 139 4 = some (.iconst 0, 5, 0, 0, .int 0) := by decide +kernel
theorem x_139_4 : Tr sc d 139 (4, [l0, l1, l2, l3], [], h) Q = Tr sc d 139 (5, [l0, l1, l2, l3], [.int 0], h) Q := t_go k_139_4 rfl
theorem k_139_5 : lk 139 5 = some (.istore_n 3, 6, 3, 0, .null) := by decide +kernel
theorem x_139_5 : Tr sc d 139 (5, [l0, l1, l2, l3], [.int i0], h) Q = Tr sc d 139 (6, [l0, l1, cl2 l2, some (.int i0)], [], h) Q := t_istore_n k_139_5 (Nat.le_of_ble_eq_true rfl)
theorem k_139_6 : lk 139 6 = some (.iload_n 3, 7, 3, 0, .null) := by decide +kernel
theorem x_139_6 : Tr sc d 139 (6, [l0, l1, l2, some (.int x)], [], h) Q = Tr sc d 139 (7, [l0, l1, l2, some (.int x)], [.int x], h) Q := t_iload_n k_139_6 rfl
theorem k_139_7 : lk 139 7 = some (.bipush 8, 9, 0, 0, .int 8) := by decide +kernel
theorem x_139_7 : Tr sc d 139 (7, [l0, l1, l2, l3], [.int i0], h) Q = Tr sc d 139 (9, [l0, l1, l2, l3], [.int 8, .int i0], h) Q := t_go k_139_7 rfl
theorem k_139_9 : lk 139 9 = some (.if_icmp .ge 20, 12, 29, 0, .null) := by decide +kernel
theorem x_139_9 : Tr sc d 139 (9, [l0, l1, l2, l3], [.int i1, .int i0], h) Q = if i1 ≤ i0 then Tr sc d 139 (29, [l0, l1, l2, l3], [], h) Q else Tr sc d 139 (12, [l0, l1, l2, l3], [], h) Q := t_if k_139_9 rfl
theorem k_139_12 : lk 139 12 = some (.aload_n 0, 13, 0, 0, .null) := by decide +kernel
theorem x_139_12 : Tr sc d 139 (12, [some (.ref xk), l1, l2, l3], [], h) Q = Tr sc d 139 (13, [some (.ref xk), l1, l2, l3], [.ref xk], h) Q := t_aload_n k_139_12 rfl
theorem k_139_13 : lk 139 13 = some (.getfield 20, 16, 9, 2, .null) := by decide +kernel
theorem x_139_13 : Tr sc d 139 (13, [l0, l1, l2, l3], [.ref k0], h) Q = (okp h k0 9 = true ∧ ∃ q, hR h k0 2 = some q ∧ Tr sc d 139 (16, [l0, l1, l2, l3], [.ref q], h) Q) := t_getr k_139_13
theorem k_139_16 : lk 139 16 = some (.iload_n 3, 17, 3, 0, .null) := by decide +kernel
theorem x_139_16 : Tr sc d 139 (16, [l0, l1, l2, some (.int x)], [.ref k0], h) Q = Tr sc d 139 (17, [l0, l1, l2, some (.int x)], [.int x, .ref k0], h) Q := t_iload_n k_139_16 rfl
theorem k_139_17 : lk 139 17 = some (.aaload, 18, 0, 0, .null) := by decide +kernel
theorem x_139_17 : Tr sc d 139 (17, [l0, l1, l2, l3], [.int i1, .ref k0], h) Q = (((okp h k0 14 || okp h k0 15) && inb i1 (LN k0)) = true ∧ ∃ q, hR h k0 i1.toNatClampNeg = some q ∧ Tr sc d 139 (18, [l0, l1, l2, l3], [.ref q], h) Q) := t_aald k_139_17
theorem k_139_18 : lk 139 18 = some (.lload_n 1, 19, 1, 0, .null) := by decide +kernel
theorem x_139_18 : Tr sc d 139 (18, [l0, some (.long xl), l2, l3], [.ref k0], h) Q = Tr sc d 139 (19, [l0, some (.long xl), l2, l3], [.long xl, .ref k0], h) Q := t_lload_n k_139_18 rfl
theorem k_139_19 : lk 139 19 = some (.invokevirtual 377, 22, 70, 1, .null) := by decide +kernel
theorem x_139_19 : Tr sc (d + 1) 139 (19, [l0, l1, l2, l3], [.long j1, .ref k0], h) Q = (okp h k0 6 = true ∧ Tr sc d 70 (ent0 70 [.ref k0, .long j1] h) (fun z => Tr sc (d + 1) 139 (22, [l0, l1, l2, l3], z.1.toList ++ [], z.2) Q)) := t_cv (as := [.long j1]) (r := []) k_139_19 rfl rfl (Nat.le_of_ble_eq_true rfl) (Nat.le_of_ble_eq_true rfl) (Nat.le_of_ble_eq_true rfl)
theorem k_139_22 : lk 139 22 = some (.lstore_n 1, 23, 1, 0, .null) := by decide +kernel
theorem x_139_22 : Tr sc d 139 (22, [l0, l1, l2, l3], [.long j0], h) Q = Tr sc d 139 (23, [cl2 l0, some (.long j0), none, l3], [], h) Q := t_lstore_n k_139_22 (Nat.le_of_ble_eq_true rfl)
theorem k_139_23 : lk 139 23 = some (.iinc 3 1, 26, 3, 0, .int 1) := by decide +kernel
theorem x_139_23 : Tr sc d 139 (23, [l0, l1, l2, some (.int x)], [], h) Q = Tr sc d 139 (26, [l0, l1, cl2 l2, some (.int (x + 1))], [], h) Q := t_inc k_139_23 rfl (Nat.le_of_ble_eq_true rfl)
theorem k_139_26 : lk 139 26 = some (.goto (-20), 29, 6, 0, .null) := by decide +kernel
theorem x_139_26 : Tr sc d 139 (26, [l0, l1, l2, l3], [], h) Q = Tr sc d 139 (6, [l0, l1, l2, l3], [], h) Q := t_go k_139_26 rfl
theorem k_139_29 : lk 139 29 = some (.iconst 0, 30, 0, 0, .int 0) := by decide +kernel
theorem x_139_29 : Tr sc d 139 (29, [l0, l1, l2, l3], [], h) Q = Tr sc d 139 (30, [l0, l1, l2, l3], [.int 0], h) Q := t_go k_139_29 rfl
theorem k_139_30 : lk 139 30 = some (.istore_n 3, 31, 3, 0, .null) := by decide +kernel
theorem x_139_30 : Tr sc d 139 (30, [l0, l1, l2, l3], [.int i0], h) Q = Tr sc d 139 (31, [l0, l1, cl2 l2, some (.int i0)], [], h) Q := t_istore_n k_139_30 (Nat.le_of_ble_eq_true rfl)
theorem k_139_31 : lk 139 31 = some (.iload_n 3, 32, 3, 0, .null) := by decide +kernel
theorem x_139_31 : Tr sc d 139 (31, [l0, l1, l2, some (.int x)], [], h) Q = Tr sc d 139 (32, [l0, l1, l2, some (.int x)], [.int x], h) Q := t_iload_n k_139_31 rfl
theorem k_139_32 : lk 139 32 = some (.bipush 6, 34, 0, 0, .int 6) := by decide +kernel
theorem x_139_32 : Tr sc d 139 (32, [l0, l1, l2, l3], [.int i0], h) Q = Tr sc d 139 (34, [l0, l1, l2, l3], [.int 6, .int i0], h) Q := t_go k_139_32 rfl
theorem k_139_34 : lk 139 34 = some (.if_icmp .ge 20, 37, 54, 0, .null) := by decide +kernel
theorem x_139_34 : Tr sc d 139 (34, [l0, l1, l2, l3], [.int i1, .int i0], h) Q = if i1 ≤ i0 then Tr sc d 139 (54, [l0, l1, l2, l3], [], h) Q else Tr sc d 139 (37, [l0, l1, l2, l3], [], h) Q := t_if k_139_34 rfl
theorem k_139_37 : lk 139 37 = some (.aload_n 0, 38, 0, 0, .null) := by decide +kernel
theorem x_139_37 : Tr sc d 139 (37, [some (.ref xk), l1, l2, l3], [], h) Q = Tr sc d 139 (38, [some (.ref xk), l1, l2, l3], [.ref xk], h) Q := t_aload_n k_139_37 rfl
theorem k_139_38 : lk 139 38 = some (.getfield 11, 41, 9, 0, .null) := by decide +kernel
theorem x_139_38 : Tr sc d 139 (38, [l0, l1, l2, l3], [.ref k0], h) Q = (okp h k0 9 = true ∧ ∃ q, hR h k0 0 = some q ∧ Tr sc d 139 (41, [l0, l1, l2, l3], [.ref q], h) Q) := t_getr k_139_38
theorem k_139_41 : lk 139 41 = some (.iload_n 3, 42, 3, 0, .null) := by decide +kernel
theorem x_139_41 : Tr sc d 139 (41, [l0, l1, l2, some (.int x)], [.ref k0], h) Q = Tr sc d 139 (42, [l0, l1, l2, some (.int x)], [.int x, .ref k0], h) Q := t_iload_n k_139_41 rfl
theorem k_139_42 : lk 139 42 = some (.aaload, 43, 0, 0, .null) := by decide +kernel
theorem x_139_42 : Tr sc d 139 (42, [l0, l1, l2, l3], [.int i1, .ref k0], h) Q = (((okp h k0 14 || okp h k0 15) && inb i1 (LN k0)) = true ∧ ∃ q, hR h k0 i1.toNatClampNeg = some q ∧ Tr sc d 139 (43, [l0, l1, l2, l3], [.ref q], h) Q) := t_aald k_139_42
theorem k_139_43 : lk 139 43 = some (.lload_n 1, 44, 1, 0, .null) := by decide +kernel
theorem x_139_43 : Tr sc d 139 (43, [l0, some (.long xl), l2, l3], [.ref k0], h) Q = Tr sc d 139 (44, [l0, some (.long xl), l2, l3], [.long xl, .ref k0], h) Q := t_lload_n k_139_43 rfl
theorem k_139_44 : lk 139 44 = some (.invokevirtual 381, 47, 46, 1, .null) := by decide +kernel
theorem x_139_44 : Tr sc (d + 1) 139 (44, [l0, l1, l2, l3], [.long j1, .ref k0], h) Q = (okp h k0 5 = true ∧ Tr sc d 46 (ent0 46 [.ref k0, .long j1] h) (fun z => Tr sc (d + 1) 139 (47, [l0, l1, l2, l3], z.1.toList ++ [], z.2) Q)) := t_cv (as := [.long j1]) (r := []) k_139_44 rfl rfl (Nat.le_of_ble_eq_true rfl) (Nat.le_of_ble_eq_true rfl) (Nat.le_of_ble_eq_true rfl)
theorem k_139_47 : lk 139 47 = some (.lstore_n 1, 48, 1, 0, .null) := by decide +kernel
theorem x_139_47 : Tr sc d 139 (47, [l0, l1, l2, l3], [.long j0], h) Q = Tr sc d 139 (48, [cl2 l0, some (.long j0), none, l3], [], h) Q := t_lstore_n k_139_47 (Nat.le_of_ble_eq_true rfl)
theorem k_139_48 : lk 139 48 = some (.iinc 3 1, 51, 3, 0, .int 1) := by decide +kernel
theorem x_139_48 : Tr sc d 139 (48, [l0, l1, l2, some (.int x)], [], h) Q = Tr sc d 139 (51, [l0, l1, cl2 l2, some (.int (x + 1))], [], h) Q := t_inc k_139_48 rfl (Nat.le_of_ble_eq_true rfl)
theorem k_139_51 : lk 139 51 = some (.goto (-20), 54, 31, 0, .null) := by decide +kernel
theorem x_139_51 : Tr sc d 139 (51, [l0, l1, l2, l3], [], h) Q = Tr sc d 139 (31, [l0, l1, l2, l3], [], h) Q := t_go k_139_51 rfl
theorem k_139_54 : lk 139 54 = some (.iconst 0, 55, 0, 0, .int 0) := by decide +kernel
theorem x_139_54 : Tr sc d 139 (54, [l0, l1, l2, l3], [], h) Q = Tr sc d 139 (55, [l0, l1, l2, l3], [.int 0], h) Q := t_go k_139_54 rfl
theorem k_139_55 : lk 139 55 = some (.istore_n 3, 56, 3, 0, .null) := by decide +kernel
theorem x_139_55 : Tr sc d 139 (55, [l0, l1, l2, l3], [.int i0], h) Q = Tr sc d 139 (56, [l0, l1, cl2 l2, some (.int i0)], [], h) Q := t_istore_n k_139_55 (Nat.le_of_ble_eq_true rfl)
theorem k_139_56 : lk 139 56 = some (.iload_n 3, 57, 3, 0, .null) := by decide +kernel
theorem x_139_56 : Tr sc d 139 (56, [l0, l1, l2, some (.int x)], [], h) Q = Tr sc d 139 (57, [l0, l1, l2, some (.int x)], [.int x], h) Q := t_iload_n k_139_56 rfl
theorem k_139_57 : lk 139 57 = some (.iconst 4, 58, 0, 0, .int 4) := by decide +kernel
theorem x_139_57 : Tr sc d 139 (57, [l0, l1, l2, l3], [.int i0], h) Q = Tr sc d 139 (58, [l0, l1, l2, l3], [.int 4, .int i0], h) Q := t_go k_139_57 rfl
theorem k_139_58 : lk 139 58 = some (.if_icmp .ge 20, 61, 78, 0, .null) := by decide +kernel
theorem x_139_58 : Tr sc d 139 (58, [l0, l1, l2, l3], [.int i1, .int i0], h) Q = if i1 ≤ i0 then Tr sc d 139 (78, [l0, l1, l2, l3], [], h) Q else Tr sc d 139 (61, [l0, l1, l2, l3], [], h) Q := t_if k_139_58 rfl
theorem k_139_61 : lk 139 61 = some (.aload_n 0, 62, 0, 0, .null) := by decide +kernel
theorem x_139_61 : Tr sc d 139 (61, [some (.ref xk), l1, l2, l3], [], h) Q = Tr sc d 139 (62, [some (.ref xk), l1, l2, l3], [.ref xk], h) Q := t_aload_n k_139_61 rfl
theorem k_139_62 : lk 139 62 = some (.getfield 15, 65, 9, 1, .null) := by decide +kernel
theorem x_139_62 : Tr sc d 139 (62, [l0, l1, l2, l3], [.ref k0], h) Q = (okp h k0 9 = true ∧ ∃ q, hR h k0 1 = some q ∧ Tr sc d 139 (65, [l0, l1, l2, l3], [.ref q], h) Q) := t_getr k_139_62
theorem k_139_65 : lk 139 65 = some (.iload_n 3, 66, 3, 0, .null) := by decide +kernel
theorem x_139_65 : Tr sc d 139 (65, [l0, l1, l2, some (.int x)], [.ref k0], h) Q = Tr sc d 139 (66, [l0, l1, l2, some (.int x)], [.int x, .ref k0], h) Q := t_iload_n k_139_65 rfl
theorem k_139_66 : lk 139 66 = some (.aaload, 67, 0, 0, .null) := by decide +kernel
theorem x_139_66 : Tr sc d 139 (66, [l0, l1, l2, l3], [.int i1, .ref k0], h) Q = (((okp h k0 14 || okp h k0 15) && inb i1 (LN k0)) = true ∧ ∃ q, hR h k0 i1.toNatClampNeg = some q ∧ Tr sc d 139 (67, [l0, l1, l2, l3], [.ref q], h) Q) := t_aald k_139_66
theorem k_139_67 : lk 139 67 = some (.lload_n 1, 68, 1, 0, .null) := by decide +kernel
theorem x_139_67 : Tr sc d 139 (67, [l0, some (.long xl), l2, l3], [.ref k0], h) Q = Tr sc d 139 (68, [l0, some (.long xl), l2, l3], [.long xl, .ref k0], h) Q := t_lload_n k_139_67 rfl
theorem k_139_68 : lk 139 68 = some (.invokevirtual 381, 71, 46, 1, .null) := by decide +kernel
theorem x_139_68 : Tr sc (d + 1) 139 (68, [l0, l1, l2, l3], [.long j1, .ref k0], h) Q = (okp h k0 5 = true ∧ Tr sc d 46 (ent0 46 [.ref k0, .long j1] h) (fun z => Tr sc (d + 1) 139 (71, [l0, l1, l2, l3], z.1.toList ++ [], z.2) Q)) := t_cv (as := [.long j1]) (r := []) k_139_68 rfl rfl (Nat.le_of_ble_eq_true rfl) (Nat.le_of_ble_eq_true rfl) (Nat.le_of_ble_eq_true rfl)
theorem k_139_71 : lk 139 71 = some (.lstore_n 1, 72, 1, 0, .null) := by decide +kernel
theorem x_139_71 : Tr sc d 139 (71, [l0, l1, l2, l3], [.long j0], h) Q = Tr sc d 139 (72, [cl2 l0, some (.long j0), none, l3], [], h) Q := t_lstore_n k_139_71 (Nat.le_of_ble_eq_true rfl)
theorem k_139_72 : lk 139 72 = some (.iinc 3 1, 75, 3, 0, .int 1) := by decide +kernel
theorem x_139_72 : Tr sc d 139 (72, [l0, l1, l2, some (.int x)], [], h) Q = Tr sc d 139 (75, [l0, l1, cl2 l2, some (.int (x + 1))], [], h) Q := t_inc k_139_72 rfl (Nat.le_of_ble_eq_true rfl)
theorem k_139_75 : lk 139 75 = some (.goto (-19), 78, 56, 0, .null) := by decide +kernel
theorem x_139_75 : Tr sc d 139 (75, [l0, l1, l2, l3], [], h) Q = Tr sc d 139 (56, [l0, l1, l2, l3], [], h) Q := t_go k_139_75 rfl
theorem k_139_78 : lk 139 78 = some (.lload_n 1, 79, 1, 0, .null) := by decide +kernel
theorem x_139_78 : Tr sc d 139 (78, [l0, some (.long xl), l2, l3], [], h) Q = Tr sc d 139 (79, [l0, some (.long xl), l2, l3], [.long xl], h) Q := t_lload_n k_139_78 rfl
theorem k_139_79 : lk 139 79 = some (.lreturn, 80, 0, 0, .null) := by decide +kernel
theorem x_139_79 : Tr sc d 139 (79, [l0, l1, l2, l3], [.long j0], h) Q = Q (some (.long j0), h) := t_ret k_139_79 (by rw [r_139]; rfl)
theorem e_139 : Tr sc d 139 (ent0 139 [.ref k0] h) Q = Tr sc d 139 (0, [some (.ref k0), none, none, none], [], h) Q := by
  have e : mL 139 = 4 := by decide +kernel
  unfold ent0
  rw [e]
  rfl
theorem r_140 : mR 140 = some .boolean := by decide +kernel
theorem k_140_0 : lk 140 0 = some (.iload_n 0, 1, 0, 0, .null) := by decide +kernel
theorem x_140_0 : Tr sc d 140 (0, [some (.int x)], [], h) Q = Tr sc d 140 (1, [some (.int x)], [.int x], h) Q := t_iload_n k_140_0 rfl
theorem k_140_1 : lk 140 1 = some (.ifCond .lt 13, 4, 14, 0, .null) := by decide +kernel
theorem x_140_1 : Tr sc d 140 (1, [l0], [.int i0], h) Q = if i0 < 0 then Tr sc d 140 (14, [l0], [], h) Q else Tr sc d 140 (4, [l0], [], h) Q := t_if k_140_1 rfl
theorem k_140_4 : lk 140 4 = some (.iload_n 0, 5, 0, 0, .null) := by decide +kernel
theorem x_140_4 : Tr sc d 140 (4, [some (.int x)], [], h) Q = Tr sc d 140 (5, [some (.int x)], [.int x], h) Q := t_iload_n k_140_4 rfl
theorem k_140_5 : lk 140 5 = some (.bipush 6, 7, 0, 0, .int 6) := by decide +kernel
theorem x_140_5 : Tr sc d 140 (5, [l0], [.int i0], h) Q = Tr sc d 140 (7, [l0], [.int 6, .int i0], h) Q := t_go k_140_5 rfl
theorem k_140_7 : lk 140 7 = some (.if_icmp .ge 7, 10, 14, 0, .null) := by decide +kernel
theorem x_140_7 : Tr sc d 140 (7, [l0], [.int i1, .int i0], h) Q = if i1 ≤ i0 then Tr sc d 140 (14, [l0], [], h) Q else Tr sc d 140 (10, [l0], [], h) Q := t_if k_140_7 rfl
theorem k_140_10 : lk 140 10 = some (.iconst 1, 11, 0, 0, .int 1) := by decide +kernel
theorem x_140_10 : Tr sc d 140 (10, [l0], [], h) Q = Tr sc d 140 (11, [l0], [.int 1], h) Q := t_go k_140_10 rfl
theorem k_140_11 : lk 140 11 = some (.goto 4, 14, 15, 0, .null) := by decide +kernel
theorem x_140_11 : Tr sc d 140 (11, [l0], [.int i0], h) Q = Tr sc d 140 (15, [l0], [.int i0], h) Q := t_go k_140_11 rfl
theorem k_140_14 : lk 140 14 = some (.iconst 0, 15, 0, 0, .int 0) := by decide +kernel
theorem x_140_14 : Tr sc d 140 (14, [l0], [], h) Q = Tr sc d 140 (15, [l0], [.int 0], h) Q := t_go k_140_14 rfl
theorem k_140_15 : lk 140 15 = some (.ireturn, 16, 0, 0, .null) := by decide +kernel
theorem x_140_15 : Tr sc d 140 (15, [l0], [.int i0], h) Q = (vp_nar .boolean i0 = i0 ∧ Q (some (.int i0), h)) := t_zret k_140_15 r_140
theorem e_140 : Tr sc d 140 (ent0 140 [.int i0] h) Q = Tr sc d 140 (0, [some (.int i0)], [], h) Q := by
  have e : mL 140 = 1 := by decide +kernel
  unfold ent0
  rw [e]
  rfl
theorem r_141 : mR 141 = some .boolean := by decide +kernel
theorem k_141_0 : lk 141 0 = some (.iload_n 0, 1, 0, 0, .null) := by decide +kernel
theorem x_141_0 : Tr sc d 141 (0, [some (.int x)], [], h) Q = Tr sc d 141 (1, [some (.int x)], [.int x], h) Q := t_iload_n k_141_0 rfl
theorem k_141_1 : lk 141 1 = some (.ifCond .lt 12, 4, 13, 0, .null) := by decide +kernel
theorem x_141_1 : Tr sc d 141 (1, [l0], [.int i0], h) Q = if i0 < 0 then Tr sc d 141 (13, [l0], [], h) Q else Tr sc d 141 (4, [l0], [], h) Q := t_if k_141_1 rfl
theorem k_141_4 : lk 141 4 = some (.iload_n 0, 5, 0, 0, .null) := by decide +kernel
theorem x_141_4 : Tr sc d 141 (4, [some (.int x)], [], h) Q = Tr sc d 141 (5, [some (.int x)], [.int x], h) Q := t_iload_n k_141_4 rfl
theorem k_141_5 : lk 141 5 = some (.iconst 4, 6, 0, 0, .int 4) := by decide +kernel
theorem x_141_5 : Tr sc d 141 (5, [l0], [.int i0], h) Q = Tr sc d 141 (6, [l0], [.int 4, .int i0], h) Q := t_go k_141_5 rfl
theorem k_141_6 : lk 141 6 = some (.if_icmp .ge 7, 9, 13, 0, .null) := by decide +kernel
theorem x_141_6 : Tr sc d 141 (6, [l0], [.int i1, .int i0], h) Q = if i1 ≤ i0 then Tr sc d 141 (13, [l0], [], h) Q else Tr sc d 141 (9, [l0], [], h) Q := t_if k_141_6 rfl
theorem k_141_9 : lk 141 9 = some (.iconst 1, 10, 0, 0, .int 1) := by decide +kernel
theorem x_141_9 : Tr sc d 141 (9, [l0], [], h) Q = Tr sc d 141 (10, [l0], [.int 1], h) Q := t_go k_141_9 rfl
theorem k_141_10 : lk 141 10 = some (.goto 4, 13, 14, 0, .null) := by decide +kernel
theorem x_141_10 : Tr sc d 141 (10, [l0], [.int i0], h) Q = Tr sc d 141 (14, [l0], [.int i0], h) Q := t_go k_141_10 rfl
theorem k_141_13 : lk 141 13 = some (.iconst 0, 14, 0, 0, .int 0) := by decide +kernel
theorem x_141_13 : Tr sc d 141 (13, [l0], [], h) Q = Tr sc d 141 (14, [l0], [.int 0], h) Q := t_go k_141_13 rfl
theorem k_141_14 : lk 141 14 = some (.ireturn, 15, 0, 0, .null) := by decide +kernel
theorem x_141_14 : Tr sc d 141 (14, [l0], [.int i0], h) Q = (vp_nar .boolean i0 = i0 ∧ Q (some (.int i0), h)) := t_zret k_141_14 r_141
theorem e_141 : Tr sc d 141 (ent0 141 [.int i0] h) Q = Tr sc d 141 (0, [some (.int i0)], [], h) Q := by
  have e : mL 141 = 1 := by decide +kernel
  unfold ent0
  rw [e]
  rfl
theorem r_142 : mR 142 = some .boolean := by decide +kernel
theorem k_142_0 : lk 142 0 = some (.iload_n 0, 1, 0, 0, .null) := by decide +kernel
theorem x_142_0 : Tr sc d 142 (0, [some (.int x)], [], h) Q = Tr sc d 142 (1, [some (.int x)], [.int x], h) Q := t_iload_n k_142_0 rfl
theorem k_142_1 : lk 142 1 = some (.ifCond .lt 13, 4, 14, 0, .null) := by decide +kernel
theorem x_142_1 : Tr sc d 142 (1, [l0], [.int i0], h) Q = if i0 < 0 then Tr sc d 142 (14, [l0], [], h) Q else Tr sc d 142 (4, [l0], [], h) Q := t_if k_142_1 rfl
theorem k_142_4 : lk 142 4 = some (.iload_n 0, 5, 0, 0, .null) := by decide +kernel
theorem x_142_4 : Tr sc d 142 (4, [some (.int x)], [], h) Q = Tr sc d 142 (5, [some (.int x)], [.int x], h) Q := t_iload_n k_142_4 rfl
theorem k_142_5 : lk 142 5 = some (.bipush 8, 7, 0, 0, .int 8) := by decide +kernel
theorem x_142_5 : Tr sc d 142 (5, [l0], [.int i0], h) Q = Tr sc d 142 (7, [l0], [.int 8, .int i0], h) Q := t_go k_142_5 rfl
theorem k_142_7 : lk 142 7 = some (.if_icmp .ge 7, 10, 14, 0, .null) := by decide +kernel
theorem x_142_7 : Tr sc d 142 (7, [l0], [.int i1, .int i0], h) Q = if i1 ≤ i0 then Tr sc d 142 (14, [l0], [], h) Q else Tr sc d 142 (10, [l0], [], h) Q := t_if k_142_7 rfl
theorem k_142_10 : lk 142 10 = some (.iconst 1, 11, 0, 0, .int 1) := by decide +kernel
theorem x_142_10 : Tr sc d 142 (10, [l0], [], h) Q = Tr sc d 142 (11, [l0], [.int 1], h) Q := t_go k_142_10 rfl
theorem k_142_11 : lk 142 11 = some (.goto 4, 14, 15, 0, .null) := by decide +kernel
theorem x_142_11 : Tr sc d 142 (11, [l0], [.int i0], h) Q = Tr sc d 142 (15, [l0], [.int i0], h) Q := t_go k_142_11 rfl
theorem k_142_14 : lk 142 14 = some (.iconst 0, 15, 0, 0, .int 0) := by decide +kernel
theorem x_142_14 : Tr sc d 142 (14, [l0], [], h) Q = Tr sc d 142 (15, [l0], [.int 0], h) Q := t_go k_142_14 rfl
theorem k_142_15 : lk 142 15 = some (.ireturn, 16, 0, 0, .null) := by decide +kernel
theorem x_142_15 : Tr sc d 142 (15, [l0], [.int i0], h) Q = (vp_nar .boolean i0 = i0 ∧ Q (some (.int i0), h)) := t_zret k_142_15 r_142
theorem e_142 : Tr sc d 142 (ent0 142 [.int i0] h) Q = Tr sc d 142 (0, [some (.int i0)], [], h) Q := by
  have e : mL 142 = 1 := by decide +kernel
  unfold ent0
  rw [e]
  rfl
theorem r_143 : mR 143 = some .boolean := by decide +kernel
theorem k_143_0 : lk 143 0 = some (.iload_n 0, 1, 0, 0, .null) := by decide +kernel
theorem x_143_0 : Tr sc d 143 (0, [some (.int x), l1], [], h) Q = Tr sc d 143 (1, [some (.int x), l1], [.int x], h) Q := t_iload_n k_143_0 rfl
theorem k_143_1 : lk 143 1 = some (.ifCond .lt 12, 4, 13, 0, .null) := by decide +kernel
theorem x_143_1 : Tr sc d 143 (1, [l0, l1], [.int i0], h) Q = if i0 < 0 then Tr sc d 143 (13, [l0, l1], [], h) Q else Tr sc d 143 (4, [l0, l1], [], h) Q := t_if k_143_1 rfl
theorem k_143_4 : lk 143 4 = some (.iload_n 0, 5, 0, 0, .null) := by decide +kernel
theorem x_143_4 : Tr sc d 143 (4, [some (.int x), l1], [], h) Q = Tr sc d 143 (5, [some (.int x), l1], [.int x], h) Q := t_iload_n k_143_4 rfl
theorem k_143_5 : lk 143 5 = some (.iload_n 1, 6, 1, 0, .null) := by decide +kernel
theorem x_143_5 : Tr sc d 143 (5, [l0, some (.int x)], [.int i0], h) Q = Tr sc d 143 (6, [l0, some (.int x)], [.int x, .int i0], h) Q := t_iload_n k_143_5 rfl
theorem k_143_6 : lk 143 6 = some (.if_icmp .gt 7, 9, 13, 0, .null) := by decide +kernel
theorem x_143_6 : Tr sc d 143 (6, [l0, l1], [.int i1, .int i0], h) Q = if i1 < i0 then Tr sc d 143 (13, [l0, l1], [], h) Q else Tr sc d 143 (9, [l0, l1], [], h) Q := t_if k_143_6 rfl
theorem k_143_9 : lk 143 9 = some (.iconst 1, 10, 0, 0, .int 1) := by decide +kernel
theorem x_143_9 : Tr sc d 143 (9, [l0, l1], [], h) Q = Tr sc d 143 (10, [l0, l1], [.int 1], h) Q := t_go k_143_9 rfl
theorem k_143_10 : lk 143 10 = some (.goto 4, 13, 14, 0, .null) := by decide +kernel
theorem x_143_10 : Tr sc d 143 (10, [l0, l1], [.int i0], h) Q = Tr sc d 143 (14, [l0, l1], [.int i0], h) Q := t_go k_143_10 rfl
theorem k_143_13 : lk 143 13 = some (.iconst 0, 14, 0, 0, .int 0) := by decide +kernel
theorem x_143_13 : Tr sc d 143 (13, [l0, l1], [], h) Q = Tr sc d 143 (14, [l0, l1], [.int 0], h) Q := t_go k_143_13 rfl
theorem k_143_14 : lk 143 14 = some (.ireturn, 15, 0, 0, .null) := by decide +kernel
theorem x_143_14 : Tr sc d 143 (14, [l0, l1], [.int i0], h) Q = (vp_nar .boolean i0 = i0 ∧ Q (some (.int i0), h)) := t_zret k_143_14 r_143
theorem e_143 : Tr sc d 143 (ent0 143 [.int i0, .int i1] h) Q = Tr sc d 143 (0, [some (.int i0), some (.int i1)], [], h) Q := by
  have e : mL 143 = 2 := by decide +kernel
  unfold ent0
  rw [e]
  rfl
theorem r_144 : mR 144 = some .int := by decide +kernel
theorem k_144_0 : lk 144 0 = some (.aload_n 0, 1, 0, 0, .null) := by decide +kernel
theorem x_144_0 : Tr sc d 144 (0, [some (.ref xk), l1], [], h) Q = Tr sc d 144 (1, [some (.ref xk), l1], [.ref xk], h) Q := t_aload_n k_144_0 rfl
theorem k_144_1 : lk 144 1 = some (.iload_n 1, 2, 1, 0, .null) := by decide +kernel
theorem x_144_1 : Tr sc d 144 (1, [l0, some (.int x)], [.ref k0], h) Q = Tr sc d 144 (2, [l0, some (.int x)], [.int x, .ref k0], h) Q := t_iload_n k_144_1 rfl
theorem k_144_2 : lk 144 2 = some (.putfield 94, 5, 9, 14, .int 0) := by decide +kernel
theorem x_144_2 : Tr sc d 144 (2, [l0, l1], [.int i1, .ref k0], h) Q = (okp h k0 9 = true ∧ Tr sc d 144 (5, [l0, l1], [], (sI h k0 14 i1)) Q) := t_gd k_144_2 rfl
theorem k_144_5 : lk 144 5 = some (.aload_n 0, 6, 0, 0, .null) := by decide +kernel
theorem x_144_5 : Tr sc d 144 (5, [some (.ref xk), l1], [], h) Q = Tr sc d 144 (6, [some (.ref xk), l1], [.ref xk], h) Q := t_aload_n k_144_5 rfl
theorem k_144_6 : lk 144 6 = some (.getfield 90, 9, 9, 13, .null) := by decide +kernel
theorem x_144_6 : Tr sc d 144 (6, [l0, l1], [.ref k0], h) Q = (okp h k0 9 = true ∧ ∃ q, hR h k0 13 = some q ∧ Tr sc d 144 (9, [l0, l1], [.ref q], h) Q) := t_getr k_144_6
theorem k_144_9 : lk 144 9 = some (.iload_n 1, 10, 1, 0, .null) := by decide +kernel
theorem x_144_9 : Tr sc d 144 (9, [l0, some (.int x)], [.ref k0], h) Q = Tr sc d 144 (10, [l0, some (.int x)], [.int x, .ref k0], h) Q := t_iload_n k_144_9 rfl
theorem k_144_10 : lk 144 10 = some (.dup2, 11, 0, 0, .null) := by decide +kernel
theorem x_144_10 : Tr sc d 144 (10, [l0, l1], [.int i1, .ref k0], h) Q = Tr sc d 144 (11, [l0, l1], [.int i1, .ref k0, .int i1, .ref k0], h) Q := t_go k_144_10 rfl
theorem k_144_11 : lk 144 11 = some (.iaload, 12, 0, 0, .null) := by decide +kernel
theorem x_144_11 : Tr sc d 144 (11, [l0, l1], [.int i3, .ref k2, .int i1, .ref k0], h) Q = (iOk sc h k2 i3 ∧ Tr sc d 144 (12, [l0, l1], [.int (iRd sc h k2 i3), .int i1, .ref k0], h) Q) := t_iald k_144_11
theorem k_144_12 : lk 144 12 = some (.iconst 1, 13, 0, 0, .int 1) := by decide +kernel
theorem x_144_12 : Tr sc d 144 (12, [l0, l1], [.int i2, .int i1, .ref k0], h) Q = Tr sc d 144 (13, [l0, l1], [.int 1, .int i2, .int i1, .ref k0], h) Q := t_go k_144_12 rfl
theorem k_144_13 : lk 144 13 = some (.iadd, 14, 0, 0, .null) := by decide +kernel
theorem x_144_13 : Tr sc d 144 (13, [l0, l1], [.int i3, .int i2, .int i1, .ref k0], h) Q = Tr sc d 144 (14, [l0, l1], [.int (i2 + i3), .int i1, .ref k0], h) Q := t_go k_144_13 rfl
theorem k_144_14 : lk 144 14 = some (.iastore, 15, 0, 0, .null) := by decide +kernel
theorem x_144_14 : Tr sc d 144 (14, [l0, l1], [.int i2, .int i1, .ref k0], h) Q = ((okp h k0 11 && inb i1 (LN k0)) = true ∧ Tr sc d 144 (15, [l0, l1], [], (sI h k0 i1.toNatClampNeg i2)) Q) := t_gd k_144_14 rfl
theorem k_144_15 : lk 144 15 = some (.bipush (-3), 17, 0, 0, .int (-3)) := by decide +kernel
theorem x_144_15 : Tr sc d 144 (15, [l0, l1], [], h) Q = Tr sc d 144 (17, [l0, l1], [.int (-3)], h) Q := t_go k_144_15 rfl
theorem k_144_17 : lk 144 17 = some (.ireturn, 18, 0, 0, .null) := by decide +kernel
theorem x_144_17 : Tr sc d 144 (17, [l0, l1], [.int i0], h) Q = Q (some (.int i0), h) := t_ret k_144_17 (by rw [r_144]; rfl)
theorem e_144 : Tr sc d 144 (ent0 144 [.ref k0, .int i1] h) Q = Tr sc d 144 (0, [some (.ref k0), some (.int i1)], [], h) Q := by
  have e : mL 144 = 2 := by decide +kernel
  unfold ent0
  rw [e]
  rfl
theorem r_145 : mR 145 = some .int := by decide +kernel
theorem k_145_0 : lk 145 0 = some (.iload_n 1, 1, 1, 0, .null) := by decide +kernel
theorem x_145_0 : Tr sc d 145 (0, [l0, some (.int x), l2], [], h) Q = Tr sc d 145 (1, [l0, some (.int x), l2], [.int x], h) Q := t_iload_n k_145_0 rfl
theorem k_145_1 : lk 145 1 = some (.invokestatic 159, 4, 142, 1, .null) := by decide +kernel
theorem x_145_1 : Tr sc (d + 1) 145 (1, [l0, l1, l2], [.int i0], h) Q = Tr sc d 142 (ent0 142 [.int i0] h) (fun z => Tr sc (d + 1) 145 (4, [l0, l1, l2], z.1.toList ++ [], z.2) Q) := t_cs (as := [.int i0]) (r := []) k_145_1 (by decide) rfl rfl (Nat.le_of_ble_eq_true rfl) (Nat.le_of_ble_eq_true rfl)
theorem k_145_4 : lk 145 4 = some (.ifCond .eq 7, 7, 11, 0, .null) := by decide +kernel
theorem x_145_4 : Tr sc d 145 (4, [l0, l1, l2], [.int i0], h) Q = if i0 = 0 then Tr sc d 145 (11, [l0, l1, l2], [], h) Q else Tr sc d 145 (7, [l0, l1, l2], [], h) Q := t_if k_145_4 rfl
theorem k_145_7 : lk 145 7 = some (.iload_n 2, 8, 2, 0, .null) := by decide +kernel
theorem x_145_7 : Tr sc d 145 (7, [l0, l1, some (.int x)], [], h) Q = Tr sc d 145 (8, [l0, l1, some (.int x)], [.int x], h) Q := t_iload_n k_145_7 rfl
theorem k_145_8 : lk 145 8 = some (.ifCond .ne 5, 11, 13, 0, .null) := by decide +kernel
theorem x_145_8 : Tr sc d 145 (8, [l0, l1, l2], [.int i0], h) Q = if i0 = 0 then Tr sc d 145 (11, [l0, l1, l2], [], h) Q else Tr sc d 145 (13, [l0, l1, l2], [], h) Q := t_if k_145_8 rfl
theorem k_145_11 : lk 145 11 = some (.iconst (-1), 12, 0, 0, .int (-1)) := by decide +kernel
theorem x_145_11 : Tr sc d 145 (11, [l0, l1, l2], [], h) Q = Tr sc d 145 (12, [l0, l1, l2], [.int (-1)], h) Q := t_go k_145_11 rfl
theorem k_145_12 : lk 145 12 = some (.ireturn, 13, 0, 0, .null) := by decide +kernel
theorem x_145_12 : Tr sc d 145 (12, [l0, l1, l2], [.int i0], h) Q = Q (some (.int i0), h) := t_ret k_145_12 (by rw [r_145]; rfl)
theorem k_145_13 : lk 145 13 = some (.aload_n 0, 14, 0, 0, .null) := by decide +kernel
theorem x_145_13 : Tr sc d 145 (13, [some (.ref xk), l1, l2], [], h) Q = Tr sc d 145 (14, [some (.ref xk), l1, l2], [.ref xk], h) Q := t_aload_n k_145_13 rfl
theorem k_145_14 : lk 145 14 = some (.getfield 20, 17, 9, 2, .null) := by decide +kernel
theorem x_145_14 : Tr sc d 145 (14, [l0, l1, l2], [.ref k0], h) Q = (okp h k0 9 = true ∧ ∃ q, hR h k0 2 = some q ∧ Tr sc d 145 (17, [l0, l1, l2], [.ref q], h) Q) := t_getr k_145_14
theorem k_145_17 : lk 145 17 = some (.iload_n 1, 18, 1, 0, .null) := by decide +kernel
theorem x_145_17 : Tr sc d 145 (17, [l0, some (.int x), l2], [.ref k0], h) Q = Tr sc d 145 (18, [l0, some (.int x), l2], [.int x, .ref k0], h) Q := t_iload_n k_145_17 rfl
theorem k_145_18 : lk 145 18 = some (.aaload, 19, 0, 0, .null) := by decide +kernel
theorem x_145_18 : Tr sc d 145 (18, [l0, l1, l2], [.int i1, .ref k0], h) Q = (((okp h k0 14 || okp h k0 15) && inb i1 (LN k0)) = true ∧ ∃ q, hR h k0 i1.toNatClampNeg = some q ∧ Tr sc d 145 (19, [l0, l1, l2], [.ref q], h) Q) := t_aald k_145_18
theorem k_145_19 : lk 145 19 = some (.invokevirtual 366, 22, 48, 0, .null) := by decide +kernel
theorem x_145_19 : Tr sc (d + 1) 145 (19, [l0, l1, l2], [.ref k0], h) Q = (okp h k0 6 = true ∧ Tr sc d 48 (ent0 48 [.ref k0] h) (fun z => Tr sc (d + 1) 145 (22, [l0, l1, l2], z.1.toList ++ [], z.2) Q)) := t_cv (as := []) (r := []) k_145_19 rfl rfl (Nat.le_of_ble_eq_true rfl) (Nat.le_of_ble_eq_true rfl) (Nat.le_of_ble_eq_true rfl)
theorem k_145_22 : lk 145 22 = some (.ifCond .eq 11, 25, 33, 0, .null) := by decide +kernel
theorem x_145_22 : Tr sc d 145 (22, [l0, l1, l2], [.int i0], h) Q = if i0 = 0 then Tr sc d 145 (33, [l0, l1, l2], [], h) Q else Tr sc d 145 (25, [l0, l1, l2], [], h) Q := t_if k_145_22 rfl
theorem k_145_25 : lk 145 25 = some (.aload_n 0, 26, 0, 0, .null) := by decide +kernel
theorem x_145_25 : Tr sc d 145 (25, [some (.ref xk), l1, l2], [], h) Q = Tr sc d 145 (26, [some (.ref xk), l1, l2], [.ref xk], h) Q := t_aload_n k_145_25 rfl
theorem k_145_26 : lk 145 26 = some (.iconst 1, 27, 0, 0, .int 1) := by decide +kernel
theorem x_145_26 : Tr sc d 145 (26, [l0, l1, l2], [.ref k0], h) Q = Tr sc d 145 (27, [l0, l1, l2], [.int 1, .ref k0], h) Q := t_go k_145_26 rfl
theorem k_145_27 : lk 145 27 = some (.invokevirtual 118, 30, 144, 1, .null) := by decide +kernel
theorem x_145_27 : Tr sc (d + 1) 145 (27, [l0, l1, l2], [.int i1, .ref k0], h) Q = (okp h k0 9 = true ∧ Tr sc d 144 (ent0 144 [.ref k0, .int i1] h) (fun z => Tr sc (d + 1) 145 (30, [l0, l1, l2], z.1.toList ++ [], z.2) Q)) := t_cv (as := [.int i1]) (r := []) k_145_27 rfl rfl (Nat.le_of_ble_eq_true rfl) (Nat.le_of_ble_eq_true rfl) (Nat.le_of_ble_eq_true rfl)
theorem k_145_30 : lk 145 30 = some (.goto 4, 33, 34, 0, .null) := by decide +kernel
theorem x_145_30 : Tr sc d 145 (30, [l0, l1, l2], [.int i0], h) Q = Tr sc d 145 (34, [l0, l1, l2], [.int i0], h) Q := t_go k_145_30 rfl
theorem k_145_33 : lk 145 33 = some (.iconst 0, 34, 0, 0, .int 0) := by decide +kernel
theorem x_145_33 : Tr sc d 145 (33, [l0, l1, l2], [], h) Q = Tr sc d 145 (34, [l0, l1, l2], [.int 0], h) Q := t_go k_145_33 rfl
theorem k_145_34 : lk 145 34 = some (.ireturn, 35, 0, 0, .null) := by decide +kernel
theorem x_145_34 : Tr sc d 145 (34, [l0, l1, l2], [.int i0], h) Q = Q (some (.int i0), h) := t_ret k_145_34 (by rw [r_145]; rfl)
theorem e_145 : Tr sc d 145 (ent0 145 [.ref k0, .int i1, .int i2] h) Q = Tr sc d 145 (0, [some (.ref k0), some (.int i1), some (.int i2)], [], h) Q := by
  have e : mL 145 = 3 := by decide +kernel
  unfold ent0
  rw [e]
  rfl
theorem r_146 : mR 146 = some .int := by decide +kernel
theorem k_146_0 : lk 146 0 = some (.aload_n 0, 1, 0, 0, .null) := by decide +kernel
theorem x_146_0 : Tr sc d 146 (0, [some (.ref xk), l1, l2, l3], [], h) Q = Tr sc d 146 (1, [some (.ref xk), l1, l2, l3], [.ref xk], h) Q := t_aload_n k_146_0 rfl
theorem k_146_1 : lk 146 1 = some (.iload_n 1, 2, 1, 0, .null) := by decide +kernel
theorem x_146_1 : Tr sc d 146 (1, [l0, some (.int x), l2, l3], [.ref k0], h) Q = Tr sc d 146 (2, [l0, some (.int x), l2, l3], [.int x, .ref k0], h) Q := t_iload_n k_146_1 rfl
theorem k_146_2 : lk 146 2 = some (.iload_n 2, 3, 2, 0, .null) := by decide +kernel
theorem x_146_2 : Tr sc d 146 (2, [l0, l1, some (.int x), l3], [.int i1, .ref k0], h) Q = Tr sc d 146 (3, [l0, l1, some (.int x), l3], [.int x, .int i1, .ref k0], h) Q := t_iload_n k_146_2 rfl
theorem k_146_3 : lk 146 3 = some (.invokevirtual 196, 6, 145, 2, .null) := by decide +kernel
theorem x_146_3 : Tr sc (d + 1) 146 (3, [l0, l1, l2, l3], [.int i2, .int i1, .ref k0], h) Q = (okp h k0 9 = true ∧ Tr sc d 145 (ent0 145 [.ref k0, .int i1, .int i2] h) (fun z => Tr sc (d + 1) 146 (6, [l0, l1, l2, l3], z.1.toList ++ [], z.2) Q)) := t_cv (as := [.int i1, .int i2]) (r := []) k_146_3 rfl rfl (Nat.le_of_ble_eq_true rfl) (Nat.le_of_ble_eq_true rfl) (Nat.le_of_ble_eq_true rfl)
theorem k_146_6 : lk 146 6 = some (.istore_n 3, 7, 3, 0, .null) := by decide +kernel
theorem x_146_6 : Tr sc d 146 (6, [l0, l1, l2, l3], [.int i0], h) Q = Tr sc d 146 (7, [l0, l1, cl2 l2, some (.int i0)], [], h) Q := t_istore_n k_146_6 (Nat.le_of_ble_eq_true rfl)
theorem k_146_7 : lk 146 7 = some (.iload_n 3, 8, 3, 0, .null) := by decide +kernel
theorem x_146_7 : Tr sc d 146 (7, [l0, l1, l2, some (.int x)], [], h) Q = Tr sc d 146 (8, [l0, l1, l2, some (.int x)], [.int x], h) Q := t_iload_n k_146_7 rfl
theorem k_146_8 : lk 146 8 = some (.ifCond .eq 5, 11, 13, 0, .null) := by decide +kernel
theorem x_146_8 : Tr sc d 146 (8, [l0, l1, l2, l3], [.int i0], h) Q = if i0 = 0 then Tr sc d 146 (13, [l0, l1, l2, l3], [], h) Q else Tr sc d 146 (11, [l0, l1, l2, l3], [], h) Q := t_if k_146_8 rfl
theorem k_146_11 : lk 146 11 = some (.iload_n 3, 12, 3, 0, .null) := by decide +kernel
theorem x_146_11 : Tr sc d 146 (11, [l0, l1, l2, some (.int x)], [], h) Q = Tr sc d 146 (12, [l0, l1, l2, some (.int x)], [.int x], h) Q := t_iload_n k_146_11 rfl
theorem k_146_12 : lk 146 12 = some (.ireturn, 13, 0, 0, .null) := by decide +kernel
theorem x_146_12 : Tr sc d 146 (12, [l0, l1, l2, l3], [.int i0], h) Q = Q (some (.int i0), h) := t_ret k_146_12 (by rw [r_146]; rfl)
theorem k_146_13 : lk 146 13 = some (.aload_n 0, 14, 0, 0, .null) := by decide +kernel
theorem x_146_13 : Tr sc d 146 (13, [some (.ref xk), l1, l2, l3], [], h) Q = Tr sc d 146 (14, [some (.ref xk), l1, l2, l3], [.ref xk], h) Q := t_aload_n k_146_13 rfl
theorem k_146_14 : lk 146 14 = some (.getfield 20, 17, 9, 2, .null) := by decide +kernel
theorem x_146_14 : Tr sc d 146 (14, [l0, l1, l2, l3], [.ref k0], h) Q = (okp h k0 9 = true ∧ ∃ q, hR h k0 2 = some q ∧ Tr sc d 146 (17, [l0, l1, l2, l3], [.ref q], h) Q) := t_getr k_146_14
theorem k_146_17 : lk 146 17 = some (.iload_n 1, 18, 1, 0, .null) := by decide +kernel
theorem x_146_17 : Tr sc d 146 (17, [l0, some (.int x), l2, l3], [.ref k0], h) Q = Tr sc d 146 (18, [l0, some (.int x), l2, l3], [.int x, .ref k0], h) Q := t_iload_n k_146_17 rfl
theorem k_146_18 : lk 146 18 = some (.aaload, 19, 0, 0, .null) := by decide +kernel
theorem x_146_18 : Tr sc d 146 (18, [l0, l1, l2, l3], [.int i1, .ref k0], h) Q = (((okp h k0 14 || okp h k0 15) && inb i1 (LN k0)) = true ∧ ∃ q, hR h k0 i1.toNatClampNeg = some q ∧ Tr sc d 146 (19, [l0, l1, l2, l3], [.ref q], h) Q) := t_aald k_146_18
theorem k_146_19 : lk 146 19 = some (.invokevirtual 218, 22, 49, 0, .null) := by decide +kernel
theorem x_146_19 : Tr sc (d + 1) 146 (19, [l0, l1, l2, l3], [.ref k0], h) Q = (okp h k0 6 = true ∧ Tr sc d 49 (ent0 49 [.ref k0] h) (fun z => Tr sc (d + 1) 146 (22, [l0, l1, l2, l3], z.1.toList ++ [], z.2) Q)) := t_cv (as := []) (r := []) k_146_19 rfl rfl (Nat.le_of_ble_eq_true rfl) (Nat.le_of_ble_eq_true rfl) (Nat.le_of_ble_eq_true rfl)
theorem k_146_22 : lk 146 22 = some (.ifCond .eq 7, 25, 29, 0, .null) := by decide +kernel
theorem x_146_22 : Tr sc d 146 (22, [l0, l1, l2, l3], [.int i0], h) Q = if i0 = 0 then Tr sc d 146 (29, [l0, l1, l2, l3], [], h) Q else Tr sc d 146 (25, [l0, l1, l2, l3], [], h) Q := t_if k_146_22 rfl
theorem k_146_25 : lk 146 25 = some (.iconst 0, 26, 0, 0, .int 0) := by decide +kernel
theorem x_146_25 : Tr sc d 146 (25, [l0, l1, l2, l3], [], h) Q = Tr sc d 146 (26, [l0, l1, l2, l3], [.int 0], h) Q := t_go k_146_25 rfl
theorem k_146_26 : lk 146 26 = some (.goto 8, 29, 34, 0, .null) := by decide +kernel
theorem x_146_26 : Tr sc d 146 (26, [l0, l1, l2, l3], [.int i0], h) Q = Tr sc d 146 (34, [l0, l1, l2, l3], [.int i0], h) Q := t_go k_146_26 rfl
theorem k_146_29 : lk 146 29 = some (.aload_n 0, 30, 0, 0, .null) := by decide +kernel
theorem x_146_29 : Tr sc d 146 (29, [some (.ref xk), l1, l2, l3], [], h) Q = Tr sc d 146 (30, [some (.ref xk), l1, l2, l3], [.ref xk], h) Q := t_aload_n k_146_29 rfl
theorem k_146_30 : lk 146 30 = some (.iconst 3, 31, 0, 0, .int 3) := by decide +kernel
theorem x_146_30 : Tr sc d 146 (30, [l0, l1, l2, l3], [.ref k0], h) Q = Tr sc d 146 (31, [l0, l1, l2, l3], [.int 3, .ref k0], h) Q := t_go k_146_30 rfl
theorem k_146_31 : lk 146 31 = some (.invokevirtual 118, 34, 144, 1, .null) := by decide +kernel
theorem x_146_31 : Tr sc (d + 1) 146 (31, [l0, l1, l2, l3], [.int i1, .ref k0], h) Q = (okp h k0 9 = true ∧ Tr sc d 144 (ent0 144 [.ref k0, .int i1] h) (fun z => Tr sc (d + 1) 146 (34, [l0, l1, l2, l3], z.1.toList ++ [], z.2) Q)) := t_cv (as := [.int i1]) (r := []) k_146_31 rfl rfl (Nat.le_of_ble_eq_true rfl) (Nat.le_of_ble_eq_true rfl) (Nat.le_of_ble_eq_true rfl)
theorem k_146_34 : lk 146 34 = some (.ireturn, 35, 0, 0, .null) := by decide +kernel
theorem x_146_34 : Tr sc d 146 (34, [l0, l1, l2, l3], [.int i0], h) Q = Q (some (.int i0), h) := t_ret k_146_34 (by rw [r_146]; rfl)
theorem e_146 : Tr sc d 146 (ent0 146 [.ref k0, .int i1, .int i2] h) Q = Tr sc d 146 (0, [some (.ref k0), some (.int i1), some (.int i2), none], [], h) Q := by
  have e : mL 146 = 4 := by decide +kernel
  unfold ent0
  rw [e]
  rfl
theorem r_147 : mR 147 = some .int := by decide +kernel
theorem k_147_0 : lk 147 0 = some (.iload_n 1, 1, 1, 0, .null) := by decide +kernel
theorem x_147_0 : Tr sc d 147 (0, [l0, some (.int x), l2, l3, l4, l5], [], h) Q = Tr sc d 147 (1, [l0, some (.int x), l2, l3, l4, l5], [.int x], h) Q := t_iload_n k_147_0 rfl
theorem k_147_1 : lk 147 1 = some (.invokestatic 159, 4, 142, 1, .null) := by decide +kernel
theorem x_147_1 : Tr sc (d + 1) 147 (1, [l0, l1, l2, l3, l4, l5], [.int i0], h) Q = Tr sc d 142 (ent0 142 [.int i0] h) (fun z => Tr sc (d + 1) 147 (4, [l0, l1, l2, l3, l4, l5], z.1.toList ++ [], z.2) Q) := t_cs (as := [.int i0]) (r := []) k_147_1 (by decide) rfl rfl (Nat.le_of_ble_eq_true rfl) (Nat.le_of_ble_eq_true rfl)
theorem k_147_4 : lk 147 4 = some (.ifCond .eq 15, 7, 19, 0, .null) := by decide +kernel
theorem x_147_4 : Tr sc d 147 (4, [l0, l1, l2, l3, l4, l5], [.int i0], h) Q = if i0 = 0 then Tr sc d 147 (19, [l0, l1, l2, l3, l4, l5], [], h) Q else Tr sc d 147 (7, [l0, l1, l2, l3, l4, l5], [], h) Q := t_if k_147_4 rfl
theorem k_147_7 : lk 147 7 = some (.iload_n 2, 8, 2, 0, .null) := by decide +kernel
theorem x_147_7 : Tr sc d 147 (7, [l0, l1, some (.int x), l3, l4, l5], [], h) Q = Tr sc d 147 (8, [l0, l1, some (.int x), l3, l4, l5], [.int x], h) Q := t_iload_n k_147_7 rfl
theorem k_147_8 : lk 147 8 = some (.invokestatic 114, 11, 140, 1, .null) := by decide +kernel
theorem x_147_8 : Tr sc (d + 1) 147 (8, [l0, l1, l2, l3, l4, l5], [.int i0], h) Q = Tr sc d 140 (ent0 140 [.int i0] h) (fun z => Tr sc (d + 1) 147 (11, [l0, l1, l2, l3, l4, l5], z.1.toList ++ [], z.2) Q) := t_cs (as := [.int i0]) (r := []) k_147_8 (by decide) rfl rfl (Nat.le_of_ble_eq_true rfl) (Nat.le_of_ble_eq_true rfl)
theorem k_147_11 : lk 147 11 = some (.ifCond .eq 8, 14, 19, 0, .null) := by decide +kernel
theorem x_147_11 : Tr sc d 147 (11, [l0, l1, l2, l3, l4, l5], [.int i0], h) Q = if i0 = 0 then Tr sc d 147 (19, [l0, l1, l2, l3, l4, l5], [], h) Q else Tr sc d 147 (14, [l0, l1, l2, l3, l4, l5], [], h) Q := t_if k_147_11 rfl
theorem k_147_14 : lk 147 14 = some (.iload 4, 16, 4, 0, .null) := by decide +kernel
theorem x_147_14 : Tr sc d 147 (14, [l0, l1, l2, l3, some (.int x), l5], [], h) Q = Tr sc d 147 (16, [l0, l1, l2, l3, some (.int x), l5], [.int x], h) Q := t_iload k_147_14 rfl
theorem k_147_16 : lk 147 16 = some (.ifCond .ne 5, 19, 21, 0, .null) := by decide +kernel
theorem x_147_16 : Tr sc d 147 (16, [l0, l1, l2, l3, l4, l5], [.int i0], h) Q = if i0 = 0 then Tr sc d 147 (19, [l0, l1, l2, l3, l4, l5], [], h) Q else Tr sc d 147 (21, [l0, l1, l2, l3, l4, l5], [], h) Q := t_if k_147_16 rfl
theorem k_147_19 : lk 147 19 = some (.iconst (-1), 20, 0, 0, .int (-1)) := by decide +kernel
theorem x_147_19 : Tr sc d 147 (19, [l0, l1, l2, l3, l4, l5], [], h) Q = Tr sc d 147 (20, [l0, l1, l2, l3, l4, l5], [.int (-1)], h) Q := t_go k_147_19 rfl
theorem k_147_20 : lk 147 20 = some (.ireturn, 21, 0, 0, .null) := by decide +kernel
theorem x_147_20 : Tr sc d 147 (20, [l0, l1, l2, l3, l4, l5], [.int i0], h) Q = Q (some (.int i0), h) := t_ret k_147_20 (by rw [r_147]; rfl)
theorem k_147_21 : lk 147 21 = some (.aload_n 0, 22, 0, 0, .null) := by decide +kernel
theorem x_147_21 : Tr sc d 147 (21, [some (.ref xk), l1, l2, l3, l4, l5], [], h) Q = Tr sc d 147 (22, [some (.ref xk), l1, l2, l3, l4, l5], [.ref xk], h) Q := t_aload_n k_147_21 rfl
theorem k_147_22 : lk 147 22 = some (.getfield 20, 25, 9, 2, .null) := by decide +kernel
theorem x_147_22 : Tr sc d 147 (22, [l0, l1, l2, l3, l4, l5], [.ref k0], h) Q = (okp h k0 9 = true ∧ ∃ q, hR h k0 2 = some q ∧ Tr sc d 147 (25, [l0, l1, l2, l3, l4, l5], [.ref q], h) Q) := t_getr k_147_22
theorem k_147_25 : lk 147 25 = some (.iload_n 1, 26, 1, 0, .null) := by decide +kernel
theorem x_147_25 : Tr sc d 147 (25, [l0, some (.int x), l2, l3, l4, l5], [.ref k0], h) Q = Tr sc d 147 (26, [l0, some (.int x), l2, l3, l4, l5], [.int x, .ref k0], h) Q := t_iload_n k_147_25 rfl
theorem k_147_26 : lk 147 26 = some (.aaload, 27, 0, 0, .null) := by decide +kernel
theorem x_147_26 : Tr sc d 147 (26, [l0, l1, l2, l3, l4, l5], [.int i1, .ref k0], h) Q = (((okp h k0 14 || okp h k0 15) && inb i1 (LN k0)) = true ∧ ∃ q, hR h k0 i1.toNatClampNeg = some q ∧ Tr sc d 147 (27, [l0, l1, l2, l3, l4, l5], [.ref q], h) Q) := t_aald k_147_26
theorem k_147_27 : lk 147 27 = some (.invokevirtual 366, 30, 48, 0, .null) := by decide +kernel
theorem x_147_27 : Tr sc (d + 1) 147 (27, [l0, l1, l2, l3, l4, l5], [.ref k0], h) Q = (okp h k0 6 = true ∧ Tr sc d 48 (ent0 48 [.ref k0] h) (fun z => Tr sc (d + 1) 147 (30, [l0, l1, l2, l3, l4, l5], z.1.toList ++ [], z.2) Q)) := t_cv (as := []) (r := []) k_147_27 rfl rfl (Nat.le_of_ble_eq_true rfl) (Nat.le_of_ble_eq_true rfl) (Nat.le_of_ble_eq_true rfl)
theorem k_147_30 : lk 147 30 = some (.ifCond .ne 15, 33, 45, 0, .null) := by decide +kernel
theorem x_147_30 : Tr sc d 147 (30, [l0, l1, l2, l3, l4, l5], [.int i0], h) Q = if i0 = 0 then Tr sc d 147 (33, [l0, l1, l2, l3, l4, l5], [], h) Q else Tr sc d 147 (45, [l0, l1, l2, l3, l4, l5], [], h) Q := t_if k_147_30 rfl
theorem k_147_33 : lk 147 33 = some (.aload_n 0, 34, 0, 0, .null) := by decide +kernel
theorem x_147_33 : Tr sc d 147 (33, [some (.ref xk), l1, l2, l3, l4, l5], [], h) Q = Tr sc d 147 (34, [some (.ref xk), l1, l2, l3, l4, l5], [.ref xk], h) Q := t_aload_n k_147_33 rfl
theorem k_147_34 : lk 147 34 = some (.getfield 11, 37, 9, 0, .null) := by decide +kernel
theorem x_147_34 : Tr sc d 147 (34, [l0, l1, l2, l3, l4, l5], [.ref k0], h) Q = (okp h k0 9 = true ∧ ∃ q, hR h k0 0 = some q ∧ Tr sc d 147 (37, [l0, l1, l2, l3, l4, l5], [.ref q], h) Q) := t_getr k_147_34
theorem k_147_37 : lk 147 37 = some (.iload_n 2, 38, 2, 0, .null) := by decide +kernel
theorem x_147_37 : Tr sc d 147 (37, [l0, l1, some (.int x), l3, l4, l5], [.ref k0], h) Q = Tr sc d 147 (38, [l0, l1, some (.int x), l3, l4, l5], [.int x, .ref k0], h) Q := t_iload_n k_147_37 rfl
theorem k_147_38 : lk 147 38 = some (.aaload, 39, 0, 0, .null) := by decide +kernel
theorem x_147_38 : Tr sc d 147 (38, [l0, l1, l2, l3, l4, l5], [.int i1, .ref k0], h) Q = (((okp h k0 14 || okp h k0 15) && inb i1 (LN k0)) = true ∧ ∃ q, hR h k0 i1.toNatClampNeg = some q ∧ Tr sc d 147 (39, [l0, l1, l2, l3, l4, l5], [.ref q], h) Q) := t_aald k_147_38
theorem k_147_39 : lk 147 39 = some (.invokevirtual 125, 42, 42, 0, .null) := by decide +kernel
theorem x_147_39 : Tr sc (d + 1) 147 (39, [l0, l1, l2, l3, l4, l5], [.ref k0], h) Q = (okp h k0 5 = true ∧ Tr sc d 42 (ent0 42 [.ref k0] h) (fun z => Tr sc (d + 1) 147 (42, [l0, l1, l2, l3, l4, l5], z.1.toList ++ [], z.2) Q)) := t_cv (as := []) (r := []) k_147_39 rfl rfl (Nat.le_of_ble_eq_true rfl) (Nat.le_of_ble_eq_true rfl) (Nat.le_of_ble_eq_true rfl)
theorem k_147_42 : lk 147 42 = some (.ifCond .eq 9, 45, 51, 0, .null) := by decide +kernel
theorem x_147_42 : Tr sc d 147 (42, [l0, l1, l2, l3, l4, l5], [.int i0], h) Q = if i0 = 0 then Tr sc d 147 (51, [l0, l1, l2, l3, l4, l5], [], h) Q else Tr sc d 147 (45, [l0, l1, l2, l3, l4, l5], [], h) Q := t_if k_147_42 rfl
theorem k_147_45 : lk 147 45 = some (.aload_n 0, 46, 0, 0, .null) := by decide +kernel
theorem x_147_45 : Tr sc d 147 (45, [some (.ref xk), l1, l2, l3, l4, l5], [], h) Q = Tr sc d 147 (46, [some (.ref xk), l1, l2, l3, l4, l5], [.ref xk], h) Q := t_aload_n k_147_45 rfl
theorem k_147_46 : lk 147 46 = some (.iconst 1, 47, 0, 0, .int 1) := by decide +kernel
theorem x_147_46 : Tr sc d 147 (46, [l0, l1, l2, l3, l4, l5], [.ref k0], h) Q = Tr sc d 147 (47, [l0, l1, l2, l3, l4, l5], [.int 1, .ref k0], h) Q := t_go k_147_46 rfl
theorem k_147_47 : lk 147 47 = some (.invokevirtual 118, 50, 144, 1, .null) := by decide +kernel
theorem x_147_47 : Tr sc (d + 1) 147 (47, [l0, l1, l2, l3, l4, l5], [.int i1, .ref k0], h) Q = (okp h k0 9 = true ∧ Tr sc d 144 (ent0 144 [.ref k0, .int i1] h) (fun z => Tr sc (d + 1) 147 (50, [l0, l1, l2, l3, l4, l5], z.1.toList ++ [], z.2) Q)) := t_cv (as := [.int i1]) (r := []) k_147_47 rfl rfl (Nat.le_of_ble_eq_true rfl) (Nat.le_of_ble_eq_true rfl) (Nat.le_of_ble_eq_true rfl)
theorem k_147_50 : lk 147 50 = some (.ireturn, 51, 0, 0, .null) := by decide +kernel
theorem x_147_50 : Tr sc d 147 (50, [l0, l1, l2, l3, l4, l5], [.int i0], h) Q = Q (some (.int i0), h) := t_ret k_147_50 (by rw [r_147]; rfl)
theorem k_147_51 : lk 147 51 = some (.aload_n 0, 52, 0, 0, .null) := by decide +kernel
theorem x_147_51 : Tr sc d 147 (51, [some (.ref xk), l1, l2, l3, l4, l5], [], h) Q = Tr sc d 147 (52, [some (.ref xk), l1, l2, l3, l4, l5], [.ref xk], h) Q := t_aload_n k_147_51 rfl
theorem k_147_52 : lk 147 52 = some (.getfield 11, 55, 9, 0, .null) := by decide +kernel
theorem x_147_52 : Tr sc d 147 (52, [l0, l1, l2, l3, l4, l5], [.ref k0], h) Q = (okp h k0 9 = true ∧ ∃ q, hR h k0 0 = some q ∧ Tr sc d 147 (55, [l0, l1, l2, l3, l4, l5], [.ref q], h) Q) := t_getr k_147_52
theorem k_147_55 : lk 147 55 = some (.iload_n 2, 56, 2, 0, .null) := by decide +kernel
theorem x_147_55 : Tr sc d 147 (55, [l0, l1, some (.int x), l3, l4, l5], [.ref k0], h) Q = Tr sc d 147 (56, [l0, l1, some (.int x), l3, l4, l5], [.int x, .ref k0], h) Q := t_iload_n k_147_55 rfl
theorem k_147_56 : lk 147 56 = some (.aaload, 57, 0, 0, .null) := by decide +kernel
theorem x_147_56 : Tr sc d 147 (56, [l0, l1, l2, l3, l4, l5], [.int i1, .ref k0], h) Q = (((okp h k0 14 || okp h k0 15) && inb i1 (LN k0)) = true ∧ ∃ q, hR h k0 i1.toNatClampNeg = some q ∧ Tr sc d 147 (57, [l0, l1, l2, l3, l4, l5], [.ref q], h) Q) := t_aald k_147_56
theorem k_147_57 : lk 147 57 = some (.getfield 135, 60, 5, 1, .int 0) := by decide +kernel
theorem x_147_57 : Tr sc d 147 (57, [l0, l1, l2, l3, l4, l5], [.ref k0], h) Q = (okp h k0 5 = true ∧ Tr sc d 147 (60, [l0, l1, l2, l3, l4, l5], [.int (hI h k0 1)], h) Q) := t_gd k_147_57 rfl
theorem k_147_60 : lk 147 60 = some (.iload_n 3, 61, 3, 0, .null) := by decide +kernel
theorem x_147_60 : Tr sc d 147 (60, [l0, l1, l2, some (.int x), l4, l5], [.int i0], h) Q = Tr sc d 147 (61, [l0, l1, l2, some (.int x), l4, l5], [.int x, .int i0], h) Q := t_iload_n k_147_60 rfl
theorem k_147_61 : lk 147 61 = some (.if_icmp .ge 9, 64, 70, 0, .null) := by decide +kernel
theorem x_147_61 : Tr sc d 147 (61, [l0, l1, l2, l3, l4, l5], [.int i1, .int i0], h) Q = if i1 ≤ i0 then Tr sc d 147 (70, [l0, l1, l2, l3, l4, l5], [], h) Q else Tr sc d 147 (64, [l0, l1, l2, l3, l4, l5], [], h) Q := t_if k_147_61 rfl
theorem k_147_64 : lk 147 64 = some (.aload_n 0, 65, 0, 0, .null) := by decide +kernel
theorem x_147_64 : Tr sc d 147 (64, [some (.ref xk), l1, l2, l3, l4, l5], [], h) Q = Tr sc d 147 (65, [some (.ref xk), l1, l2, l3, l4, l5], [.ref xk], h) Q := t_aload_n k_147_64 rfl
theorem k_147_65 : lk 147 65 = some (.iconst 5, 66, 0, 0, .int 5) := by decide +kernel
theorem x_147_65 : Tr sc d 147 (65, [l0, l1, l2, l3, l4, l5], [.ref k0], h) Q = Tr sc d 147 (66, [l0, l1, l2, l3, l4, l5], [.int 5, .ref k0], h) Q := t_go k_147_65 rfl
theorem k_147_66 : lk 147 66 = some (.invokevirtual 118, 69, 144, 1, .null) := by decide +kernel
theorem x_147_66 : Tr sc (d + 1) 147 (66, [l0, l1, l2, l3, l4, l5], [.int i1, .ref k0], h) Q = (okp h k0 9 = true ∧ Tr sc d 144 (ent0 144 [.ref k0, .int i1] h) (fun z => Tr sc (d + 1) 147 (69, [l0, l1, l2, l3, l4, l5], z.1.toList ++ [], z.2) Q)) := t_cv (as := [.int i1]) (r := []) k_147_66 rfl rfl (Nat.le_of_ble_eq_true rfl) (Nat.le_of_ble_eq_true rfl) (Nat.le_of_ble_eq_true rfl)
theorem k_147_69 : lk 147 69 = some (.ireturn, 70, 0, 0, .null) := by decide +kernel
theorem x_147_69 : Tr sc d 147 (69, [l0, l1, l2, l3, l4, l5], [.int i0], h) Q = Q (some (.int i0), h) := t_ret k_147_69 (by rw [r_147]; rfl)
theorem k_147_70 : lk 147 70 = some (.iconst 0, 71, 0, 0, .int 0) := by decide +kernel
theorem x_147_70 : Tr sc d 147 (70, [l0, l1, l2, l3, l4, l5], [], h) Q = Tr sc d 147 (71, [l0, l1, l2, l3, l4, l5], [.int 0], h) Q := t_go k_147_70 rfl
theorem k_147_71 : lk 147 71 = some (.istore 5, 73, 5, 0, .null) := by decide +kernel
theorem x_147_71 : Tr sc d 147 (71, [l0, l1, l2, l3, l4, l5], [.int i0], h) Q = Tr sc d 147 (73, [l0, l1, l2, l3, cl2 l4, some (.int i0)], [], h) Q := t_istore k_147_71 (Nat.le_of_ble_eq_true rfl)
theorem k_147_73 : lk 147 73 = some (.iload 5, 75, 5, 0, .null) := by decide +kernel
theorem x_147_73 : Tr sc d 147 (73, [l0, l1, l2, l3, l4, some (.int x)], [], h) Q = Tr sc d 147 (75, [l0, l1, l2, l3, l4, some (.int x)], [.int x], h) Q := t_iload k_147_73 rfl
theorem k_147_75 : lk 147 75 = some (.iload_n 3, 76, 3, 0, .null) := by decide +kernel
theorem x_147_75 : Tr sc d 147 (75, [l0, l1, l2, some (.int x), l4, l5], [.int i0], h) Q = Tr sc d 147 (76, [l0, l1, l2, some (.int x), l4, l5], [.int x, .int i0], h) Q := t_iload_n k_147_75 rfl
theorem k_147_76 : lk 147 76 = some (.if_icmp .ge 39, 79, 115, 0, .null) := by decide +kernel
theorem x_147_76 : Tr sc d 147 (76, [l0, l1, l2, l3, l4, l5], [.int i1, .int i0], h) Q = if i1 ≤ i0 then Tr sc d 147 (115, [l0, l1, l2, l3, l4, l5], [], h) Q else Tr sc d 147 (79, [l0, l1, l2, l3, l4, l5], [], h) Q := t_if k_147_76 rfl
theorem k_147_79 : lk 147 79 = some (.aload_n 0, 80, 0, 0, .null) := by decide +kernel
theorem x_147_79 : Tr sc d 147 (79, [some (.ref xk), l1, l2, l3, l4, l5], [], h) Q = Tr sc d 147 (80, [some (.ref xk), l1, l2, l3, l4, l5], [.ref xk], h) Q := t_aload_n k_147_79 rfl
theorem k_147_80 : lk 147 80 = some (.getfield 20, 83, 9, 2, .null) := by decide +kernel
theorem x_147_80 : Tr sc d 147 (80, [l0, l1, l2, l3, l4, l5], [.ref k0], h) Q = (okp h k0 9 = true ∧ ∃ q, hR h k0 2 = some q ∧ Tr sc d 147 (83, [l0, l1, l2, l3, l4, l5], [.ref q], h) Q) := t_getr k_147_80
theorem k_147_83 : lk 147 83 = some (.iload_n 1, 84, 1, 0, .null) := by decide +kernel
theorem x_147_83 : Tr sc d 147 (83, [l0, some (.int x), l2, l3, l4, l5], [.ref k0], h) Q = Tr sc d 147 (84, [l0, some (.int x), l2, l3, l4, l5], [.int x, .ref k0], h) Q := t_iload_n k_147_83 rfl
theorem k_147_84 : lk 147 84 = some (.aaload, 85, 0, 0, .null) := by decide +kernel
theorem x_147_84 : Tr sc d 147 (84, [l0, l1, l2, l3, l4, l5], [.int i1, .ref k0], h) Q = (((okp h k0 14 || okp h k0 15) && inb i1 (LN k0)) = true ∧ ∃ q, hR h k0 i1.toNatClampNeg = some q ∧ Tr sc d 147 (85, [l0, l1, l2, l3, l4, l5], [.ref q], h) Q) := t_aald k_147_84
theorem k_147_85 : lk 147 85 = some (.aload_n 0, 86, 0, 0, .null) := by decide +kernel
theorem x_147_85 : Tr sc d 147 (85, [some (.ref xk), l1, l2, l3, l4, l5], [.ref k0], h) Q = Tr sc d 147 (86, [some (.ref xk), l1, l2, l3, l4, l5], [.ref xk, .ref k0], h) Q := t_aload_n k_147_85 rfl
theorem k_147_86 : lk 147 86 = some (.getfield 11, 89, 9, 0, .null) := by decide +kernel
theorem x_147_86 : Tr sc d 147 (86, [l0, l1, l2, l3, l4, l5], [.ref k1, .ref k0], h) Q = (okp h k1 9 = true ∧ ∃ q, hR h k1 0 = some q ∧ Tr sc d 147 (89, [l0, l1, l2, l3, l4, l5], [.ref q, .ref k0], h) Q) := t_getr k_147_86
theorem k_147_89 : lk 147 89 = some (.iload_n 2, 90, 2, 0, .null) := by decide +kernel
theorem x_147_89 : Tr sc d 147 (89, [l0, l1, some (.int x), l3, l4, l5], [.ref k1, .ref k0], h) Q = Tr sc d 147 (90, [l0, l1, some (.int x), l3, l4, l5], [.int x, .ref k1, .ref k0], h) Q := t_iload_n k_147_89 rfl
theorem k_147_90 : lk 147 90 = some (.aaload, 91, 0, 0, .null) := by decide +kernel
theorem x_147_90 : Tr sc d 147 (90, [l0, l1, l2, l3, l4, l5], [.int i2, .ref k1, .ref k0], h) Q = (((okp h k1 14 || okp h k1 15) && inb i2 (LN k1)) = true ∧ ∃ q, hR h k1 i2.toNatClampNeg = some q ∧ Tr sc d 147 (91, [l0, l1, l2, l3, l4, l5], [.ref q, .ref k0], h) Q) := t_aald k_147_90
theorem k_147_91 : lk 147 91 = some (.getfield 132, 94, 5, 0, .null) := by decide +kernel
theorem x_147_91 : Tr sc d 147 (91, [l0, l1, l2, l3, l4, l5], [.ref k1, .ref k0], h) Q = (okp h k1 5 = true ∧ ∃ q, hR h k1 0 = some q ∧ Tr sc d 147 (94, [l0, l1, l2, l3, l4, l5], [.ref q, .ref k0], h) Q) := t_getr k_147_91
theorem k_147_94 : lk 147 94 = some (.iload 5, 96, 5, 0, .null) := by decide +kernel
theorem x_147_94 : Tr sc d 147 (94, [l0, l1, l2, l3, l4, some (.int x)], [.ref k1, .ref k0], h) Q = Tr sc d 147 (96, [l0, l1, l2, l3, l4, some (.int x)], [.int x, .ref k1, .ref k0], h) Q := t_iload k_147_94 rfl
theorem k_147_96 : lk 147 96 = some (.iaload, 97, 0, 0, .null) := by decide +kernel
theorem x_147_96 : Tr sc d 147 (96, [l0, l1, l2, l3, l4, l5], [.int i2, .ref k1, .ref k0], h) Q = (iOk sc h k1 i2 ∧ Tr sc d 147 (97, [l0, l1, l2, l3, l4, l5], [.int (iRd sc h k1 i2), .ref k0], h) Q) := t_iald k_147_96
theorem k_147_97 : lk 147 97 = some (.invokevirtual 206, 100, 50, 1, .null) := by decide +kernel
theorem x_147_97 : Tr sc (d + 1) 147 (97, [l0, l1, l2, l3, l4, l5], [.int i1, .ref k0], h) Q = (okp h k0 6 = true ∧ Tr sc d 50 (ent0 50 [.ref k0, .int i1] h) (fun z => Tr sc (d + 1) 147 (100, [l0, l1, l2, l3, l4, l5], z.1.toList ++ [], z.2) Q)) := t_cv (as := [.int i1]) (r := []) k_147_97 rfl rfl (Nat.le_of_ble_eq_true rfl) (Nat.le_of_ble_eq_true rfl) (Nat.le_of_ble_eq_true rfl)
theorem k_147_100 : lk 147 100 = some (.ifCond .ne 9, 103, 109, 0, .null) := by decide +kernel
theorem x_147_100 : Tr sc d 147 (100, [l0, l1, l2, l3, l4, l5], [.int i0], h) Q = if i0 = 0 then Tr sc d 147 (103, [l0, l1, l2, l3, l4, l5], [], h) Q else Tr sc d 147 (109, [l0, l1, l2, l3, l4, l5], [], h) Q := t_if k_147_100 rfl
theorem k_147_103 : lk 147 103 = some (.aload_n 0, 104, 0, 0, .null) := by decide +kernel
theorem x_147_103 : Tr sc d 147 (103, [some (.ref xk), l1, l2, l3, l4, l5], [], h) Q = Tr sc d 147 (104, [some (.ref xk), l1, l2, l3, l4, l5], [.ref xk], h) Q := t_aload_n k_147_103 rfl
theorem k_147_104 : lk 147 104 = some (.iconst 3, 105, 0, 0, .int 3) := by decide +kernel
theorem x_147_104 : Tr sc d 147 (104, [l0, l1, l2, l3, l4, l5], [.ref k0], h) Q = Tr sc d 147 (105, [l0, l1, l2, l3, l4, l5], [.int 3, .ref k0], h) Q := t_go k_147_104 rfl
theorem k_147_105 : lk 147 105 = some (.invokevirtual 118, 108, 144, 1, .null) := by decide +kernel
theorem x_147_105 : Tr sc (d + 1) 147 (105, [l0, l1, l2, l3, l4, l5], [.int i1, .ref k0], h) Q = (okp h k0 9 = true ∧ Tr sc d 144 (ent0 144 [.ref k0, .int i1] h) (fun z => Tr sc (d + 1) 147 (108, [l0, l1, l2, l3, l4, l5], z.1.toList ++ [], z.2) Q)) := t_cv (as := [.int i1]) (r := []) k_147_105 rfl rfl (Nat.le_of_ble_eq_true rfl) (Nat.le_of_ble_eq_true rfl) (Nat.le_of_ble_eq_true rfl)
theorem k_147_108 : lk 147 108 = some (.ireturn, 109, 0, 0, .null) := by decide +kernel
theorem x_147_108 : Tr sc d 147 (108, [l0, l1, l2, l3, l4, l5], [.int i0], h) Q = Q (some (.int i0), h) := t_ret k_147_108 (by rw [r_147]; rfl)
theorem k_147_109 : lk 147 109 = some (.iinc 5 1, 112, 5, 0, .int 1) := by decide +kernel
theorem x_147_109 : Tr sc d 147 (109, [l0, l1, l2, l3, l4, some (.int x)], [], h) Q = Tr sc d 147 (112, [l0, l1, l2, l3, cl2 l4, some (.int (x + 1))], [], h) Q := t_inc k_147_109 rfl (Nat.le_of_ble_eq_true rfl)
theorem k_147_112 : lk 147 112 = some (.goto (-39), 115, 73, 0, .null) := by decide +kernel
theorem x_147_112 : Tr sc d 147 (112, [l0, l1, l2, l3, l4, l5], [], h) Q = Tr sc d 147 (73, [l0, l1, l2, l3, l4, l5], [], h) Q := t_go k_147_112 rfl
theorem k_147_115 : lk 147 115 = some (.iconst 0, 116, 0, 0, .int 0) := by decide +kernel
theorem x_147_115 : Tr sc d 147 (115, [l0, l1, l2, l3, l4, l5], [], h) Q = Tr sc d 147 (116, [l0, l1, l2, l3, l4, l5], [.int 0], h) Q := t_go k_147_115 rfl
theorem k_147_116 : lk 147 116 = some (.ireturn, 117, 0, 0, .null) := by decide +kernel
theorem x_147_116 : Tr sc d 147 (116, [l0, l1, l2, l3, l4, l5], [.int i0], h) Q = Q (some (.int i0), h) := t_ret k_147_116 (by rw [r_147]; rfl)
theorem e_147 : Tr sc d 147 (ent0 147 [.ref k0, .int i1, .int i2, .int i3, .int i4] h) Q = Tr sc d 147 (0, [some (.ref k0), some (.int i1), some (.int i2), some (.int i3), some (.int i4), none], [], h) Q := by
  have e : mL 147 = 6 := by decide +kernel
  unfold ent0
  rw [e]
  rfl
theorem r_148 : mR 148 = some .int := by decide +kernel
theorem k_148_0 : lk 148 0 = some (.iload_n 1, 1, 1, 0, .null) := by decide +kernel
theorem x_148_0 : Tr sc d 148 (0, [l0, some (.int x), l2, l3], [], h) Q = Tr sc d 148 (1, [l0, some (.int x), l2, l3], [.int x], h) Q := t_iload_n k_148_0 rfl
theorem k_148_1 : lk 148 1 = some (.invokestatic 159, 4, 142, 1, .null) := by decide +kernel
theorem x_148_1 : Tr sc (d + 1) 148 (1, [l0, l1, l2, l3], [.int i0], h) Q = Tr sc d 142 (ent0 142 [.int i0] h) (fun z => Tr sc (d + 1) 148 (4, [l0, l1, l2, l3], z.1.toList ++ [], z.2) Q) := t_cs (as := [.int i0]) (r := []) k_148_1 (by decide) rfl rfl (Nat.le_of_ble_eq_true rfl) (Nat.le_of_ble_eq_true rfl)
theorem k_148_4 : lk 148 4 = some (.ifCond .eq 17, 7, 21, 0, .null) := by decide +kernel
theorem x_148_4 : Tr sc d 148 (4, [l0, l1, l2, l3], [.int i0], h) Q = if i0 = 0 then Tr sc d 148 (21, [l0, l1, l2, l3], [], h) Q else Tr sc d 148 (7, [l0, l1, l2, l3], [], h) Q := t_if k_148_4 rfl
theorem k_148_7 : lk 148 7 = some (.iload_n 2, 8, 2, 0, .null) := by decide +kernel
theorem x_148_7 : Tr sc d 148 (7, [l0, l1, some (.int x), l3], [], h) Q = Tr sc d 148 (8, [l0, l1, some (.int x), l3], [.int x], h) Q := t_iload_n k_148_7 rfl
theorem k_148_8 : lk 148 8 = some (.invokestatic 159, 11, 142, 1, .null) := by decide +kernel
theorem x_148_8 : Tr sc (d + 1) 148 (8, [l0, l1, l2, l3], [.int i0], h) Q = Tr sc d 142 (ent0 142 [.int i0] h) (fun z => Tr sc (d + 1) 148 (11, [l0, l1, l2, l3], z.1.toList ++ [], z.2) Q) := t_cs (as := [.int i0]) (r := []) k_148_8 (by decide) rfl rfl (Nat.le_of_ble_eq_true rfl) (Nat.le_of_ble_eq_true rfl)
theorem k_148_11 : lk 148 11 = some (.ifCond .eq 10, 14, 21, 0, .null) := by decide +kernel
theorem x_148_11 : Tr sc d 148 (11, [l0, l1, l2, l3], [.int i0], h) Q = if i0 = 0 then Tr sc d 148 (21, [l0, l1, l2, l3], [], h) Q else Tr sc d 148 (14, [l0, l1, l2, l3], [], h) Q := t_if k_148_11 rfl
theorem k_148_14 : lk 148 14 = some (.iload_n 3, 15, 3, 0, .null) := by decide +kernel
theorem x_148_14 : Tr sc d 148 (14, [l0, l1, l2, some (.int x)], [], h) Q = Tr sc d 148 (15, [l0, l1, l2, some (.int x)], [.int x], h) Q := t_iload_n k_148_14 rfl
theorem k_148_15 : lk 148 15 = some (.invokestatic 114, 18, 140, 1, .null) := by decide +kernel
theorem x_148_15 : Tr sc (d + 1) 148 (15, [l0, l1, l2, l3], [.int i0], h) Q = Tr sc d 140 (ent0 140 [.int i0] h) (fun z => Tr sc (d + 1) 148 (18, [l0, l1, l2, l3], z.1.toList ++ [], z.2) Q) := t_cs (as := [.int i0]) (r := []) k_148_15 (by decide) rfl rfl (Nat.le_of_ble_eq_true rfl) (Nat.le_of_ble_eq_true rfl)
theorem k_148_18 : lk 148 18 = some (.ifCond .ne 5, 21, 23, 0, .null) := by decide +kernel
theorem x_148_18 : Tr sc d 148 (18, [l0, l1, l2, l3], [.int i0], h) Q = if i0 = 0 then Tr sc d 148 (21, [l0, l1, l2, l3], [], h) Q else Tr sc d 148 (23, [l0, l1, l2, l3], [], h) Q := t_if k_148_18 rfl
theorem k_148_21 : lk 148 21 = some (.iconst (-1), 22, 0, 0, .int (-1)) := by decide +kernel
theorem x_148_21 : Tr sc d 148 (21, [l0, l1, l2, l3], [], h) Q = Tr sc d 148 (22, [l0, l1, l2, l3], [.int (-1)], h) Q := t_go k_148_21 rfl
theorem k_148_22 : lk 148 22 = some (.ireturn, 23, 0, 0, .null) := by decide +kernel
theorem x_148_22 : Tr sc d 148 (22, [l0, l1, l2, l3], [.int i0], h) Q = Q (some (.int i0), h) := t_ret k_148_22 (by rw [r_148]; rfl)
theorem k_148_23 : lk 148 23 = some (.aload_n 0, 24, 0, 0, .null) := by decide +kernel
theorem x_148_23 : Tr sc d 148 (23, [some (.ref xk), l1, l2, l3], [], h) Q = Tr sc d 148 (24, [some (.ref xk), l1, l2, l3], [.ref xk], h) Q := t_aload_n k_148_23 rfl
theorem k_148_24 : lk 148 24 = some (.getfield 20, 27, 9, 2, .null) := by decide +kernel
theorem x_148_24 : Tr sc d 148 (24, [l0, l1, l2, l3], [.ref k0], h) Q = (okp h k0 9 = true ∧ ∃ q, hR h k0 2 = some q ∧ Tr sc d 148 (27, [l0, l1, l2, l3], [.ref q], h) Q) := t_getr k_148_24
theorem k_148_27 : lk 148 27 = some (.iload_n 2, 28, 2, 0, .null) := by decide +kernel
theorem x_148_27 : Tr sc d 148 (27, [l0, l1, some (.int x), l3], [.ref k0], h) Q = Tr sc d 148 (28, [l0, l1, some (.int x), l3], [.int x, .ref k0], h) Q := t_iload_n k_148_27 rfl
theorem k_148_28 : lk 148 28 = some (.aaload, 29, 0, 0, .null) := by decide +kernel
theorem x_148_28 : Tr sc d 148 (28, [l0, l1, l2, l3], [.int i1, .ref k0], h) Q = (((okp h k0 14 || okp h k0 15) && inb i1 (LN k0)) = true ∧ ∃ q, hR h k0 i1.toNatClampNeg = some q ∧ Tr sc d 148 (29, [l0, l1, l2, l3], [.ref q], h) Q) := t_aald k_148_28
theorem k_148_29 : lk 148 29 = some (.invokevirtual 366, 32, 48, 0, .null) := by decide +kernel
theorem x_148_29 : Tr sc (d + 1) 148 (29, [l0, l1, l2, l3], [.ref k0], h) Q = (okp h k0 6 = true ∧ Tr sc d 48 (ent0 48 [.ref k0] h) (fun z => Tr sc (d + 1) 148 (32, [l0, l1, l2, l3], z.1.toList ++ [], z.2) Q)) := t_cv (as := []) (r := []) k_148_29 rfl rfl (Nat.le_of_ble_eq_true rfl) (Nat.le_of_ble_eq_true rfl) (Nat.le_of_ble_eq_true rfl)
theorem k_148_32 : lk 148 32 = some (.ifCond .ne 15, 35, 47, 0, .null) := by decide +kernel
theorem x_148_32 : Tr sc d 148 (32, [l0, l1, l2, l3], [.int i0], h) Q = if i0 = 0 then Tr sc d 148 (35, [l0, l1, l2, l3], [], h) Q else Tr sc d 148 (47, [l0, l1, l2, l3], [], h) Q := t_if k_148_32 rfl
theorem k_148_35 : lk 148 35 = some (.aload_n 0, 36, 0, 0, .null) := by decide +kernel
theorem x_148_35 : Tr sc d 148 (35, [some (.ref xk), l1, l2, l3], [], h) Q = Tr sc d 148 (36, [some (.ref xk), l1, l2, l3], [.ref xk], h) Q := t_aload_n k_148_35 rfl
theorem k_148_36 : lk 148 36 = some (.getfield 11, 39, 9, 0, .null) := by decide +kernel
theorem x_148_36 : Tr sc d 148 (36, [l0, l1, l2, l3], [.ref k0], h) Q = (okp h k0 9 = true ∧ ∃ q, hR h k0 0 = some q ∧ Tr sc d 148 (39, [l0, l1, l2, l3], [.ref q], h) Q) := t_getr k_148_36
theorem k_148_39 : lk 148 39 = some (.iload_n 3, 40, 3, 0, .null) := by decide +kernel
theorem x_148_39 : Tr sc d 148 (39, [l0, l1, l2, some (.int x)], [.ref k0], h) Q = Tr sc d 148 (40, [l0, l1, l2, some (.int x)], [.int x, .ref k0], h) Q := t_iload_n k_148_39 rfl
theorem k_148_40 : lk 148 40 = some (.aaload, 41, 0, 0, .null) := by decide +kernel
theorem x_148_40 : Tr sc d 148 (40, [l0, l1, l2, l3], [.int i1, .ref k0], h) Q = (((okp h k0 14 || okp h k0 15) && inb i1 (LN k0)) = true ∧ ∃ q, hR h k0 i1.toNatClampNeg = some q ∧ Tr sc d 148 (41, [l0, l1, l2, l3], [.ref q], h) Q) := t_aald k_148_40
theorem k_148_41 : lk 148 41 = some (.invokevirtual 125, 44, 42, 0, .null) := by decide +kernel
theorem x_148_41 : Tr sc (d + 1) 148 (41, [l0, l1, l2, l3], [.ref k0], h) Q = (okp h k0 5 = true ∧ Tr sc d 42 (ent0 42 [.ref k0] h) (fun z => Tr sc (d + 1) 148 (44, [l0, l1, l2, l3], z.1.toList ++ [], z.2) Q)) := t_cv (as := []) (r := []) k_148_41 rfl rfl (Nat.le_of_ble_eq_true rfl) (Nat.le_of_ble_eq_true rfl) (Nat.le_of_ble_eq_true rfl)
theorem k_148_44 : lk 148 44 = some (.ifCond .eq 9, 47, 53, 0, .null) := by decide +kernel
theorem x_148_44 : Tr sc d 148 (44, [l0, l1, l2, l3], [.int i0], h) Q = if i0 = 0 then Tr sc d 148 (53, [l0, l1, l2, l3], [], h) Q else Tr sc d 148 (47, [l0, l1, l2, l3], [], h) Q := t_if k_148_44 rfl
theorem k_148_47 : lk 148 47 = some (.aload_n 0, 48, 0, 0, .null) := by decide +kernel
theorem x_148_47 : Tr sc d 148 (47, [some (.ref xk), l1, l2, l3], [], h) Q = Tr sc d 148 (48, [some (.ref xk), l1, l2, l3], [.ref xk], h) Q := t_aload_n k_148_47 rfl
theorem k_148_48 : lk 148 48 = some (.iconst 1, 49, 0, 0, .int 1) := by decide +kernel
theorem x_148_48 : Tr sc d 148 (48, [l0, l1, l2, l3], [.ref k0], h) Q = Tr sc d 148 (49, [l0, l1, l2, l3], [.int 1, .ref k0], h) Q := t_go k_148_48 rfl
theorem k_148_49 : lk 148 49 = some (.invokevirtual 118, 52, 144, 1, .null) := by decide +kernel
theorem x_148_49 : Tr sc (d + 1) 148 (49, [l0, l1, l2, l3], [.int i1, .ref k0], h) Q = (okp h k0 9 = true ∧ Tr sc d 144 (ent0 144 [.ref k0, .int i1] h) (fun z => Tr sc (d + 1) 148 (52, [l0, l1, l2, l3], z.1.toList ++ [], z.2) Q)) := t_cv (as := [.int i1]) (r := []) k_148_49 rfl rfl (Nat.le_of_ble_eq_true rfl) (Nat.le_of_ble_eq_true rfl) (Nat.le_of_ble_eq_true rfl)
theorem k_148_52 : lk 148 52 = some (.ireturn, 53, 0, 0, .null) := by decide +kernel
theorem x_148_52 : Tr sc d 148 (52, [l0, l1, l2, l3], [.int i0], h) Q = Q (some (.int i0), h) := t_ret k_148_52 (by rw [r_148]; rfl)
theorem k_148_53 : lk 148 53 = some (.aload_n 0, 54, 0, 0, .null) := by decide +kernel
theorem x_148_53 : Tr sc d 148 (53, [some (.ref xk), l1, l2, l3], [], h) Q = Tr sc d 148 (54, [some (.ref xk), l1, l2, l3], [.ref xk], h) Q := t_aload_n k_148_53 rfl
theorem k_148_54 : lk 148 54 = some (.getfield 11, 57, 9, 0, .null) := by decide +kernel
theorem x_148_54 : Tr sc d 148 (54, [l0, l1, l2, l3], [.ref k0], h) Q = (okp h k0 9 = true ∧ ∃ q, hR h k0 0 = some q ∧ Tr sc d 148 (57, [l0, l1, l2, l3], [.ref q], h) Q) := t_getr k_148_54
theorem k_148_57 : lk 148 57 = some (.iload_n 3, 58, 3, 0, .null) := by decide +kernel
theorem x_148_57 : Tr sc d 148 (57, [l0, l1, l2, some (.int x)], [.ref k0], h) Q = Tr sc d 148 (58, [l0, l1, l2, some (.int x)], [.int x, .ref k0], h) Q := t_iload_n k_148_57 rfl
theorem k_148_58 : lk 148 58 = some (.aaload, 59, 0, 0, .null) := by decide +kernel
theorem x_148_58 : Tr sc d 148 (58, [l0, l1, l2, l3], [.int i1, .ref k0], h) Q = (((okp h k0 14 || okp h k0 15) && inb i1 (LN k0)) = true ∧ ∃ q, hR h k0 i1.toNatClampNeg = some q ∧ Tr sc d 148 (59, [l0, l1, l2, l3], [.ref q], h) Q) := t_aald k_148_58
theorem k_148_59 : lk 148 59 = some (.getfield 135, 62, 5, 1, .int 0) := by decide +kernel
theorem x_148_59 : Tr sc d 148 (59, [l0, l1, l2, l3], [.ref k0], h) Q = (okp h k0 5 = true ∧ Tr sc d 148 (62, [l0, l1, l2, l3], [.int (hI h k0 1)], h) Q) := t_gd k_148_59 rfl
theorem k_148_62 : lk 148 62 = some (.aload_n 0, 63, 0, 0, .null) := by decide +kernel
theorem x_148_62 : Tr sc d 148 (62, [some (.ref xk), l1, l2, l3], [.int i0], h) Q = Tr sc d 148 (63, [some (.ref xk), l1, l2, l3], [.ref xk, .int i0], h) Q := t_aload_n k_148_62 rfl
theorem k_148_63 : lk 148 63 = some (.getfield 20, 66, 9, 2, .null) := by decide +kernel
theorem x_148_63 : Tr sc d 148 (63, [l0, l1, l2, l3], [.ref k1, .int i0], h) Q = (okp h k1 9 = true ∧ ∃ q, hR h k1 2 = some q ∧ Tr sc d 148 (66, [l0, l1, l2, l3], [.ref q, .int i0], h) Q) := t_getr k_148_63
theorem k_148_66 : lk 148 66 = some (.iload_n 2, 67, 2, 0, .null) := by decide +kernel
theorem x_148_66 : Tr sc d 148 (66, [l0, l1, some (.int x), l3], [.ref k1, .int i0], h) Q = Tr sc d 148 (67, [l0, l1, some (.int x), l3], [.int x, .ref k1, .int i0], h) Q := t_iload_n k_148_66 rfl
theorem k_148_67 : lk 148 67 = some (.aaload, 68, 0, 0, .null) := by decide +kernel
theorem x_148_67 : Tr sc d 148 (67, [l0, l1, l2, l3], [.int i2, .ref k1, .int i0], h) Q = (((okp h k1 14 || okp h k1 15) && inb i2 (LN k1)) = true ∧ ∃ q, hR h k1 i2.toNatClampNeg = some q ∧ Tr sc d 148 (68, [l0, l1, l2, l3], [.ref q, .int i0], h) Q) := t_aald k_148_67
theorem k_148_68 : lk 148 68 = some (.getfield 181, 71, 6, 8, .int 0) := by decide +kernel
theorem x_148_68 : Tr sc d 148 (68, [l0, l1, l2, l3], [.ref k1, .int i0], h) Q = (okp h k1 6 = true ∧ Tr sc d 148 (71, [l0, l1, l2, l3], [.int (hI h k1 8), .int i0], h) Q) := t_gd k_148_68 rfl
theorem k_148_71 : lk 148 71 = some (.if_icmp .ne 7, 74, 78, 0, .null) := by decide +kernel
theorem x_148_71 : Tr sc d 148 (71, [l0, l1, l2, l3], [.int i1, .int i0], h) Q = if i0 = i1 then Tr sc d 148 (74, [l0, l1, l2, l3], [], h) Q else Tr sc d 148 (78, [l0, l1, l2, l3], [], h) Q := t_if k_148_71 rfl
theorem k_148_74 : lk 148 74 = some (.iconst 0, 75, 0, 0, .int 0) := by decide +kernel
theorem x_148_74 : Tr sc d 148 (74, [l0, l1, l2, l3], [], h) Q = Tr sc d 148 (75, [l0, l1, l2, l3], [.int 0], h) Q := t_go k_148_74 rfl
theorem k_148_75 : lk 148 75 = some (.goto 8, 78, 83, 0, .null) := by decide +kernel
theorem x_148_75 : Tr sc d 148 (75, [l0, l1, l2, l3], [.int i0], h) Q = Tr sc d 148 (83, [l0, l1, l2, l3], [.int i0], h) Q := t_go k_148_75 rfl
theorem k_148_78 : lk 148 78 = some (.aload_n 0, 79, 0, 0, .null) := by decide +kernel
theorem x_148_78 : Tr sc d 148 (78, [some (.ref xk), l1, l2, l3], [], h) Q = Tr sc d 148 (79, [some (.ref xk), l1, l2, l3], [.ref xk], h) Q := t_aload_n k_148_78 rfl
theorem k_148_79 : lk 148 79 = some (.iconst 5, 80, 0, 0, .int 5) := by decide +kernel
theorem x_148_79 : Tr sc d 148 (79, [l0, l1, l2, l3], [.ref k0], h) Q = Tr sc d 148 (80, [l0, l1, l2, l3], [.int 5, .ref k0], h) Q := t_go k_148_79 rfl
theorem k_148_80 : lk 148 80 = some (.invokevirtual 118, 83, 144, 1, .null) := by decide +kernel
theorem x_148_80 : Tr sc (d + 1) 148 (80, [l0, l1, l2, l3], [.int i1, .ref k0], h) Q = (okp h k0 9 = true ∧ Tr sc d 144 (ent0 144 [.ref k0, .int i1] h) (fun z => Tr sc (d + 1) 148 (83, [l0, l1, l2, l3], z.1.toList ++ [], z.2) Q)) := t_cv (as := [.int i1]) (r := []) k_148_80 rfl rfl (Nat.le_of_ble_eq_true rfl) (Nat.le_of_ble_eq_true rfl) (Nat.le_of_ble_eq_true rfl)
theorem k_148_83 : lk 148 83 = some (.ireturn, 84, 0, 0, .null) := by decide +kernel
theorem x_148_83 : Tr sc d 148 (83, [l0, l1, l2, l3], [.int i0], h) Q = Q (some (.int i0), h) := t_ret k_148_83 (by rw [r_148]; rfl)
theorem e_148 : Tr sc d 148 (ent0 148 [.ref k0, .int i1, .int i2, .int i3] h) Q = Tr sc d 148 (0, [some (.ref k0), some (.int i1), some (.int i2), some (.int i3)], [], h) Q := by
  have e : mL 148 = 4 := by decide +kernel
  unfold ent0
  rw [e]
  rfl
theorem r_149 : mR 149 = some .int := by decide +kernel
theorem k_149_0 : lk 149 0 = some (.aload_n 0, 1, 0, 0, .null) := by decide +kernel
theorem x_149_0 : Tr sc d 149 (0, [some (.ref xk), l1], [], h) Q = Tr sc d 149 (1, [some (.ref xk), l1], [.ref xk], h) Q := t_aload_n k_149_0 rfl
theorem k_149_1 : lk 149 1 = some (.getfield 20, 4, 9, 2, .null) := by decide +kernel
theorem x_149_1 : Tr sc d 149 (1, [l0, l1], [.ref k0], h) Q = (okp h k0 9 = true ∧ ∃ q, hR h k0 2 = some q ∧ Tr sc d 149 (4, [l0, l1], [.ref q], h) Q) := t_getr k_149_1
theorem k_149_4 : lk 149 4 = some (.iload_n 1, 5, 1, 0, .null) := by decide +kernel
theorem x_149_4 : Tr sc d 149 (4, [l0, some (.int x)], [.ref k0], h) Q = Tr sc d 149 (5, [l0, some (.int x)], [.int x, .ref k0], h) Q := t_iload_n k_149_4 rfl
theorem k_149_5 : lk 149 5 = some (.aaload, 6, 0, 0, .null) := by decide +kernel
theorem x_149_5 : Tr sc d 149 (5, [l0, l1], [.int i1, .ref k0], h) Q = (((okp h k0 14 || okp h k0 15) && inb i1 (LN k0)) = true ∧ ∃ q, hR h k0 i1.toNatClampNeg = some q ∧ Tr sc d 149 (6, [l0, l1], [.ref q], h) Q) := t_aald k_149_5
theorem k_149_6 : lk 149 6 = some (.aload_n 0, 7, 0, 0, .null) := by decide +kernel
theorem x_149_6 : Tr sc d 149 (6, [some (.ref xk), l1], [.ref k0], h) Q = Tr sc d 149 (7, [some (.ref xk), l1], [.ref xk, .ref k0], h) Q := t_aload_n k_149_6 rfl
theorem k_149_7 : lk 149 7 = some (.getfield 25, 10, 9, 3, .null) := by decide +kernel
theorem x_149_7 : Tr sc d 149 (7, [l0, l1], [.ref k1, .ref k0], h) Q = (okp h k1 9 = true ∧ ∃ q, hR h k1 3 = some q ∧ Tr sc d 149 (10, [l0, l1], [.ref q, .ref k0], h) Q) := t_getr k_149_7
theorem k_149_10 : lk 149 10 = some (.invokevirtual 169, 13, 53, 1, .null) := by decide +kernel
theorem x_149_10 : Tr sc (d + 1) 149 (10, [l0, l1], [.ref k1, .ref k0], h) Q = (okp h k0 6 = true ∧ Tr sc d 53 (ent0 53 [.ref k0, .ref k1] h) (fun z => Tr sc (d + 1) 149 (13, [l0, l1], z.1.toList ++ [], z.2) Q)) := t_cv (as := [.ref k1]) (r := []) k_149_10 rfl rfl (Nat.le_of_ble_eq_true rfl) (Nat.le_of_ble_eq_true rfl) (Nat.le_of_ble_eq_true rfl)
theorem k_149_13 : lk 149 13 = some (.aload_n 0, 14, 0, 0, .null) := by decide +kernel
theorem x_149_13 : Tr sc d 149 (13, [some (.ref xk), l1], [], h) Q = Tr sc d 149 (14, [some (.ref xk), l1], [.ref xk], h) Q := t_aload_n k_149_13 rfl
theorem k_149_14 : lk 149 14 = some (.getfield 20, 17, 9, 2, .null) := by decide +kernel
theorem x_149_14 : Tr sc d 149 (14, [l0, l1], [.ref k0], h) Q = (okp h k0 9 = true ∧ ∃ q, hR h k0 2 = some q ∧ Tr sc d 149 (17, [l0, l1], [.ref q], h) Q) := t_getr k_149_14
theorem k_149_17 : lk 149 17 = some (.iload_n 1, 18, 1, 0, .null) := by decide +kernel
theorem x_149_17 : Tr sc d 149 (17, [l0, some (.int x)], [.ref k0], h) Q = Tr sc d 149 (18, [l0, some (.int x)], [.int x, .ref k0], h) Q := t_iload_n k_149_17 rfl
theorem k_149_18 : lk 149 18 = some (.aaload, 19, 0, 0, .null) := by decide +kernel
theorem x_149_18 : Tr sc d 149 (18, [l0, l1], [.int i1, .ref k0], h) Q = (((okp h k0 14 || okp h k0 15) && inb i1 (LN k0)) = true ∧ ∃ q, hR h k0 i1.toNatClampNeg = some q ∧ Tr sc d 149 (19, [l0, l1], [.ref q], h) Q) := t_aald k_149_18
theorem k_149_19 : lk 149 19 = some (.aload_n 0, 20, 0, 0, .null) := by decide +kernel
theorem x_149_19 : Tr sc d 149 (19, [some (.ref xk), l1], [.ref k0], h) Q = Tr sc d 149 (20, [some (.ref xk), l1], [.ref xk, .ref k0], h) Q := t_aload_n k_149_19 rfl
theorem k_149_20 : lk 149 20 = some (.aload_n 0, 21, 0, 0, .null) := by decide +kernel
theorem x_149_20 : Tr sc d 149 (20, [some (.ref xk), l1], [.ref k1, .ref k0], h) Q = Tr sc d 149 (21, [some (.ref xk), l1], [.ref xk, .ref k1, .ref k0], h) Q := t_aload_n k_149_20 rfl
theorem k_149_21 : lk 149 21 = some (.getfield 20, 24, 9, 2, .null) := by decide +kernel
theorem x_149_21 : Tr sc d 149 (21, [l0, l1], [.ref k2, .ref k1, .ref k0], h) Q = (okp h k2 9 = true ∧ ∃ q, hR h k2 2 = some q ∧ Tr sc d 149 (24, [l0, l1], [.ref q, .ref k1, .ref k0], h) Q) := t_getr k_149_21
theorem k_149_24 : lk 149 24 = some (.iload_n 1, 25, 1, 0, .null) := by decide +kernel
theorem x_149_24 : Tr sc d 149 (24, [l0, some (.int x)], [.ref k2, .ref k1, .ref k0], h) Q = Tr sc d 149 (25, [l0, some (.int x)], [.int x, .ref k2, .ref k1, .ref k0], h) Q := t_iload_n k_149_24 rfl
theorem k_149_25 : lk 149 25 = some (.aaload, 26, 0, 0, .null) := by decide +kernel
theorem x_149_25 : Tr sc d 149 (25, [l0, l1], [.int i3, .ref k2, .ref k1, .ref k0], h) Q = (((okp h k2 14 || okp h k2 15) && inb i3 (LN k2)) = true ∧ ∃ q, hR h k2 i3.toNatClampNeg = some q ∧ Tr sc d 149 (26, [l0, l1], [.ref q, .ref k1, .ref k0], h) Q) := t_aald k_149_25
theorem k_149_26 : lk 149 26 = some (.invokevirtual 382, 29, 150, 1, .null) := by decide +kernel
theorem x_149_26 : Tr sc (d + 1) 149 (26, [l0, l1], [.ref k2, .ref k1, .ref k0], h) Q = (okp h k1 9 = true ∧ Tr sc d 150 (ent0 150 [.ref k1, .ref k2] h) (fun z => Tr sc (d + 1) 149 (29, [l0, l1], z.1.toList ++ [.ref k0], z.2) Q)) := t_cv (as := [.ref k2]) (r := [.ref k0]) k_149_26 rfl rfl (Nat.le_of_ble_eq_true rfl) (Nat.le_of_ble_eq_true rfl) (Nat.le_of_ble_eq_true rfl)
theorem k_149_29 : lk 149 29 = some (.putfield 200, 32, 6, 6, .int 0) := by decide +kernel
theorem x_149_29 : Tr sc d 149 (29, [l0, l1], [.int i1, .ref k0], h) Q = (okp h k0 6 = true ∧ Tr sc d 149 (32, [l0, l1], [], (sI h k0 6 i1)) Q) := t_gd k_149_29 rfl
theorem k_149_32 : lk 149 32 = some (.aload_n 0, 33, 0, 0, .null) := by decide +kernel
theorem x_149_32 : Tr sc d 149 (32, [some (.ref xk), l1], [], h) Q = Tr sc d 149 (33, [some (.ref xk), l1], [.ref xk], h) Q := t_aload_n k_149_32 rfl
theorem k_149_33 : lk 149 33 = some (.getfield 20, 36, 9, 2, .null) := by decide +kernel
theorem x_149_33 : Tr sc d 149 (33, [l0, l1], [.ref k0], h) Q = (okp h k0 9 = true ∧ ∃ q, hR h k0 2 = some q ∧ Tr sc d 149 (36, [l0, l1], [.ref q], h) Q) := t_getr k_149_33
theorem k_149_36 : lk 149 36 = some (.iload_n 1, 37, 1, 0, .null) := by decide +kernel
theorem x_149_36 : Tr sc d 149 (36, [l0, some (.int x)], [.ref k0], h) Q = Tr sc d 149 (37, [l0, some (.int x)], [.int x, .ref k0], h) Q := t_iload_n k_149_36 rfl
theorem k_149_37 : lk 149 37 = some (.aaload, 38, 0, 0, .null) := by decide +kernel
theorem x_149_37 : Tr sc d 149 (37, [l0, l1], [.int i1, .ref k0], h) Q = (((okp h k0 14 || okp h k0 15) && inb i1 (LN k0)) = true ∧ ∃ q, hR h k0 i1.toNatClampNeg = some q ∧ Tr sc d 149 (38, [l0, l1], [.ref q], h) Q) := t_aald k_149_37
theorem k_149_38 : lk 149 38 = some (.getfield 200, 41, 6, 6, .int 0) := by decide +kernel
theorem x_149_38 : Tr sc d 149 (38, [l0, l1], [.ref k0], h) Q = (okp h k0 6 = true ∧ Tr sc d 149 (41, [l0, l1], [.int (hI h k0 6)], h) Q) := t_gd k_149_38 rfl
theorem k_149_41 : lk 149 41 = some (.ireturn, 42, 0, 0, .null) := by decide +kernel
theorem x_149_41 : Tr sc d 149 (41, [l0, l1], [.int i0], h) Q = Q (some (.int i0), h) := t_ret k_149_41 (by rw [r_149]; rfl)
theorem e_149 : Tr sc d 149 (ent0 149 [.ref k0, .int i1] h) Q = Tr sc d 149 (0, [some (.ref k0), some (.int i1)], [], h) Q := by
  have e : mL 149 = 2 := by decide +kernel
  unfold ent0
  rw [e]
  rfl
theorem r_150 : mR 150 = some .int := by decide +kernel
theorem k_150_0 : lk 150 0 = some (.aload_n 1, 1, 1, 0, .null) := by decide +kernel
theorem x_150_0 : Tr sc d 150 (0, [l0, some (.ref xk)], [], h) Q = Tr sc d 150 (1, [l0, some (.ref xk)], [.ref xk], h) Q := t_aload_n k_150_0 rfl
theorem k_150_1 : lk 150 1 = some (.invokevirtual 386, 4, 60, 0, .null) := by decide +kernel
theorem x_150_1 : Tr sc (d + 1) 150 (1, [l0, l1], [.ref k0], h) Q = (okp h k0 6 = true ∧ Tr sc d 60 (ent0 60 [.ref k0] h) (fun z => Tr sc (d + 1) 150 (4, [l0, l1], z.1.toList ++ [], z.2) Q)) := t_cv (as := []) (r := []) k_150_1 rfl rfl (Nat.le_of_ble_eq_true rfl) (Nat.le_of_ble_eq_true rfl) (Nat.le_of_ble_eq_true rfl)
theorem k_150_4 : lk 150 4 = some (.ifCond .ne 5, 7, 9, 0, .null) := by decide +kernel
theorem x_150_4 : Tr sc d 150 (4, [l0, l1], [.int i0], h) Q = if i0 = 0 then Tr sc d 150 (7, [l0, l1], [], h) Q else Tr sc d 150 (9, [l0, l1], [], h) Q := t_if k_150_4 rfl
theorem k_150_7 : lk 150 7 = some (.iconst 0, 8, 0, 0, .int 0) := by decide +kernel
theorem x_150_7 : Tr sc d 150 (7, [l0, l1], [], h) Q = Tr sc d 150 (8, [l0, l1], [.int 0], h) Q := t_go k_150_7 rfl
theorem k_150_8 : lk 150 8 = some (.ireturn, 9, 0, 0, .null) := by decide +kernel
theorem x_150_8 : Tr sc d 150 (8, [l0, l1], [.int i0], h) Q = Q (some (.int i0), h) := t_ret k_150_8 (by rw [r_150]; rfl)
theorem k_150_9 : lk 150 9 = some (.aload_n 1, 10, 1, 0, .null) := by decide +kernel
theorem x_150_9 : Tr sc d 150 (9, [l0, some (.ref xk)], [], h) Q = Tr sc d 150 (10, [l0, some (.ref xk)], [.ref xk], h) Q := t_aload_n k_150_9 rfl
theorem k_150_10 : lk 150 10 = some (.invokevirtual 389, 13, 61, 0, .null) := by decide +kernel
theorem x_150_10 : Tr sc (d + 1) 150 (10, [l0, l1], [.ref k0], h) Q = (okp h k0 6 = true ∧ Tr sc d 61 (ent0 61 [.ref k0] h) (fun z => Tr sc (d + 1) 150 (13, [l0, l1], z.1.toList ++ [], z.2) Q)) := t_cv (as := []) (r := []) k_150_10 rfl rfl (Nat.le_of_ble_eq_true rfl) (Nat.le_of_ble_eq_true rfl) (Nat.le_of_ble_eq_true rfl)
theorem k_150_13 : lk 150 13 = some (.ifCond .eq 5, 16, 18, 0, .null) := by decide +kernel
theorem x_150_13 : Tr sc d 150 (13, [l0, l1], [.int i0], h) Q = if i0 = 0 then Tr sc d 150 (18, [l0, l1], [], h) Q else Tr sc d 150 (16, [l0, l1], [], h) Q := t_if k_150_13 rfl
theorem k_150_16 : lk 150 16 = some (.iconst 1, 17, 0, 0, .int 1) := by decide +kernel
theorem x_150_16 : Tr sc d 150 (16, [l0, l1], [], h) Q = Tr sc d 150 (17, [l0, l1], [.int 1], h) Q := t_go k_150_16 rfl
theorem k_150_17 : lk 150 17 = some (.ireturn, 18, 0, 0, .null) := by decide +kernel
theorem x_150_17 : Tr sc d 150 (17, [l0, l1], [.int i0], h) Q = Q (some (.int i0), h) := t_ret k_150_17 (by rw [r_150]; rfl)
theorem k_150_18 : lk 150 18 = some (.aload_n 0, 19, 0, 0, .null) := by decide +kernel
theorem x_150_18 : Tr sc d 150 (18, [some (.ref xk), l1], [], h) Q = Tr sc d 150 (19, [some (.ref xk), l1], [.ref xk], h) Q := t_aload_n k_150_18 rfl
theorem k_150_19 : lk 150 19 = some (.getfield 61, 22, 9, 9, .null) := by decide +kernel
theorem x_150_19 : Tr sc d 150 (19, [l0, l1], [.ref k0], h) Q = (okp h k0 9 = true ∧ ∃ q, hR h k0 9 = some q ∧ Tr sc d 150 (22, [l0, l1], [.ref q], h) Q) := t_getr k_150_19
theorem k_150_22 : lk 150 22 = some (.aload_n 1, 23, 1, 0, .null) := by decide +kernel
theorem x_150_22 : Tr sc d 150 (22, [l0, some (.ref xk)], [.ref k0], h) Q = Tr sc d 150 (23, [l0, some (.ref xk)], [.ref xk, .ref k0], h) Q := t_aload_n k_150_22 rfl
theorem k_150_23 : lk 150 23 = some (.invokevirtual 303, 26, 72, 1, .null) := by decide +kernel
theorem x_150_23 : Tr sc (d + 1) 150 (23, [l0, l1], [.ref k1, .ref k0], h) Q = (okp h k0 7 = true ∧ Tr sc d 72 (ent0 72 [.ref k0, .ref k1] h) (fun z => Tr sc (d + 1) 150 (26, [l0, l1], z.1.toList ++ [], z.2) Q)) := t_cv (as := [.ref k1]) (r := []) k_150_23 rfl rfl (Nat.le_of_ble_eq_true rfl) (Nat.le_of_ble_eq_true rfl) (Nat.le_of_ble_eq_true rfl)
theorem k_150_26 : lk 150 26 = some (.aload_n 0, 27, 0, 0, .null) := by decide +kernel
theorem x_150_26 : Tr sc d 150 (26, [some (.ref xk), l1], [], h) Q = Tr sc d 150 (27, [some (.ref xk), l1], [.ref xk], h) Q := t_aload_n k_150_26 rfl
theorem k_150_27 : lk 150 27 = some (.getfield 61, 30, 9, 9, .null) := by decide +kernel
theorem x_150_27 : Tr sc d 150 (27, [l0, l1], [.ref k0], h) Q = (okp h k0 9 = true ∧ ∃ q, hR h k0 9 = some q ∧ Tr sc d 150 (30, [l0, l1], [.ref q], h) Q) := t_getr k_150_27
theorem k_150_30 : lk 150 30 = some (.invokevirtual 392, 33, 81, 0, .null) := by decide +kernel
theorem x_150_30 : Tr sc (d + 1) 150 (30, [l0, l1], [.ref k0], h) Q = (okp h k0 7 = true ∧ Tr sc d 81 (ent0 81 [.ref k0] h) (fun z => Tr sc (d + 1) 150 (33, [l0, l1], z.1.toList ++ [], z.2) Q)) := t_cv (as := []) (r := []) k_150_30 rfl rfl (Nat.le_of_ble_eq_true rfl) (Nat.le_of_ble_eq_true rfl) (Nat.le_of_ble_eq_true rfl)
theorem k_150_33 : lk 150 33 = some (.ifCond .eq 7, 36, 40, 0, .null) := by decide +kernel
theorem x_150_33 : Tr sc d 150 (33, [l0, l1], [.int i0], h) Q = if i0 = 0 then Tr sc d 150 (40, [l0, l1], [], h) Q else Tr sc d 150 (36, [l0, l1], [], h) Q := t_if k_150_33 rfl
theorem k_150_36 : lk 150 36 = some (.iconst 1, 37, 0, 0, .int 1) := by decide +kernel
theorem x_150_36 : Tr sc d 150 (36, [l0, l1], [], h) Q = Tr sc d 150 (37, [l0, l1], [.int 1], h) Q := t_go k_150_36 rfl
theorem k_150_37 : lk 150 37 = some (.goto 4, 40, 41, 0, .null) := by decide +kernel
theorem x_150_37 : Tr sc d 150 (37, [l0, l1], [.int i0], h) Q = Tr sc d 150 (41, [l0, l1], [.int i0], h) Q := t_go k_150_37 rfl
theorem k_150_40 : lk 150 40 = some (.iconst 2, 41, 0, 0, .int 2) := by decide +kernel
theorem x_150_40 : Tr sc d 150 (40, [l0, l1], [], h) Q = Tr sc d 150 (41, [l0, l1], [.int 2], h) Q := t_go k_150_40 rfl
theorem k_150_41 : lk 150 41 = some (.ireturn, 42, 0, 0, .null) := by decide +kernel
theorem x_150_41 : Tr sc d 150 (41, [l0, l1], [.int i0], h) Q = Q (some (.int i0), h) := t_ret k_150_41 (by rw [r_150]; rfl)
theorem e_150 : Tr sc d 150 (ent0 150 [.ref k0, .ref k1] h) Q = Tr sc d 150 (0, [some (.ref k0), some (.ref k1)], [], h) Q := by
  have e : mL 150 = 2 := by decide +kernel
  unfold ent0
  rw [e]
  rfl
theorem r_151 : mR 151 = none := by decide +kernel
theorem k_151_0 : lk 151 0 = some (.aload_n 0, 1, 0, 0, .null) := by decide +kernel
theorem x_151_0 : Tr sc d 151 (0, [some (.ref xk), l1, l2], [], h) Q = Tr sc d 151 (1, [some (.ref xk), l1, l2], [.ref xk], h) Q := t_aload_n k_151_0 rfl
theorem k_151_1 : lk 151 1 = some (.getfield 61, 4, 9, 9, .null) := by decide +kernel
theorem x_151_1 : Tr sc d 151 (1, [l0, l1, l2], [.ref k0], h) Q = (okp h k0 9 = true ∧ ∃ q, hR h k0 9 = some q ∧ Tr sc d 151 (4, [l0, l1, l2], [.ref q], h) Q) := t_getr k_151_1
theorem k_151_4 : lk 151 4 = some (.aload_n 0, 5, 0, 0, .null) := by decide +kernel
theorem x_151_4 : Tr sc d 151 (4, [some (.ref xk), l1, l2], [.ref k0], h) Q = Tr sc d 151 (5, [some (.ref xk), l1, l2], [.ref xk, .ref k0], h) Q := t_aload_n k_151_4 rfl
theorem k_151_5 : lk 151 5 = some (.getfield 20, 8, 9, 2, .null) := by decide +kernel
theorem x_151_5 : Tr sc d 151 (5, [l0, l1, l2], [.ref k1, .ref k0], h) Q = (okp h k1 9 = true ∧ ∃ q, hR h k1 2 = some q ∧ Tr sc d 151 (8, [l0, l1, l2], [.ref q, .ref k0], h) Q) := t_getr k_151_5
theorem k_151_8 : lk 151 8 = some (.iload_n 1, 9, 1, 0, .null) := by decide +kernel
theorem x_151_8 : Tr sc d 151 (8, [l0, some (.int x), l2], [.ref k1, .ref k0], h) Q = Tr sc d 151 (9, [l0, some (.int x), l2], [.int x, .ref k1, .ref k0], h) Q := t_iload_n k_151_8 rfl
theorem k_151_9 : lk 151 9 = some (.aaload, 10, 0, 0, .null) := by decide +kernel
theorem x_151_9 : Tr sc d 151 (9, [l0, l1, l2], [.int i2, .ref k1, .ref k0], h) Q = (((okp h k1 14 || okp h k1 15) && inb i2 (LN k1)) = true ∧ ∃ q, hR h k1 i2.toNatClampNeg = some q ∧ Tr sc d 151 (10, [l0, l1, l2], [.ref q, .ref k0], h) Q) := t_aald k_151_9
theorem k_151_10 : lk 151 10 = some (.invokevirtual 303, 13, 72, 1, .null) := by decide +kernel
theorem x_151_10 : Tr sc (d + 1) 151 (10, [l0, l1, l2], [.ref k1, .ref k0], h) Q = (okp h k0 7 = true ∧ Tr sc d 72 (ent0 72 [.ref k0, .ref k1] h) (fun z => Tr sc (d + 1) 151 (13, [l0, l1, l2], z.1.toList ++ [], z.2) Q)) := t_cv (as := [.ref k1]) (r := []) k_151_10 rfl rfl (Nat.le_of_ble_eq_true rfl) (Nat.le_of_ble_eq_true rfl) (Nat.le_of_ble_eq_true rfl)
theorem k_151_13 : lk 151 13 = some (.aload_n 0, 14, 0, 0, .null) := by decide +kernel
theorem x_151_13 : Tr sc d 151 (13, [some (.ref xk), l1, l2], [], h) Q = Tr sc d 151 (14, [some (.ref xk), l1, l2], [.ref xk], h) Q := t_aload_n k_151_13 rfl
theorem k_151_14 : lk 151 14 = some (.getfield 51, 17, 9, 7, .null) := by decide +kernel
theorem x_151_14 : Tr sc d 151 (14, [l0, l1, l2], [.ref k0], h) Q = (okp h k0 9 = true ∧ ∃ q, hR h k0 7 = some q ∧ Tr sc d 151 (17, [l0, l1, l2], [.ref q], h) Q) := t_getr k_151_14
theorem k_151_17 : lk 151 17 = some (.aload_n 0, 18, 0, 0, .null) := by decide +kernel
theorem x_151_17 : Tr sc d 151 (17, [some (.ref xk), l1, l2], [.ref k0], h) Q = Tr sc d 151 (18, [some (.ref xk), l1, l2], [.ref xk, .ref k0], h) Q := t_aload_n k_151_17 rfl
theorem k_151_18 : lk 151 18 = some (.getfield 20, 21, 9, 2, .null) := by decide +kernel
theorem x_151_18 : Tr sc d 151 (18, [l0, l1, l2], [.ref k1, .ref k0], h) Q = (okp h k1 9 = true ∧ ∃ q, hR h k1 2 = some q ∧ Tr sc d 151 (21, [l0, l1, l2], [.ref q, .ref k0], h) Q) := t_getr k_151_18
theorem k_151_21 : lk 151 21 = some (.iload_n 1, 22, 1, 0, .null) := by decide +kernel
theorem x_151_21 : Tr sc d 151 (21, [l0, some (.int x), l2], [.ref k1, .ref k0], h) Q = Tr sc d 151 (22, [l0, some (.int x), l2], [.int x, .ref k1, .ref k0], h) Q := t_iload_n k_151_21 rfl
theorem k_151_22 : lk 151 22 = some (.aaload, 23, 0, 0, .null) := by decide +kernel
theorem x_151_22 : Tr sc d 151 (22, [l0, l1, l2], [.int i2, .ref k1, .ref k0], h) Q = (((okp h k1 14 || okp h k1 15) && inb i2 (LN k1)) = true ∧ ∃ q, hR h k1 i2.toNatClampNeg = some q ∧ Tr sc d 151 (23, [l0, l1, l2], [.ref q, .ref k0], h) Q) := t_aald k_151_22
theorem k_151_23 : lk 151 23 = some (.iload_n 2, 24, 2, 0, .null) := by decide +kernel
theorem x_151_23 : Tr sc d 151 (23, [l0, l1, some (.int x)], [.ref k1, .ref k0], h) Q = Tr sc d 151 (24, [l0, l1, some (.int x)], [.int x, .ref k1, .ref k0], h) Q := t_iload_n k_151_23 rfl
theorem k_151_24 : lk 151 24 = some (.invokevirtual 273, 27, 10, 2, .null) := by decide +kernel
theorem x_151_24 : Tr sc (d + 1) 151 (24, [l0, l1, l2], [.int i2, .ref k1, .ref k0], h) Q = (okp h k0 1 = true ∧ Tr sc d 10 (ent0 10 [.ref k0, .ref k1, .int i2] h) (fun z => Tr sc (d + 1) 151 (27, [l0, l1, l2], z.1.toList ++ [], z.2) Q)) := t_cv (as := [.ref k1, .int i2]) (r := []) k_151_24 rfl rfl (Nat.le_of_ble_eq_true rfl) (Nat.le_of_ble_eq_true rfl) (Nat.le_of_ble_eq_true rfl)
theorem k_151_27 : lk 151 27 = some (.aload_n 0, 28, 0, 0, .null) := by decide +kernel
theorem x_151_27 : Tr sc d 151 (27, [some (.ref xk), l1, l2], [], h) Q = Tr sc d 151 (28, [some (.ref xk), l1, l2], [.ref xk], h) Q := t_aload_n k_151_27 rfl
theorem k_151_28 : lk 151 28 = some (.getfield 70, 31, 9, 10, .null) := by decide +kernel
theorem x_151_28 : Tr sc d 151 (28, [l0, l1, l2], [.ref k0], h) Q = (okp h k0 9 = true ∧ ∃ q, hR h k0 10 = some q ∧ Tr sc d 151 (31, [l0, l1, l2], [.ref q], h) Q) := t_getr k_151_28
theorem k_151_31 : lk 151 31 = some (.invokevirtual 395, 34, 23, 0, .null) := by decide +kernel
theorem x_151_31 : Tr sc (d + 1) 151 (31, [l0, l1, l2], [.ref k0], h) Q = (okp h k0 2 = true ∧ Tr sc d 23 (ent0 23 [.ref k0] h) (fun z => Tr sc (d + 1) 151 (34, [l0, l1, l2], z.1.toList ++ [], z.2) Q)) := t_cv (as := []) (r := []) k_151_31 rfl rfl (Nat.le_of_ble_eq_true rfl) (Nat.le_of_ble_eq_true rfl) (Nat.le_of_ble_eq_true rfl)
theorem k_151_34 : lk 151 34 = some (.return_, 35, 0, 0, .null) := by decide +kernel
theorem x_151_34 : Tr sc d 151 (34, [l0, l1, l2], [], h) Q = Q (none, h) := t_ret k_151_34 (by rw [r_151]; rfl)
theorem e_151 : Tr sc d 151 (ent0 151 [.ref k0, .int i1, .int i2] h) Q = Tr sc d 151 (0, [some (.ref k0), some (.int i1), some (.int i2)], [], h) Q := by
  have e : mL 151 = 3 := by decide +kernel
  unfold ent0
  rw [e]
  rfl
theorem r_152 : mR 152 = some .int := by decide +kernel
theorem k_152_0 : lk 152 0 = some (.iconst 0, 1, 0, 0, .int 0) := by decide +kernel
theorem x_152_0 : Tr sc d 152 (0, [l0, l1, l2], [], h) Q = Tr sc d 152 (1, [l0, l1, l2], [.int 0], h) Q := t_go k_152_0 rfl
theorem k_152_1 : lk 152 1 = some (.istore_n 1, 2, 1, 0, .null) := by decide +kernel
theorem x_152_1 : Tr sc d 152 (1, [l0, l1, l2], [.int i0], h) Q = Tr sc d 152 (2, [cl2 l0, some (.int i0), l2], [], h) Q := t_istore_n k_152_1 (Nat.le_of_ble_eq_true rfl)
theorem k_152_2 : lk 152 2 = some (.iconst 0, 3, 0, 0, .int 0) := by decide +kernel
theorem x_152_2 : Tr sc d 152 (2, [l0, l1, l2], [], h) Q = Tr sc d 152 (3, [l0, l1, l2], [.int 0], h) Q := t_go k_152_2 rfl
theorem k_152_3 : lk 152 3 = some (.istore_n 2, 4, 2, 0, .null) := by decide +kernel
theorem x_152_3 : Tr sc d 152 (3, [l0, l1, l2], [.int i0], h) Q = Tr sc d 152 (4, [l0, cl2 l1, some (.int i0)], [], h) Q := t_istore_n k_152_3 (Nat.le_of_ble_eq_true rfl)
theorem k_152_4 : lk 152 4 = some (.iload_n 2, 5, 2, 0, .null) := by decide +kernel
theorem x_152_4 : Tr sc d 152 (4, [l0, l1, some (.int x)], [], h) Q = Tr sc d 152 (5, [l0, l1, some (.int x)], [.int x], h) Q := t_iload_n k_152_4 rfl
theorem k_152_5 : lk 152 5 = some (.aload_n 0, 6, 0, 0, .null) := by decide +kernel
theorem x_152_5 : Tr sc d 152 (5, [some (.ref xk), l1, l2], [.int i0], h) Q = Tr sc d 152 (6, [some (.ref xk), l1, l2], [.ref xk, .int i0], h) Q := t_aload_n k_152_5 rfl
theorem k_152_6 : lk 152 6 = some (.arraylength, 7, 0, 0, .null) := by decide +kernel
theorem x_152_6 (hk : k1 < 1000) : Tr sc d 152 (6, [l0, l1, l2], [.ref k1, .int i0], h) Q = ((okp h k1 11 || (okp h k1 12 || (okp h k1 13 || (okp h k1 14 || okp h k1 15)))) = true ∧ Tr sc d 152 (7, [l0, l1, l2], [.int (Int32.ofNat (LN k1)), .int i0], h) Q) := t_gd k_152_6 (if_pos hk)
theorem k_152_7 : lk 152 7 = some (.if_icmp .ge 21, 10, 28, 0, .null) := by decide +kernel
theorem x_152_7 : Tr sc d 152 (7, [l0, l1, l2], [.int i1, .int i0], h) Q = if i1 ≤ i0 then Tr sc d 152 (28, [l0, l1, l2], [], h) Q else Tr sc d 152 (10, [l0, l1, l2], [], h) Q := t_if k_152_7 rfl
theorem k_152_10 : lk 152 10 = some (.aload_n 0, 11, 0, 0, .null) := by decide +kernel
theorem x_152_10 : Tr sc d 152 (10, [some (.ref xk), l1, l2], [], h) Q = Tr sc d 152 (11, [some (.ref xk), l1, l2], [.ref xk], h) Q := t_aload_n k_152_10 rfl
theorem k_152_11 : lk 152 11 = some (.iload_n 2, 12, 2, 0, .null) := by decide +kernel
theorem x_152_11 : Tr sc d 152 (11, [l0, l1, some (.int x)], [.ref k0], h) Q = Tr sc d 152 (12, [l0, l1, some (.int x)], [.int x, .ref k0], h) Q := t_iload_n k_152_11 rfl
theorem k_152_12 : lk 152 12 = some (.aaload, 13, 0, 0, .null) := by decide +kernel
theorem x_152_12 : Tr sc d 152 (12, [l0, l1, l2], [.int i1, .ref k0], h) Q = (((okp h k0 14 || okp h k0 15) && inb i1 (LN k0)) = true ∧ ∃ q, hR h k0 i1.toNatClampNeg = some q ∧ Tr sc d 152 (13, [l0, l1, l2], [.ref q], h) Q) := t_aald k_152_12
theorem k_152_13 : lk 152 13 = some (.invokevirtual 125, 16, 42, 0, .null) := by decide +kernel
theorem x_152_13 : Tr sc (d + 1) 152 (13, [l0, l1, l2], [.ref k0], h) Q = (okp h k0 5 = true ∧ Tr sc d 42 (ent0 42 [.ref k0] h) (fun z => Tr sc (d + 1) 152 (16, [l0, l1, l2], z.1.toList ++ [], z.2) Q)) := t_cv (as := []) (r := []) k_152_13 rfl rfl (Nat.le_of_ble_eq_true rfl) (Nat.le_of_ble_eq_true rfl) (Nat.le_of_ble_eq_true rfl)
theorem k_152_16 : lk 152 16 = some (.ifCond .ne 6, 19, 22, 0, .null) := by decide +kernel
theorem x_152_16 : Tr sc d 152 (16, [l0, l1, l2], [.int i0], h) Q = if i0 = 0 then Tr sc d 152 (19, [l0, l1, l2], [], h) Q else Tr sc d 152 (22, [l0, l1, l2], [], h) Q := t_if k_152_16 rfl
theorem k_152_19 : lk 152 19 = some (.iinc 1 1, 22, 1, 0, .int 1) := by decide +kernel
theorem x_152_19 : Tr sc d 152 (19, [l0, some (.int x), l2], [], h) Q = Tr sc d 152 (22, [cl2 l0, some (.int (x + 1)), l2], [], h) Q := t_inc k_152_19 rfl (Nat.le_of_ble_eq_true rfl)
theorem k_152_22 : lk 152 22 = some (.iinc 2 1, 25, 2, 0, .int 1) := by decide +kernel
theorem x_152_22 : Tr sc d 152 (22, [l0, l1, some (.int x)], [], h) Q = Tr sc d 152 (25, [l0, cl2 l1, some (.int (x + 1))], [], h) Q := t_inc k_152_22 rfl (Nat.le_of_ble_eq_true rfl)
theorem k_152_25 : lk 152 25 = some (.goto (-21), 28, 4, 0, .null) := by decide +kernel
theorem x_152_25 : Tr sc d 152 (25, [l0, l1, l2], [], h) Q = Tr sc d 152 (4, [l0, l1, l2], [], h) Q := t_go k_152_25 rfl
theorem k_152_28 : lk 152 28 = some (.iload_n 1, 29, 1, 0, .null) := by decide +kernel
theorem x_152_28 : Tr sc d 152 (28, [l0, some (.int x), l2], [], h) Q = Tr sc d 152 (29, [l0, some (.int x), l2], [.int x], h) Q := t_iload_n k_152_28 rfl
theorem k_152_29 : lk 152 29 = some (.ireturn, 30, 0, 0, .null) := by decide +kernel
theorem x_152_29 : Tr sc d 152 (29, [l0, l1, l2], [.int i0], h) Q = Q (some (.int i0), h) := t_ret k_152_29 (by rw [r_152]; rfl)
theorem e_152 : Tr sc d 152 (ent0 152 [.ref k0] h) Q = Tr sc d 152 (0, [some (.ref k0), none, none], [], h) Q := by
  have e : mL 152 = 3 := by decide +kernel
  unfold ent0
  rw [e]
  rfl
theorem r_153 : mR 153 = none := by decide +kernel
theorem k_153_0 : lk 153 0 = some (.lload_n 1, 1, 1, 0, .null) := by decide +kernel
theorem x_153_0 : Tr sc d 153 (0, [l0, some (.long xl), l2, l3, l4, l5, l6], [], h) Q = Tr sc d 153 (1, [l0, some (.long xl), l2, l3, l4, l5, l6], [.long xl], h) Q := t_lload_n k_153_0 rfl
theorem k_153_1 : lk 153 1 = some (.invokestatic 397, 4, 9004, 0, .null) := by decide +kernel
theorem x_153_1 : Tr sc d 153 (1, [l0, l1, l2, l3, l4, l5, l6], [.long j0], h) Q = Tr sc d 153 (4, [l0, l1, l2, l3, l4, l5, l6], [.long (if 0 < j0 then j0 else -j0)], h) Q := t_go k_153_1 rfl
theorem k_153_4 : lk 153 4 = some (.lload_n 3, 5, 3, 0, .null) := by decide +kernel
theorem x_153_4 : Tr sc d 153 (4, [l0, l1, l2, some (.long xl), l4, l5, l6], [.long j0], h) Q = Tr sc d 153 (5, [l0, l1, l2, some (.long xl), l4, l5, l6], [.long xl, .long j0], h) Q := t_lload_n k_153_4 rfl
theorem k_153_5 : lk 153 5 = some (.invokestatic 402, 8, 154, 2, .null) := by decide +kernel
theorem x_153_5 : Tr sc (d + 1) 153 (5, [l0, l1, l2, l3, l4, l5, l6], [.long j1, .long j0], h) Q = Tr sc d 154 (ent0 154 [.long j0, .long j1] h) (fun z => Tr sc (d + 1) 153 (8, [l0, l1, l2, l3, l4, l5, l6], z.1.toList ++ [], z.2) Q) := t_cs (as := [.long j0, .long j1]) (r := []) k_153_5 (by decide) rfl rfl (Nat.le_of_ble_eq_true rfl) (Nat.le_of_ble_eq_true rfl)
theorem k_153_8 : lk 153 8 = some (.lstore 5, 10, 5, 0, .null) := by decide +kernel
theorem x_153_8 : Tr sc d 153 (8, [l0, l1, l2, l3, l4, l5, l6], [.long j0], h) Q = Tr sc d 153 (10, [l0, l1, l2, l3, cl2 l4, some (.long j0), none], [], h) Q := t_lstore k_153_8 (Nat.le_of_ble_eq_true rfl)
theorem k_153_10 : lk 153 10 = some (.lload 5, 12, 5, 0, .null) := by decide +kernel
theorem x_153_10 : Tr sc d 153 (10, [l0, l1, l2, l3, l4, some (.long xl), l6], [], h) Q = Tr sc d 153 (12, [l0, l1, l2, l3, l4, some (.long xl), l6], [.long xl], h) Q := t_lload k_153_10 rfl
theorem k_153_12 : lk 153 12 = some (.lconst 0, 13, 0, 0, .long 0) := by decide +kernel
theorem x_153_12 : Tr sc d 153 (12, [l0, l1, l2, l3, l4, l5, l6], [.long j0], h) Q = Tr sc d 153 (13, [l0, l1, l2, l3, l4, l5, l6], [.long 0, .long j0], h) Q := t_go k_153_12 rfl
theorem k_153_13 : lk 153 13 = some (.lcmp, 14, 0, 0, .null) := by decide +kernel
theorem x_153_13 : Tr sc d 153 (13, [l0, l1, l2, l3, l4, l5, l6], [.long j1, .long j0], h) Q = Tr sc d 153 (14, [l0, l1, l2, l3, l4, l5, l6], [.int (lg_cmp j0 j1)], h) Q := t_go k_153_13 rfl
theorem k_153_14 : lk 153 14 = some (.ifCond .le 19, 17, 33, 0, .null) := by decide +kernel
theorem x_153_14 : Tr sc d 153 (14, [l0, l1, l2, l3, l4, l5, l6], [.int i0], h) Q = if i0 ≤ 0 then Tr sc d 153 (33, [l0, l1, l2, l3, l4, l5, l6], [], h) Q else Tr sc d 153 (17, [l0, l1, l2, l3, l4, l5, l6], [], h) Q := t_if k_153_14 rfl
theorem k_153_17 : lk 153 17 = some (.aload_n 0, 18, 0, 0, .null) := by decide +kernel
theorem x_153_17 : Tr sc d 153 (17, [some (.ref xk), l1, l2, l3, l4, l5, l6], [], h) Q = Tr sc d 153 (18, [some (.ref xk), l1, l2, l3, l4, l5, l6], [.ref xk], h) Q := t_aload_n k_153_17 rfl
theorem k_153_18 : lk 153 18 = some (.lload_n 1, 19, 1, 0, .null) := by decide +kernel
theorem x_153_18 : Tr sc d 153 (18, [l0, some (.long xl), l2, l3, l4, l5, l6], [.ref k0], h) Q = Tr sc d 153 (19, [l0, some (.long xl), l2, l3, l4, l5, l6], [.long xl, .ref k0], h) Q := t_lload_n k_153_18 rfl
theorem k_153_19 : lk 153 19 = some (.lload 5, 21, 5, 0, .null) := by decide +kernel
theorem x_153_19 : Tr sc d 153 (19, [l0, l1, l2, l3, l4, some (.long xl), l6], [.long j1, .ref k0], h) Q = Tr sc d 153 (21, [l0, l1, l2, l3, l4, some (.long xl), l6], [.long xl, .long j1, .ref k0], h) Q := t_lload k_153_19 rfl
theorem k_153_21 : lk 153 21 = some (.ldiv, 22, 0, 0, .null) := by decide +kernel
theorem x_153_21 : Tr sc d 153 (21, [l0, l1, l2, l3, l4, l5, l6], [.long j2, .long j1, .ref k0], h) Q = (¬ j2 = 0 ∧ Tr sc d 153 (22, [l0, l1, l2, l3, l4, l5, l6], [.long (j1 / j2), .ref k0], h) Q) := t_ng k_153_21 rfl
theorem k_153_22 : lk 153 22 = some (.putfield 105, 25, 9, 17, .long 0) := by decide +kernel
theorem x_153_22 : Tr sc d 153 (22, [l0, l1, l2, l3, l4, l5, l6], [.long j1, .ref k0], h) Q = (okp h k0 9 = true ∧ Tr sc d 153 (25, [l0, l1, l2, l3, l4, l5, l6], [], (sL h k0 17 j1)) Q) := t_gd k_153_22 rfl
theorem k_153_25 : lk 153 25 = some (.aload_n 0, 26, 0, 0, .null) := by decide +kernel
theorem x_153_25 : Tr sc d 153 (25, [some (.ref xk), l1, l2, l3, l4, l5, l6], [], h) Q = Tr sc d 153 (26, [some (.ref xk), l1, l2, l3, l4, l5, l6], [.ref xk], h) Q := t_aload_n k_153_25 rfl
theorem k_153_26 : lk 153 26 = some (.lload_n 3, 27, 3, 0, .null) := by decide +kernel
theorem x_153_26 : Tr sc d 153 (26, [l0, l1, l2, some (.long xl), l4, l5, l6], [.ref k0], h) Q = Tr sc d 153 (27, [l0, l1, l2, some (.long xl), l4, l5, l6], [.long xl, .ref k0], h) Q := t_lload_n k_153_26 rfl
theorem k_153_27 : lk 153 27 = some (.lload 5, 29, 5, 0, .null) := by decide +kernel
theorem x_153_27 : Tr sc d 153 (27, [l0, l1, l2, l3, l4, some (.long xl), l6], [.long j1, .ref k0], h) Q = Tr sc d 153 (29, [l0, l1, l2, l3, l4, some (.long xl), l6], [.long xl, .long j1, .ref k0], h) Q := t_lload k_153_27 rfl
theorem k_153_29 : lk 153 29 = some (.ldiv, 30, 0, 0, .null) := by decide +kernel
theorem x_153_29 : Tr sc d 153 (29, [l0, l1, l2, l3, l4, l5, l6], [.long j2, .long j1, .ref k0], h) Q = (¬ j2 = 0 ∧ Tr sc d 153 (30, [l0, l1, l2, l3, l4, l5, l6], [.long (j1 / j2), .ref k0], h) Q) := t_ng k_153_29 rfl
theorem k_153_30 : lk 153 30 = some (.putfield 108, 33, 9, 18, .long 0) := by decide +kernel
theorem x_153_30 : Tr sc d 153 (30, [l0, l1, l2, l3, l4, l5, l6], [.long j1, .ref k0], h) Q = (okp h k0 9 = true ∧ Tr sc d 153 (33, [l0, l1, l2, l3, l4, l5, l6], [], (sL h k0 18 j1)) Q) := t_gd k_153_30 rfl
theorem k_153_33 : lk 153 33 = some (.return_, 34, 0, 0, .null) := by decide +kernel
theorem x_153_33 : Tr sc d 153 (33, [l0, l1, l2, l3, l4, l5, l6], [], h) Q = Q (none, h) := t_ret k_153_33 (by rw [r_153]; rfl)
theorem e_153 : Tr sc d 153 (ent0 153 [.ref k0, .long j1, .long j2] h) Q = Tr sc d 153 (0, [some (.ref k0), some (.long j1), none, some (.long j2), none, none, none], [], h) Q := by
  have e : mL 153 = 7 := by decide +kernel
  unfold ent0
  rw [e]
  rfl
theorem r_154 : mR 154 = some .long := by decide +kernel
theorem k_154_0 : lk 154 0 = some (.iconst 0, 1, 0, 0, .int 0) := by decide +kernel
theorem x_154_0 : Tr sc d 154 (0, [l0, l1, l2, l3, l4, l5, l6], [], h) Q = Tr sc d 154 (1, [l0, l1, l2, l3, l4, l5, l6], [.int 0], h) Q := t_go k_154_0 rfl
theorem k_154_1 : lk 154 1 = some (.istore 4, 3, 4, 0, .null) := by decide +kernel
theorem x_154_1 : Tr sc d 154 (1, [l0, l1, l2, l3, l4, l5, l6], [.int i0], h) Q = Tr sc d 154 (3, [l0, l1, l2, cl2 l3, some (.int i0), l5, l6], [], h) Q := t_istore k_154_1 (Nat.le_of_ble_eq_true rfl)
theorem k_154_3 : lk 154 3 = some (.iload 4, 5, 4, 0, .null) := by decide +kernel
theorem x_154_3 : Tr sc d 154 (3, [l0, l1, l2, l3, some (.int x), l5, l6], [], h) Q = Tr sc d 154 (5, [l0, l1, l2, l3, some (.int x), l5, l6], [.int x], h) Q := t_iload k_154_3 rfl
theorem k_154_5 : lk 154 5 = some (.ldc_w 406, 8, 0, 810, .int 1000000) := by decide +kernel
theorem x_154_5 : Tr sc d 154 (5, [l0, l1, l2, l3, l4, l5, l6], [.int i0], h) Q = Tr sc d 154 (8, [l0, l1, l2, l3, l4, l5, l6], [.int 1000000, .int i0], h) Q := t_go k_154_5 rfl
theorem k_154_8 : lk 154 8 = some (.if_icmp .ge 25, 11, 33, 0, .null) := by decide +kernel
theorem x_154_8 : Tr sc d 154 (8, [l0, l1, l2, l3, l4, l5, l6], [.int i1, .int i0], h) Q = if i1 ≤ i0 then Tr sc d 154 (33, [l0, l1, l2, l3, l4, l5, l6], [], h) Q else Tr sc d 154 (11, [l0, l1, l2, l3, l4, l5, l6], [], h) Q := t_if k_154_8 rfl
theorem k_154_11 : lk 154 11 = some (.lload_n 2, 12, 2, 0, .null) := by decide +kernel
theorem x_154_11 : Tr sc d 154 (11, [l0, l1, some (.long xl), l3, l4, l5, l6], [], h) Q = Tr sc d 154 (12, [l0, l1, some (.long xl), l3, l4, l5, l6], [.long xl], h) Q := t_lload_n k_154_11 rfl
theorem k_154_12 : lk 154 12 = some (.lconst 0, 13, 0, 0, .long 0) := by decide +kernel
theorem x_154_12 : Tr sc d 154 (12, [l0, l1, l2, l3, l4, l5, l6], [.long j0], h) Q = Tr sc d 154 (13, [l0, l1, l2, l3, l4, l5, l6], [.long 0, .long j0], h) Q := t_go k_154_12 rfl
theorem k_154_13 : lk 154 13 = some (.lcmp, 14, 0, 0, .null) := by decide +kernel
theorem x_154_13 : Tr sc d 154 (13, [l0, l1, l2, l3, l4, l5, l6], [.long j1, .long j0], h) Q = Tr sc d 154 (14, [l0, l1, l2, l3, l4, l5, l6], [.int (lg_cmp j0 j1)], h) Q := t_go k_154_13 rfl
theorem k_154_14 : lk 154 14 = some (.ifCond .eq 19, 17, 33, 0, .null) := by decide +kernel
theorem x_154_14 : Tr sc d 154 (14, [l0, l1, l2, l3, l4, l5, l6], [.int i0], h) Q = if i0 = 0 then Tr sc d 154 (33, [l0, l1, l2, l3, l4, l5, l6], [], h) Q else Tr sc d 154 (17, [l0, l1, l2, l3, l4, l5, l6], [], h) Q := t_if k_154_14 rfl
theorem k_154_17 : lk 154 17 = some (.lload_n 0, 18, 0, 0, .null) := by decide +kernel
theorem x_154_17 : Tr sc d 154 (17, [some (.long xl), l1, l2, l3, l4, l5, l6], [], h) Q = Tr sc d 154 (18, [some (.long xl), l1, l2, l3, l4, l5, l6], [.long xl], h) Q := t_lload_n k_154_17 rfl
theorem k_154_18 : lk 154 18 = some (.lload_n 2, 19, 2, 0, .null) := by decide +kernel
theorem x_154_18 : Tr sc d 154 (18, [l0, l1, some (.long xl), l3, l4, l5, l6], [.long j0], h) Q = Tr sc d 154 (19, [l0, l1, some (.long xl), l3, l4, l5, l6], [.long xl, .long j0], h) Q := t_lload_n k_154_18 rfl
theorem k_154_19 : lk 154 19 = some (.lrem, 20, 0, 0, .null) := by decide +kernel
theorem x_154_19 : Tr sc d 154 (19, [l0, l1, l2, l3, l4, l5, l6], [.long j1, .long j0], h) Q = (¬ j1 = 0 ∧ Tr sc d 154 (20, [l0, l1, l2, l3, l4, l5, l6], [.long (j0 - j0 / j1 * j1)], h) Q) := t_ng k_154_19 rfl
theorem k_154_20 : lk 154 20 = some (.lstore 5, 22, 5, 0, .null) := by decide +kernel
theorem x_154_20 : Tr sc d 154 (20, [l0, l1, l2, l3, l4, l5, l6], [.long j0], h) Q = Tr sc d 154 (22, [l0, l1, l2, l3, cl2 l4, some (.long j0), none], [], h) Q := t_lstore k_154_20 (Nat.le_of_ble_eq_true rfl)
theorem k_154_22 : lk 154 22 = some (.lload_n 2, 23, 2, 0, .null) := by decide +kernel
theorem x_154_22 : Tr sc d 154 (22, [l0, l1, some (.long xl), l3, l4, l5, l6], [], h) Q = Tr sc d 154 (23, [l0, l1, some (.long xl), l3, l4, l5, l6], [.long xl], h) Q := t_lload_n k_154_22 rfl
theorem k_154_23 : lk 154 23 = some (.lstore_n 0, 24, 0, 0, .null) := by decide +kernel
theorem x_154_23 : Tr sc d 154 (23, [l0, l1, l2, l3, l4, l5, l6], [.long j0], h) Q = Tr sc d 154 (24, [some (.long j0), none, l2, l3, l4, l5, l6], [], h) Q := t_lstore_n k_154_23 (Nat.le_of_ble_eq_true rfl)
theorem k_154_24 : lk 154 24 = some (.lload 5, 26, 5, 0, .null) := by decide +kernel
theorem x_154_24 : Tr sc d 154 (24, [l0, l1, l2, l3, l4, some (.long xl), l6], [], h) Q = Tr sc d 154 (26, [l0, l1, l2, l3, l4, some (.long xl), l6], [.long xl], h) Q := t_lload k_154_24 rfl
theorem k_154_26 : lk 154 26 = some (.lstore_n 2, 27, 2, 0, .null) := by decide +kernel
theorem x_154_26 : Tr sc d 154 (26, [l0, l1, l2, l3, l4, l5, l6], [.long j0], h) Q = Tr sc d 154 (27, [l0, cl2 l1, some (.long j0), none, l4, l5, l6], [], h) Q := t_lstore_n k_154_26 (Nat.le_of_ble_eq_true rfl)
theorem k_154_27 : lk 154 27 = some (.iinc 4 1, 30, 4, 0, .int 1) := by decide +kernel
theorem x_154_27 : Tr sc d 154 (27, [l0, l1, l2, l3, some (.int x), l5, l6], [], h) Q = Tr sc d 154 (30, [l0, l1, l2, cl2 l3, some (.int (x + 1)), l5, l6], [], h) Q := t_inc k_154_27 rfl (Nat.le_of_ble_eq_true rfl)
theorem k_154_30 : lk 154 30 = some (.goto (-27), 33, 3, 0, .null) := by decide +kernel
theorem x_154_30 : Tr sc d 154 (30, [l0, l1, l2, l3, l4, l5, l6], [], h) Q = Tr sc d 154 (3, [l0, l1, l2, l3, l4, l5, l6], [], h) Q := t_go k_154_30 rfl
theorem k_154_33 : lk 154 33 = some (.lload_n 0, 34, 0, 0, .null) := by decide +kernel
theorem x_154_33 : Tr sc d 154 (33, [some (.long xl), l1, l2, l3, l4, l5, l6], [], h) Q = Tr sc d 154 (34, [some (.long xl), l1, l2, l3, l4, l5, l6], [.long xl], h) Q := t_lload_n k_154_33 rfl
theorem k_154_34 : lk 154 34 = some (.lreturn, 35, 0, 0, .null) := by decide +kernel
theorem x_154_34 : Tr sc d 154 (34, [l0, l1, l2, l3, l4, l5, l6], [.long j0], h) Q = Q (some (.long j0), h) := t_ret k_154_34 (by rw [r_154]; rfl)
theorem e_154 : Tr sc d 154 (ent0 154 [.long j0, .long j1] h) Q = Tr sc d 154 (0, [some (.long j0), none, some (.long j1), none, none, none, none], [], h) Q := by
  have e : mL 154 = 7 := by decide +kernel
  unfold ent0
  rw [e]
  rfl
end XX
