section XX
variable {sc : Nat × (Nat → Int32)} {d : Nat} {Q : PRes → Prop} {h : PH} {l0 l1 l2 l3 l4 l5 l6 l7 l8 l9 l10 l11 l12 l13 l14 l15 l16 l17 l18 l19 l20 l21 l22 l23 l24 l25 l26 l27 : Option Value} {x i0 i1 i2 i3 i4 i5 i6 i7 i8 i9 i10 i11 : Int32} {xl j0 j1 j2 j3 j4 j5 j6 j7 j8 j9 j10 j11 : Int64} {xk k0 k1 k2 k3 k4 k5 k6 k7 k8 k9 k10 k11 : Nat}
theorem r_96 : mR 96 = none := by decide +kernel
theorem k_96_0 : lk 96 0 = some (.aload_n 0, 1, 0, 0, .null) := by decide +kernel
theorem x_96_0 : Tr sc d 96 (0, [some (.ref xk), l1], [], h) Q = Tr sc d 96 (1, [some (.ref xk), l1], [.ref xk], h) Q := t_aload_n k_96_0 rfl
theorem k_96_1 : lk 96 1 = some (.invokespecial 1, 4, 9000, 0, .null) := by decide +kernel
theorem x_96_1 : Tr sc d 96 (1, [l0, l1], [.ref k0], h) Q = Tr sc d 96 (4, [l0, l1], [], h) Q := t_go k_96_1 rfl
theorem k_96_4 : lk 96 4 = some (.aload_n 0, 5, 0, 0, .null) := by decide +kernel
theorem x_96_4 : Tr sc d 96 (4, [some (.ref xk), l1], [], h) Q = Tr sc d 96 (5, [some (.ref xk), l1], [.ref xk], h) Q := t_aload_n k_96_4 rfl
theorem k_96_5 : lk 96 5 = some (.bipush 6, 7, 0, 0, .int 6) := by decide +kernel
theorem x_96_5 : Tr sc d 96 (5, [l0, l1], [.ref k0], h) Q = Tr sc d 96 (7, [l0, l1], [.int 6, .ref k0], h) Q := t_go k_96_5 rfl
theorem k_96_7 : lk 96 7 = some (.anewarray 9, 10, 14, 107, .null) := by decide +kernel
theorem x_96_7 : Tr sc d 96 (7, [l0, l1], [.int i1, .ref k0], h) Q = ((hN h < 1000 ∧ TG (hN h) = 14 ∧ (¬ i1 < 0) ∧ LN (hN h) = i1.toNatClampNeg ∧ LN (hN h) ≤ 60000) ∧ Tr sc d 96 (10, [l0, l1], [.ref (hN h), .ref k0], nH h) Q) := t_gd k_96_7 rfl
theorem k_96_10 : lk 96 10 = some (.putfield 11, 13, 9, 0, .null) := by decide +kernel
theorem x_96_10 : Tr sc d 96 (10, [l0, l1], [.ref k1, .ref k0], h) Q = (okp h k0 9 = true ∧ Tr sc d 96 (13, [l0, l1], [], (sR h k0 0 (some k1))) Q) := t_gd k_96_10 rfl
theorem k_96_13 : lk 96 13 = some (.aload_n 0, 14, 0, 0, .null) := by decide +kernel
theorem x_96_13 : Tr sc d 96 (13, [some (.ref xk), l1], [], h) Q = Tr sc d 96 (14, [some (.ref xk), l1], [.ref xk], h) Q := t_aload_n k_96_13 rfl
theorem k_96_14 : lk 96 14 = some (.iconst 4, 15, 0, 0, .int 4) := by decide +kernel
theorem x_96_14 : Tr sc d 96 (14, [l0, l1], [.ref k0], h) Q = Tr sc d 96 (15, [l0, l1], [.int 4, .ref k0], h) Q := t_go k_96_14 rfl
theorem k_96_15 : lk 96 15 = some (.anewarray 9, 18, 14, 107, .null) := by decide +kernel
theorem x_96_15 : Tr sc d 96 (15, [l0, l1], [.int i1, .ref k0], h) Q = ((hN h < 1000 ∧ TG (hN h) = 14 ∧ (¬ i1 < 0) ∧ LN (hN h) = i1.toNatClampNeg ∧ LN (hN h) ≤ 60000) ∧ Tr sc d 96 (18, [l0, l1], [.ref (hN h), .ref k0], nH h) Q) := t_gd k_96_15 rfl
theorem k_96_18 : lk 96 18 = some (.putfield 15, 21, 9, 1, .null) := by decide +kernel
theorem x_96_18 : Tr sc d 96 (18, [l0, l1], [.ref k1, .ref k0], h) Q = (okp h k0 9 = true ∧ Tr sc d 96 (21, [l0, l1], [], (sR h k0 1 (some k1))) Q) := t_gd k_96_18 rfl
theorem k_96_21 : lk 96 21 = some (.aload_n 0, 22, 0, 0, .null) := by decide +kernel
theorem x_96_21 : Tr sc d 96 (21, [some (.ref xk), l1], [], h) Q = Tr sc d 96 (22, [some (.ref xk), l1], [.ref xk], h) Q := t_aload_n k_96_21 rfl
theorem k_96_22 : lk 96 22 = some (.bipush 8, 24, 0, 0, .int 8) := by decide +kernel
theorem x_96_22 : Tr sc d 96 (22, [l0, l1], [.ref k0], h) Q = Tr sc d 96 (24, [l0, l1], [.int 8, .ref k0], h) Q := t_go k_96_22 rfl
theorem k_96_24 : lk 96 24 = some (.anewarray 18, 27, 15, 109, .null) := by decide +kernel
theorem x_96_24 : Tr sc d 96 (24, [l0, l1], [.int i1, .ref k0], h) Q = ((hN h < 1000 ∧ TG (hN h) = 15 ∧ (¬ i1 < 0) ∧ LN (hN h) = i1.toNatClampNeg ∧ LN (hN h) ≤ 60000) ∧ Tr sc d 96 (27, [l0, l1], [.ref (hN h), .ref k0], nH h) Q) := t_gd k_96_24 rfl
theorem k_96_27 : lk 96 27 = some (.putfield 20, 30, 9, 2, .null) := by decide +kernel
theorem x_96_27 : Tr sc d 96 (27, [l0, l1], [.ref k1, .ref k0], h) Q = (okp h k0 9 = true ∧ Tr sc d 96 (30, [l0, l1], [], (sR h k0 2 (some k1))) Q) := t_gd k_96_27 rfl
theorem k_96_30 : lk 96 30 = some (.aload_n 0, 31, 0, 0, .null) := by decide +kernel
theorem x_96_30 : Tr sc d 96 (30, [some (.ref xk), l1], [], h) Q = Tr sc d 96 (31, [some (.ref xk), l1], [.ref xk], h) Q := t_aload_n k_96_30 rfl
theorem k_96_31 : lk 96 31 = some (.new 18, 34, 6, 109, .null) := by decide +kernel
theorem x_96_31 : Tr sc d 96 (31, [l0, l1], [.ref k0], h) Q = ((hN h < 1000 ∧ TG (hN h) = 6 ∧ 6 < 11) ∧ Tr sc d 96 (34, [l0, l1], [.ref (hN h), .ref k0], nH h) Q) := t_gd k_96_31 rfl
theorem k_96_34 : lk 96 34 = some (.dup, 35, 0, 0, .null) := by decide +kernel
theorem x_96_34 : Tr sc d 96 (34, [l0, l1], [.ref k1, .ref k0], h) Q = Tr sc d 96 (35, [l0, l1], [.ref k1, .ref k1, .ref k0], h) Q := t_go k_96_34 rfl
theorem k_96_35 : lk 96 35 = some (.invokespecial 24, 38, 47, 0, .null) := by decide +kernel
theorem x_96_35 : Tr sc (d + 1) 96 (35, [l0, l1], [.ref k2, .ref k1, .ref k0], h) Q = (okp h k2 6 = true ∧ Tr sc d 47 (ent0 47 [.ref k2] h) (fun z => Tr sc (d + 1) 96 (38, [l0, l1], z.1.toList ++ [.ref k1, .ref k0], z.2) Q)) := t_cp (as := []) (r := [.ref k1, .ref k0]) k_96_35 (by decide) rfl rfl (Nat.le_of_ble_eq_true rfl) (Nat.le_of_ble_eq_true rfl) (Nat.le_of_ble_eq_true rfl)
theorem k_96_38 : lk 96 38 = some (.putfield 25, 41, 9, 3, .null) := by decide +kernel
theorem x_96_38 : Tr sc d 96 (38, [l0, l1], [.ref k1, .ref k0], h) Q = (okp h k0 9 = true ∧ Tr sc d 96 (41, [l0, l1], [], (sR h k0 3 (some k1))) Q) := t_gd k_96_38 rfl
theorem k_96_41 : lk 96 41 = some (.aload_n 0, 42, 0, 0, .null) := by decide +kernel
theorem x_96_41 : Tr sc d 96 (41, [some (.ref xk), l1], [], h) Q = Tr sc d 96 (42, [some (.ref xk), l1], [.ref xk], h) Q := t_aload_n k_96_41 rfl
theorem k_96_42 : lk 96 42 = some (.new 29, 45, 4, 167, .null) := by decide +kernel
theorem x_96_42 : Tr sc d 96 (42, [l0, l1], [.ref k0], h) Q = ((hN h < 1000 ∧ TG (hN h) = 4 ∧ 4 < 11) ∧ Tr sc d 96 (45, [l0, l1], [.ref (hN h), .ref k0], nH h) Q) := t_gd k_96_42 rfl
theorem k_96_45 : lk 96 45 = some (.dup, 46, 0, 0, .null) := by decide +kernel
theorem x_96_45 : Tr sc d 96 (45, [l0, l1], [.ref k1, .ref k0], h) Q = Tr sc d 96 (46, [l0, l1], [.ref k1, .ref k1, .ref k0], h) Q := t_go k_96_45 rfl
theorem k_96_46 : lk 96 46 = some (.invokespecial 31, 49, 35, 0, .null) := by decide +kernel
theorem x_96_46 : Tr sc (d + 1) 96 (46, [l0, l1], [.ref k2, .ref k1, .ref k0], h) Q = (okp h k2 4 = true ∧ Tr sc d 35 (ent0 35 [.ref k2] h) (fun z => Tr sc (d + 1) 96 (49, [l0, l1], z.1.toList ++ [.ref k1, .ref k0], z.2) Q)) := t_cp (as := []) (r := [.ref k1, .ref k0]) k_96_46 (by decide) rfl rfl (Nat.le_of_ble_eq_true rfl) (Nat.le_of_ble_eq_true rfl) (Nat.le_of_ble_eq_true rfl)
theorem k_96_49 : lk 96 49 = some (.putfield 32, 52, 9, 4, .null) := by decide +kernel
theorem x_96_49 : Tr sc d 96 (49, [l0, l1], [.ref k1, .ref k0], h) Q = (okp h k0 9 = true ∧ Tr sc d 96 (52, [l0, l1], [], (sR h k0 4 (some k1))) Q) := t_gd k_96_49 rfl
theorem k_96_52 : lk 96 52 = some (.aload_n 0, 53, 0, 0, .null) := by decide +kernel
theorem x_96_52 : Tr sc d 96 (52, [some (.ref xk), l1], [], h) Q = Tr sc d 96 (53, [some (.ref xk), l1], [.ref xk], h) Q := t_aload_n k_96_52 rfl
theorem k_96_53 : lk 96 53 = some (.new 36, 56, 0, 203, .null) := by decide +kernel
theorem x_96_53 : Tr sc d 96 (53, [l0, l1], [.ref k0], h) Q = ((hN h < 1000 ∧ TG (hN h) = 0 ∧ 0 < 11) ∧ Tr sc d 96 (56, [l0, l1], [.ref (hN h), .ref k0], nH h) Q) := t_gd k_96_53 rfl
theorem k_96_56 : lk 96 56 = some (.dup, 57, 0, 0, .null) := by decide +kernel
theorem x_96_56 : Tr sc d 96 (56, [l0, l1], [.ref k1, .ref k0], h) Q = Tr sc d 96 (57, [l0, l1], [.ref k1, .ref k1, .ref k0], h) Q := t_go k_96_56 rfl
theorem k_96_57 : lk 96 57 = some (.invokespecial 38, 60, 0, 0, .null) := by decide +kernel
theorem x_96_57 : Tr sc (d + 1) 96 (57, [l0, l1], [.ref k2, .ref k1, .ref k0], h) Q = (okp h k2 0 = true ∧ Tr sc d 0 (ent0 0 [.ref k2] h) (fun z => Tr sc (d + 1) 96 (60, [l0, l1], z.1.toList ++ [.ref k1, .ref k0], z.2) Q)) := t_cp (as := []) (r := [.ref k1, .ref k0]) k_96_57 (by decide) rfl rfl (Nat.le_of_ble_eq_true rfl) (Nat.le_of_ble_eq_true rfl) (Nat.le_of_ble_eq_true rfl)
theorem k_96_60 : lk 96 60 = some (.putfield 39, 63, 9, 5, .null) := by decide +kernel
theorem x_96_60 : Tr sc d 96 (60, [l0, l1], [.ref k1, .ref k0], h) Q = (okp h k0 9 = true ∧ Tr sc d 96 (63, [l0, l1], [], (sR h k0 5 (some k1))) Q) := t_gd k_96_60 rfl
theorem k_96_63 : lk 96 63 = some (.aload_n 0, 64, 0, 0, .null) := by decide +kernel
theorem x_96_63 : Tr sc d 96 (63, [some (.ref xk), l1], [], h) Q = Tr sc d 96 (64, [some (.ref xk), l1], [.ref xk], h) Q := t_aload_n k_96_63 rfl
theorem k_96_64 : lk 96 64 = some (.new 36, 67, 0, 203, .null) := by decide +kernel
theorem x_96_64 : Tr sc d 96 (64, [l0, l1], [.ref k0], h) Q = ((hN h < 1000 ∧ TG (hN h) = 0 ∧ 0 < 11) ∧ Tr sc d 96 (67, [l0, l1], [.ref (hN h), .ref k0], nH h) Q) := t_gd k_96_64 rfl
theorem k_96_67 : lk 96 67 = some (.dup, 68, 0, 0, .null) := by decide +kernel
theorem x_96_67 : Tr sc d 96 (67, [l0, l1], [.ref k1, .ref k0], h) Q = Tr sc d 96 (68, [l0, l1], [.ref k1, .ref k1, .ref k0], h) Q := t_go k_96_67 rfl
theorem k_96_68 : lk 96 68 = some (.invokespecial 38, 71, 0, 0, .null) := by decide +kernel
theorem x_96_68 : Tr sc (d + 1) 96 (68, [l0, l1], [.ref k2, .ref k1, .ref k0], h) Q = (okp h k2 0 = true ∧ Tr sc d 0 (ent0 0 [.ref k2] h) (fun z => Tr sc (d + 1) 96 (71, [l0, l1], z.1.toList ++ [.ref k1, .ref k0], z.2) Q)) := t_cp (as := []) (r := [.ref k1, .ref k0]) k_96_68 (by decide) rfl rfl (Nat.le_of_ble_eq_true rfl) (Nat.le_of_ble_eq_true rfl) (Nat.le_of_ble_eq_true rfl)
theorem k_96_71 : lk 96 71 = some (.putfield 43, 74, 9, 6, .null) := by decide +kernel
theorem x_96_71 : Tr sc d 96 (71, [l0, l1], [.ref k1, .ref k0], h) Q = (okp h k0 9 = true ∧ Tr sc d 96 (74, [l0, l1], [], (sR h k0 6 (some k1))) Q) := t_gd k_96_71 rfl
theorem k_96_74 : lk 96 74 = some (.aload_n 0, 75, 0, 0, .null) := by decide +kernel
theorem x_96_74 : Tr sc d 96 (74, [some (.ref xk), l1], [], h) Q = Tr sc d 96 (75, [some (.ref xk), l1], [.ref xk], h) Q := t_aload_n k_96_74 rfl
theorem k_96_75 : lk 96 75 = some (.new 46, 78, 1, 238, .null) := by decide +kernel
theorem x_96_75 : Tr sc d 96 (75, [l0, l1], [.ref k0], h) Q = ((hN h < 1000 ∧ TG (hN h) = 1 ∧ 1 < 11) ∧ Tr sc d 96 (78, [l0, l1], [.ref (hN h), .ref k0], nH h) Q) := t_gd k_96_75 rfl
theorem k_96_78 : lk 96 78 = some (.dup, 79, 0, 0, .null) := by decide +kernel
theorem x_96_78 : Tr sc d 96 (78, [l0, l1], [.ref k1, .ref k0], h) Q = Tr sc d 96 (79, [l0, l1], [.ref k1, .ref k1, .ref k0], h) Q := t_go k_96_78 rfl
theorem k_96_79 : lk 96 79 = some (.sipush 7776, 82, 0, 0, .int 7776) := by decide +kernel
theorem x_96_79 : Tr sc d 96 (79, [l0, l1], [.ref k2, .ref k1, .ref k0], h) Q = Tr sc d 96 (82, [l0, l1], [.int 7776, .ref k2, .ref k1, .ref k0], h) Q := t_go k_96_79 rfl
theorem k_96_82 : lk 96 82 = some (.sipush 16384, 85, 0, 0, .int 16384) := by decide +kernel
theorem x_96_82 : Tr sc d 96 (82, [l0, l1], [.int i3, .ref k2, .ref k1, .ref k0], h) Q = Tr sc d 96 (85, [l0, l1], [.int 16384, .int i3, .ref k2, .ref k1, .ref k0], h) Q := t_go k_96_82 rfl
theorem k_96_85 : lk 96 85 = some (.invokespecial 48, 88, 8, 2, .null) := by decide +kernel
theorem x_96_85 : Tr sc (d + 1) 96 (85, [l0, l1], [.int i4, .int i3, .ref k2, .ref k1, .ref k0], h) Q = (okp h k2 1 = true ∧ Tr sc d 8 (ent0 8 [.ref k2, .int i3, .int i4] h) (fun z => Tr sc (d + 1) 96 (88, [l0, l1], z.1.toList ++ [.ref k1, .ref k0], z.2) Q)) := t_cp (as := [.int i3, .int i4]) (r := [.ref k1, .ref k0]) k_96_85 (by decide) rfl rfl (Nat.le_of_ble_eq_true rfl) (Nat.le_of_ble_eq_true rfl) (Nat.le_of_ble_eq_true rfl)
theorem k_96_88 : lk 96 88 = some (.putfield 51, 91, 9, 7, .null) := by decide +kernel
theorem x_96_88 : Tr sc d 96 (88, [l0, l1], [.ref k1, .ref k0], h) Q = (okp h k0 9 = true ∧ Tr sc d 96 (91, [l0, l1], [], (sR h k0 7 (some k1))) Q) := t_gd k_96_88 rfl
theorem k_96_91 : lk 96 91 = some (.aload_n 0, 92, 0, 0, .null) := by decide +kernel
theorem x_96_91 : Tr sc d 96 (91, [some (.ref xk), l1], [], h) Q = Tr sc d 96 (92, [some (.ref xk), l1], [.ref xk], h) Q := t_aload_n k_96_91 rfl
theorem k_96_92 : lk 96 92 = some (.new 46, 95, 1, 238, .null) := by decide +kernel
theorem x_96_92 : Tr sc d 96 (92, [l0, l1], [.ref k0], h) Q = ((hN h < 1000 ∧ TG (hN h) = 1 ∧ 1 < 11) ∧ Tr sc d 96 (95, [l0, l1], [.ref (hN h), .ref k0], nH h) Q) := t_gd k_96_92 rfl
theorem k_96_95 : lk 96 95 = some (.dup, 96, 0, 0, .null) := by decide +kernel
theorem x_96_95 : Tr sc d 96 (95, [l0, l1], [.ref k1, .ref k0], h) Q = Tr sc d 96 (96, [l0, l1], [.ref k1, .ref k1, .ref k0], h) Q := t_go k_96_95 rfl
theorem k_96_96 : lk 96 96 = some (.sipush 1296, 99, 0, 0, .int 1296) := by decide +kernel
theorem x_96_96 : Tr sc d 96 (96, [l0, l1], [.ref k2, .ref k1, .ref k0], h) Q = Tr sc d 96 (99, [l0, l1], [.int 1296, .ref k2, .ref k1, .ref k0], h) Q := t_go k_96_96 rfl
theorem k_96_99 : lk 96 99 = some (.sipush 4096, 102, 0, 0, .int 4096) := by decide +kernel
theorem x_96_99 : Tr sc d 96 (99, [l0, l1], [.int i3, .ref k2, .ref k1, .ref k0], h) Q = Tr sc d 96 (102, [l0, l1], [.int 4096, .int i3, .ref k2, .ref k1, .ref k0], h) Q := t_go k_96_99 rfl
theorem k_96_102 : lk 96 102 = some (.invokespecial 48, 105, 8, 2, .null) := by decide +kernel
theorem x_96_102 : Tr sc (d + 1) 96 (102, [l0, l1], [.int i4, .int i3, .ref k2, .ref k1, .ref k0], h) Q = (okp h k2 1 = true ∧ Tr sc d 8 (ent0 8 [.ref k2, .int i3, .int i4] h) (fun z => Tr sc (d + 1) 96 (105, [l0, l1], z.1.toList ++ [.ref k1, .ref k0], z.2) Q)) := t_cp (as := [.int i3, .int i4]) (r := [.ref k1, .ref k0]) k_96_102 (by decide) rfl rfl (Nat.le_of_ble_eq_true rfl) (Nat.le_of_ble_eq_true rfl) (Nat.le_of_ble_eq_true rfl)
theorem k_96_105 : lk 96 105 = some (.putfield 55, 108, 9, 8, .null) := by decide +kernel
theorem x_96_105 : Tr sc d 96 (105, [l0, l1], [.ref k1, .ref k0], h) Q = (okp h k0 9 = true ∧ Tr sc d 96 (108, [l0, l1], [], (sR h k0 8 (some k1))) Q) := t_gd k_96_105 rfl
theorem k_96_108 : lk 96 108 = some (.aload_n 0, 109, 0, 0, .null) := by decide +kernel
theorem x_96_108 : Tr sc d 96 (108, [some (.ref xk), l1], [], h) Q = Tr sc d 96 (109, [some (.ref xk), l1], [.ref xk], h) Q := t_aload_n k_96_108 rfl
theorem k_96_109 : lk 96 109 = some (.new 58, 112, 7, 289, .null) := by decide +kernel
theorem x_96_109 : Tr sc d 96 (109, [l0, l1], [.ref k0], h) Q = ((hN h < 1000 ∧ TG (hN h) = 7 ∧ 7 < 11) ∧ Tr sc d 96 (112, [l0, l1], [.ref (hN h), .ref k0], nH h) Q) := t_gd k_96_109 rfl
theorem k_96_112 : lk 96 112 = some (.dup, 113, 0, 0, .null) := by decide +kernel
theorem x_96_112 : Tr sc d 96 (112, [l0, l1], [.ref k1, .ref k0], h) Q = Tr sc d 96 (113, [l0, l1], [.ref k1, .ref k1, .ref k0], h) Q := t_go k_96_112 rfl
theorem k_96_113 : lk 96 113 = some (.invokespecial 60, 116, 72, 0, .null) := by decide +kernel
theorem x_96_113 : Tr sc (d + 1) 96 (113, [l0, l1], [.ref k2, .ref k1, .ref k0], h) Q = (okp h k2 7 = true ∧ Tr sc d 72 (ent0 72 [.ref k2] h) (fun z => Tr sc (d + 1) 96 (116, [l0, l1], z.1.toList ++ [.ref k1, .ref k0], z.2) Q)) := t_cp (as := []) (r := [.ref k1, .ref k0]) k_96_113 (by decide) rfl rfl (Nat.le_of_ble_eq_true rfl) (Nat.le_of_ble_eq_true rfl) (Nat.le_of_ble_eq_true rfl)
theorem k_96_116 : lk 96 116 = some (.putfield 61, 119, 9, 9, .null) := by decide +kernel
theorem x_96_116 : Tr sc d 96 (116, [l0, l1], [.ref k1, .ref k0], h) Q = (okp h k0 9 = true ∧ Tr sc d 96 (119, [l0, l1], [], (sR h k0 9 (some k1))) Q) := t_gd k_96_116 rfl
theorem k_96_119 : lk 96 119 = some (.aload_n 0, 120, 0, 0, .null) := by decide +kernel
theorem x_96_119 : Tr sc d 96 (119, [some (.ref xk), l1], [], h) Q = Tr sc d 96 (120, [some (.ref xk), l1], [.ref xk], h) Q := t_aload_n k_96_119 rfl
theorem k_96_120 : lk 96 120 = some (.new 65, 123, 2, 336, .null) := by decide +kernel
theorem x_96_120 : Tr sc d 96 (120, [l0, l1], [.ref k0], h) Q = ((hN h < 1000 ∧ TG (hN h) = 2 ∧ 2 < 11) ∧ Tr sc d 96 (123, [l0, l1], [.ref (hN h), .ref k0], nH h) Q) := t_gd k_96_120 rfl
theorem k_96_123 : lk 96 123 = some (.dup, 124, 0, 0, .null) := by decide +kernel
theorem x_96_123 : Tr sc d 96 (123, [l0, l1], [.ref k1, .ref k0], h) Q = Tr sc d 96 (124, [l0, l1], [.ref k1, .ref k1, .ref k0], h) Q := t_go k_96_123 rfl
theorem k_96_124 : lk 96 124 = some (.aload_n 0, 125, 0, 0, .null) := by decide +kernel
theorem x_96_124 : Tr sc d 96 (124, [some (.ref xk), l1], [.ref k2, .ref k1, .ref k0], h) Q = Tr sc d 96 (125, [some (.ref xk), l1], [.ref xk, .ref k2, .ref k1, .ref k0], h) Q := t_aload_n k_96_124 rfl
theorem k_96_125 : lk 96 125 = some (.getfield 51, 128, 9, 7, .null) := by decide +kernel
theorem x_96_125 : Tr sc d 96 (125, [l0, l1], [.ref k3, .ref k2, .ref k1, .ref k0], h) Q = (okp h k3 9 = true ∧ ∃ q, hR h k3 7 = some q ∧ Tr sc d 96 (128, [l0, l1], [.ref q, .ref k2, .ref k1, .ref k0], h) Q) := t_getr k_96_125
theorem k_96_128 : lk 96 128 = some (.aload_n 0, 129, 0, 0, .null) := by decide +kernel
theorem x_96_128 : Tr sc d 96 (128, [some (.ref xk), l1], [.ref k3, .ref k2, .ref k1, .ref k0], h) Q = Tr sc d 96 (129, [some (.ref xk), l1], [.ref xk, .ref k3, .ref k2, .ref k1, .ref k0], h) Q := t_aload_n k_96_128 rfl
theorem k_96_129 : lk 96 129 = some (.getfield 61, 132, 9, 9, .null) := by decide +kernel
theorem x_96_129 : Tr sc d 96 (129, [l0, l1], [.ref k4, .ref k3, .ref k2, .ref k1, .ref k0], h) Q = (okp h k4 9 = true ∧ ∃ q, hR h k4 9 = some q ∧ Tr sc d 96 (132, [l0, l1], [.ref q, .ref k3, .ref k2, .ref k1, .ref k0], h) Q) := t_getr k_96_129
theorem k_96_132 : lk 96 132 = some (.invokespecial 67, 135, 22, 2, .null) := by decide +kernel
theorem x_96_132 : Tr sc (d + 1) 96 (132, [l0, l1], [.ref k4, .ref k3, .ref k2, .ref k1, .ref k0], h) Q = (okp h k2 2 = true ∧ Tr sc d 22 (ent0 22 [.ref k2, .ref k3, .ref k4] h) (fun z => Tr sc (d + 1) 96 (135, [l0, l1], z.1.toList ++ [.ref k1, .ref k0], z.2) Q)) := t_cp (as := [.ref k3, .ref k4]) (r := [.ref k1, .ref k0]) k_96_132 (by decide) rfl rfl (Nat.le_of_ble_eq_true rfl) (Nat.le_of_ble_eq_true rfl) (Nat.le_of_ble_eq_true rfl)
theorem k_96_135 : lk 96 135 = some (.putfield 70, 138, 9, 10, .null) := by decide +kernel
theorem x_96_135 : Tr sc d 96 (135, [l0, l1], [.ref k1, .ref k0], h) Q = (okp h k0 9 = true ∧ Tr sc d 96 (138, [l0, l1], [], (sR h k0 10 (some k1))) Q) := t_gd k_96_135 rfl
theorem k_96_138 : lk 96 138 = some (.aload_n 0, 139, 0, 0, .null) := by decide +kernel
theorem x_96_138 : Tr sc d 96 (138, [some (.ref xk), l1], [], h) Q = Tr sc d 96 (139, [some (.ref xk), l1], [.ref xk], h) Q := t_aload_n k_96_138 rfl
theorem k_96_139 : lk 96 139 = some (.new 74, 142, 8, 391, .null) := by decide +kernel
theorem x_96_139 : Tr sc d 96 (139, [l0, l1], [.ref k0], h) Q = ((hN h < 1000 ∧ TG (hN h) = 8 ∧ 8 < 11) ∧ Tr sc d 96 (142, [l0, l1], [.ref (hN h), .ref k0], nH h) Q) := t_gd k_96_139 rfl
theorem k_96_142 : lk 96 142 = some (.dup, 143, 0, 0, .null) := by decide +kernel
theorem x_96_142 : Tr sc d 96 (142, [l0, l1], [.ref k1, .ref k0], h) Q = Tr sc d 96 (143, [l0, l1], [.ref k1, .ref k1, .ref k0], h) Q := t_go k_96_142 rfl
theorem k_96_143 : lk 96 143 = some (.aload_n 0, 144, 0, 0, .null) := by decide +kernel
theorem x_96_143 : Tr sc d 96 (143, [some (.ref xk), l1], [.ref k2, .ref k1, .ref k0], h) Q = Tr sc d 96 (144, [some (.ref xk), l1], [.ref xk, .ref k2, .ref k1, .ref k0], h) Q := t_aload_n k_96_143 rfl
theorem k_96_144 : lk 96 144 = some (.getfield 51, 147, 9, 7, .null) := by decide +kernel
theorem x_96_144 : Tr sc d 96 (144, [l0, l1], [.ref k3, .ref k2, .ref k1, .ref k0], h) Q = (okp h k3 9 = true ∧ ∃ q, hR h k3 7 = some q ∧ Tr sc d 96 (147, [l0, l1], [.ref q, .ref k2, .ref k1, .ref k0], h) Q) := t_getr k_96_144
theorem k_96_147 : lk 96 147 = some (.invokespecial 76, 150, 86, 1, .null) := by decide +kernel
theorem x_96_147 : Tr sc (d + 1) 96 (147, [l0, l1], [.ref k3, .ref k2, .ref k1, .ref k0], h) Q = (okp h k2 8 = true ∧ Tr sc d 86 (ent0 86 [.ref k2, .ref k3] h) (fun z => Tr sc (d + 1) 96 (150, [l0, l1], z.1.toList ++ [.ref k1, .ref k0], z.2) Q)) := t_cp (as := [.ref k3]) (r := [.ref k1, .ref k0]) k_96_147 (by decide) rfl rfl (Nat.le_of_ble_eq_true rfl) (Nat.le_of_ble_eq_true rfl) (Nat.le_of_ble_eq_true rfl)
theorem k_96_150 : lk 96 150 = some (.putfield 79, 153, 9, 11, .null) := by decide +kernel
theorem x_96_150 : Tr sc d 96 (150, [l0, l1], [.ref k1, .ref k0], h) Q = (okp h k0 9 = true ∧ Tr sc d 96 (153, [l0, l1], [], (sR h k0 11 (some k1))) Q) := t_gd k_96_150 rfl
theorem k_96_153 : lk 96 153 = some (.aload_n 0, 154, 0, 0, .null) := by decide +kernel
theorem x_96_153 : Tr sc d 96 (153, [some (.ref xk), l1], [], h) Q = Tr sc d 96 (154, [some (.ref xk), l1], [.ref xk], h) Q := t_aload_n k_96_153 rfl
theorem k_96_154 : lk 96 154 = some (.new 83, 157, 3, 428, .null) := by decide +kernel
theorem x_96_154 : Tr sc d 96 (154, [l0, l1], [.ref k0], h) Q = ((hN h < 1000 ∧ TG (hN h) = 3 ∧ 3 < 11) ∧ Tr sc d 96 (157, [l0, l1], [.ref (hN h), .ref k0], nH h) Q) := t_gd k_96_154 rfl
theorem k_96_157 : lk 96 157 = some (.dup, 158, 0, 0, .null) := by decide +kernel
theorem x_96_157 : Tr sc d 96 (157, [l0, l1], [.ref k1, .ref k0], h) Q = Tr sc d 96 (158, [l0, l1], [.ref k1, .ref k1, .ref k0], h) Q := t_go k_96_157 rfl
theorem k_96_158 : lk 96 158 = some (.invokespecial 85, 161, 30, 0, .null) := by decide +kernel
theorem x_96_158 : Tr sc (d + 1) 96 (158, [l0, l1], [.ref k2, .ref k1, .ref k0], h) Q = (okp h k2 3 = true ∧ Tr sc d 30 (ent0 30 [.ref k2] h) (fun z => Tr sc (d + 1) 96 (161, [l0, l1], z.1.toList ++ [.ref k1, .ref k0], z.2) Q)) := t_cp (as := []) (r := [.ref k1, .ref k0]) k_96_158 (by decide) rfl rfl (Nat.le_of_ble_eq_true rfl) (Nat.le_of_ble_eq_true rfl) (Nat.le_of_ble_eq_true rfl)
theorem k_96_161 : lk 96 161 = some (.putfield 86, 164, 9, 12, .null) := by decide +kernel
theorem x_96_161 : Tr sc d 96 (161, [l0, l1], [.ref k1, .ref k0], h) Q = (okp h k0 9 = true ∧ Tr sc d 96 (164, [l0, l1], [], (sR h k0 12 (some k1))) Q) := t_gd k_96_161 rfl
theorem k_96_164 : lk 96 164 = some (.aload_n 0, 165, 0, 0, .null) := by decide +kernel
theorem x_96_164 : Tr sc d 96 (164, [some (.ref xk), l1], [], h) Q = Tr sc d 96 (165, [some (.ref xk), l1], [.ref xk], h) Q := t_aload_n k_96_164 rfl
theorem k_96_165 : lk 96 165 = some (.bipush 6, 167, 0, 0, .int 6) := by decide +kernel
theorem x_96_165 : Tr sc d 96 (165, [l0, l1], [.ref k0], h) Q = Tr sc d 96 (167, [l0, l1], [.int 6, .ref k0], h) Q := t_go k_96_165 rfl
theorem k_96_167 : lk 96 167 = some (.newarray .int, 169, 11, 0, .null) := by decide +kernel
theorem x_96_167 : Tr sc d 96 (167, [l0, l1], [.int i1, .ref k0], h) Q = ((hN h < 1000 ∧ TG (hN h) = 11 ∧ (¬ i1 < 0) ∧ LN (hN h) = i1.toNatClampNeg ∧ LN (hN h) ≤ 60000) ∧ Tr sc d 96 (169, [l0, l1], [.ref (hN h), .ref k0], nH h) Q) := t_gd k_96_167 rfl
theorem k_96_169 : lk 96 169 = some (.putfield 90, 172, 9, 13, .null) := by decide +kernel
theorem x_96_169 : Tr sc d 96 (169, [l0, l1], [.ref k1, .ref k0], h) Q = (okp h k0 9 = true ∧ Tr sc d 96 (172, [l0, l1], [], (sR h k0 13 (some k1))) Q) := t_gd k_96_169 rfl
theorem k_96_172 : lk 96 172 = some (.aload_n 0, 173, 0, 0, .null) := by decide +kernel
theorem x_96_172 : Tr sc d 96 (172, [some (.ref xk), l1], [], h) Q = Tr sc d 96 (173, [some (.ref xk), l1], [.ref xk], h) Q := t_aload_n k_96_172 rfl
theorem k_96_173 : lk 96 173 = some (.iconst 0, 174, 0, 0, .int 0) := by decide +kernel
theorem x_96_173 : Tr sc d 96 (173, [l0, l1], [.ref k0], h) Q = Tr sc d 96 (174, [l0, l1], [.int 0, .ref k0], h) Q := t_go k_96_173 rfl
theorem k_96_174 : lk 96 174 = some (.putfield 94, 177, 9, 14, .int 0) := by decide +kernel
theorem x_96_174 : Tr sc d 96 (174, [l0, l1], [.int i1, .ref k0], h) Q = (okp h k0 9 = true ∧ Tr sc d 96 (177, [l0, l1], [], (sI h k0 14 i1)) Q) := t_gd k_96_174 rfl
theorem k_96_177 : lk 96 177 = some (.aload_n 0, 178, 0, 0, .null) := by decide +kernel
theorem x_96_177 : Tr sc d 96 (177, [some (.ref xk), l1], [], h) Q = Tr sc d 96 (178, [some (.ref xk), l1], [.ref xk], h) Q := t_aload_n k_96_177 rfl
theorem k_96_178 : lk 96 178 = some (.iconst 0, 179, 0, 0, .int 0) := by decide +kernel
theorem x_96_178 : Tr sc d 96 (178, [l0, l1], [.ref k0], h) Q = Tr sc d 96 (179, [l0, l1], [.int 0, .ref k0], h) Q := t_go k_96_178 rfl
theorem k_96_179 : lk 96 179 = some (.putfield 98, 182, 9, 15, .int 0) := by decide +kernel
theorem x_96_179 : Tr sc d 96 (179, [l0, l1], [.int i1, .ref k0], h) Q = (okp h k0 9 = true ∧ Tr sc d 96 (182, [l0, l1], [], (sI h k0 15 i1)) Q) := t_gd k_96_179 rfl
theorem k_96_182 : lk 96 182 = some (.aload_n 0, 183, 0, 0, .null) := by decide +kernel
theorem x_96_182 : Tr sc d 96 (182, [some (.ref xk), l1], [], h) Q = Tr sc d 96 (183, [some (.ref xk), l1], [.ref xk], h) Q := t_aload_n k_96_182 rfl
theorem k_96_183 : lk 96 183 = some (.lconst 0, 184, 0, 0, .long 0) := by decide +kernel
theorem x_96_183 : Tr sc d 96 (183, [l0, l1], [.ref k0], h) Q = Tr sc d 96 (184, [l0, l1], [.long 0, .ref k0], h) Q := t_go k_96_183 rfl
theorem k_96_184 : lk 96 184 = some (.putfield 101, 187, 9, 16, .long 0) := by decide +kernel
theorem x_96_184 : Tr sc d 96 (184, [l0, l1], [.long j1, .ref k0], h) Q = (okp h k0 9 = true ∧ Tr sc d 96 (187, [l0, l1], [], (sL h k0 16 j1)) Q) := t_gd k_96_184 rfl
theorem k_96_187 : lk 96 187 = some (.aload_n 0, 188, 0, 0, .null) := by decide +kernel
theorem x_96_187 : Tr sc d 96 (187, [some (.ref xk), l1], [], h) Q = Tr sc d 96 (188, [some (.ref xk), l1], [.ref xk], h) Q := t_aload_n k_96_187 rfl
theorem k_96_188 : lk 96 188 = some (.lconst 0, 189, 0, 0, .long 0) := by decide +kernel
theorem x_96_188 : Tr sc d 96 (188, [l0, l1], [.ref k0], h) Q = Tr sc d 96 (189, [l0, l1], [.long 0, .ref k0], h) Q := t_go k_96_188 rfl
theorem k_96_189 : lk 96 189 = some (.putfield 105, 192, 9, 17, .long 0) := by decide +kernel
theorem x_96_189 : Tr sc d 96 (189, [l0, l1], [.long j1, .ref k0], h) Q = (okp h k0 9 = true ∧ Tr sc d 96 (192, [l0, l1], [], (sL h k0 17 j1)) Q) := t_gd k_96_189 rfl
theorem k_96_192 : lk 96 192 = some (.aload_n 0, 193, 0, 0, .null) := by decide +kernel
theorem x_96_192 : Tr sc d 96 (192, [some (.ref xk), l1], [], h) Q = Tr sc d 96 (193, [some (.ref xk), l1], [.ref xk], h) Q := t_aload_n k_96_192 rfl
theorem k_96_193 : lk 96 193 = some (.lconst 1, 194, 0, 0, .long 1) := by decide +kernel
theorem x_96_193 : Tr sc d 96 (193, [l0, l1], [.ref k0], h) Q = Tr sc d 96 (194, [l0, l1], [.long 1, .ref k0], h) Q := t_go k_96_193 rfl
theorem k_96_194 : lk 96 194 = some (.putfield 108, 197, 9, 18, .long 0) := by decide +kernel
theorem x_96_194 : Tr sc d 96 (194, [l0, l1], [.long j1, .ref k0], h) Q = (okp h k0 9 = true ∧ Tr sc d 96 (197, [l0, l1], [], (sL h k0 18 j1)) Q) := t_gd k_96_194 rfl
theorem k_96_197 : lk 96 197 = some (.iconst 0, 198, 0, 0, .int 0) := by decide +kernel
theorem x_96_197 : Tr sc d 96 (197, [l0, l1], [], h) Q = Tr sc d 96 (198, [l0, l1], [.int 0], h) Q := t_go k_96_197 rfl
theorem k_96_198 : lk 96 198 = some (.istore_n 1, 199, 1, 0, .null) := by decide +kernel
theorem x_96_198 : Tr sc d 96 (198, [l0, l1], [.int i0], h) Q = Tr sc d 96 (199, [cl2 l0, some (.int i0)], [], h) Q := t_istore_n k_96_198 (Nat.le_of_ble_eq_true rfl)
theorem k_96_199 : lk 96 199 = some (.iload_n 1, 200, 1, 0, .null) := by decide +kernel
theorem x_96_199 : Tr sc d 96 (199, [l0, some (.int x)], [], h) Q = Tr sc d 96 (200, [l0, some (.int x)], [.int x], h) Q := t_iload_n k_96_199 rfl
theorem k_96_200 : lk 96 200 = some (.bipush 6, 202, 0, 0, .int 6) := by decide +kernel
theorem x_96_200 : Tr sc d 96 (200, [l0, l1], [.int i0], h) Q = Tr sc d 96 (202, [l0, l1], [.int 6, .int i0], h) Q := t_go k_96_200 rfl
theorem k_96_202 : lk 96 202 = some (.if_icmp .ge 24, 205, 226, 0, .null) := by decide +kernel
theorem x_96_202 : Tr sc d 96 (202, [l0, l1], [.int i1, .int i0], h) Q = if i1 ≤ i0 then Tr sc d 96 (226, [l0, l1], [], h) Q else Tr sc d 96 (205, [l0, l1], [], h) Q := t_if k_96_202 rfl
theorem k_96_205 : lk 96 205 = some (.aload_n 0, 206, 0, 0, .null) := by decide +kernel
theorem x_96_205 : Tr sc d 96 (205, [some (.ref xk), l1], [], h) Q = Tr sc d 96 (206, [some (.ref xk), l1], [.ref xk], h) Q := t_aload_n k_96_205 rfl
theorem k_96_206 : lk 96 206 = some (.getfield 11, 209, 9, 0, .null) := by decide +kernel
theorem x_96_206 : Tr sc d 96 (206, [l0, l1], [.ref k0], h) Q = (okp h k0 9 = true ∧ ∃ q, hR h k0 0 = some q ∧ Tr sc d 96 (209, [l0, l1], [.ref q], h) Q) := t_getr k_96_206
theorem k_96_209 : lk 96 209 = some (.iload_n 1, 210, 1, 0, .null) := by decide +kernel
theorem x_96_209 : Tr sc d 96 (209, [l0, some (.int x)], [.ref k0], h) Q = Tr sc d 96 (210, [l0, some (.int x)], [.int x, .ref k0], h) Q := t_iload_n k_96_209 rfl
theorem k_96_210 : lk 96 210 = some (.new 9, 213, 5, 107, .null) := by decide +kernel
theorem x_96_210 : Tr sc d 96 (210, [l0, l1], [.int i1, .ref k0], h) Q = ((hN h < 1000 ∧ TG (hN h) = 5 ∧ 5 < 11) ∧ Tr sc d 96 (213, [l0, l1], [.ref (hN h), .int i1, .ref k0], nH h) Q) := t_gd k_96_210 rfl
theorem k_96_213 : lk 96 213 = some (.dup, 214, 0, 0, .null) := by decide +kernel
theorem x_96_213 : Tr sc d 96 (213, [l0, l1], [.ref k2, .int i1, .ref k0], h) Q = Tr sc d 96 (214, [l0, l1], [.ref k2, .ref k2, .int i1, .ref k0], h) Q := t_go k_96_213 rfl
theorem k_96_214 : lk 96 214 = some (.bipush 40, 216, 0, 0, .int 40) := by decide +kernel
theorem x_96_214 : Tr sc d 96 (214, [l0, l1], [.ref k3, .ref k2, .int i1, .ref k0], h) Q = Tr sc d 96 (216, [l0, l1], [.int 40, .ref k3, .ref k2, .int i1, .ref k0], h) Q := t_go k_96_214 rfl
theorem k_96_216 : lk 96 216 = some (.invokespecial 111, 219, 40, 1, .null) := by decide +kernel
theorem x_96_216 : Tr sc (d + 1) 96 (216, [l0, l1], [.int i4, .ref k3, .ref k2, .int i1, .ref k0], h) Q = (okp h k3 5 = true ∧ Tr sc d 40 (ent0 40 [.ref k3, .int i4] h) (fun z => Tr sc (d + 1) 96 (219, [l0, l1], z.1.toList ++ [.ref k2, .int i1, .ref k0], z.2) Q)) := t_cp (as := [.int i4]) (r := [.ref k2, .int i1, .ref k0]) k_96_216 (by decide) rfl rfl (Nat.le_of_ble_eq_true rfl) (Nat.le_of_ble_eq_true rfl) (Nat.le_of_ble_eq_true rfl)
theorem k_96_219 : lk 96 219 = some (.aastore, 220, 0, 0, .null) := by decide +kernel
theorem x_96_219 : Tr sc d 96 (219, [l0, l1], [.ref k2, .int i1, .ref k0], h) Q = ((((okp h k0 14 && okp h k2 5) || (okp h k0 15 && okp h k2 6)) && inb i1 (LN k0)) = true ∧ Tr sc d 96 (220, [l0, l1], [], (sR h k0 i1.toNatClampNeg (some k2))) Q) := t_gd k_96_219 rfl
theorem k_96_220 : lk 96 220 = some (.iinc 1 1, 223, 1, 0, .int 1) := by decide +kernel
theorem x_96_220 : Tr sc d 96 (220, [l0, some (.int x)], [], h) Q = Tr sc d 96 (223, [cl2 l0, some (.int (x + 1))], [], h) Q := t_inc k_96_220 rfl (Nat.le_of_ble_eq_true rfl)
theorem k_96_223 : lk 96 223 = some (.goto (-24), 226, 199, 0, .null) := by decide +kernel
theorem x_96_223 : Tr sc d 96 (223, [l0, l1], [], h) Q = Tr sc d 96 (199, [l0, l1], [], h) Q := t_go k_96_223 rfl
theorem k_96_226 : lk 96 226 = some (.iconst 0, 227, 0, 0, .int 0) := by decide +kernel
theorem x_96_226 : Tr sc d 96 (226, [l0, l1], [], h) Q = Tr sc d 96 (227, [l0, l1], [.int 0], h) Q := t_go k_96_226 rfl
theorem k_96_227 : lk 96 227 = some (.istore_n 1, 228, 1, 0, .null) := by decide +kernel
theorem x_96_227 : Tr sc d 96 (227, [l0, l1], [.int i0], h) Q = Tr sc d 96 (228, [cl2 l0, some (.int i0)], [], h) Q := t_istore_n k_96_227 (Nat.le_of_ble_eq_true rfl)
theorem k_96_228 : lk 96 228 = some (.iload_n 1, 229, 1, 0, .null) := by decide +kernel
theorem x_96_228 : Tr sc d 96 (228, [l0, some (.int x)], [], h) Q = Tr sc d 96 (229, [l0, some (.int x)], [.int x], h) Q := t_iload_n k_96_228 rfl
theorem k_96_229 : lk 96 229 = some (.iconst 4, 230, 0, 0, .int 4) := by decide +kernel
theorem x_96_229 : Tr sc d 96 (229, [l0, l1], [.int i0], h) Q = Tr sc d 96 (230, [l0, l1], [.int 4, .int i0], h) Q := t_go k_96_229 rfl
theorem k_96_230 : lk 96 230 = some (.if_icmp .ge 24, 233, 254, 0, .null) := by decide +kernel
theorem x_96_230 : Tr sc d 96 (230, [l0, l1], [.int i1, .int i0], h) Q = if i1 ≤ i0 then Tr sc d 96 (254, [l0, l1], [], h) Q else Tr sc d 96 (233, [l0, l1], [], h) Q := t_if k_96_230 rfl
theorem k_96_233 : lk 96 233 = some (.aload_n 0, 234, 0, 0, .null) := by decide +kernel
theorem x_96_233 : Tr sc d 96 (233, [some (.ref xk), l1], [], h) Q = Tr sc d 96 (234, [some (.ref xk), l1], [.ref xk], h) Q := t_aload_n k_96_233 rfl
theorem k_96_234 : lk 96 234 = some (.getfield 15, 237, 9, 1, .null) := by decide +kernel
theorem x_96_234 : Tr sc d 96 (234, [l0, l1], [.ref k0], h) Q = (okp h k0 9 = true ∧ ∃ q, hR h k0 1 = some q ∧ Tr sc d 96 (237, [l0, l1], [.ref q], h) Q) := t_getr k_96_234
theorem k_96_237 : lk 96 237 = some (.iload_n 1, 238, 1, 0, .null) := by decide +kernel
theorem x_96_237 : Tr sc d 96 (237, [l0, some (.int x)], [.ref k0], h) Q = Tr sc d 96 (238, [l0, some (.int x)], [.int x, .ref k0], h) Q := t_iload_n k_96_237 rfl
theorem k_96_238 : lk 96 238 = some (.new 9, 241, 5, 107, .null) := by decide +kernel
theorem x_96_238 : Tr sc d 96 (238, [l0, l1], [.int i1, .ref k0], h) Q = ((hN h < 1000 ∧ TG (hN h) = 5 ∧ 5 < 11) ∧ Tr sc d 96 (241, [l0, l1], [.ref (hN h), .int i1, .ref k0], nH h) Q) := t_gd k_96_238 rfl
theorem k_96_241 : lk 96 241 = some (.dup, 242, 0, 0, .null) := by decide +kernel
theorem x_96_241 : Tr sc d 96 (241, [l0, l1], [.ref k2, .int i1, .ref k0], h) Q = Tr sc d 96 (242, [l0, l1], [.ref k2, .ref k2, .int i1, .ref k0], h) Q := t_go k_96_241 rfl
theorem k_96_242 : lk 96 242 = some (.bipush 60, 244, 0, 0, .int 60) := by decide +kernel
theorem x_96_242 : Tr sc d 96 (242, [l0, l1], [.ref k3, .ref k2, .int i1, .ref k0], h) Q = Tr sc d 96 (244, [l0, l1], [.int 60, .ref k3, .ref k2, .int i1, .ref k0], h) Q := t_go k_96_242 rfl
theorem k_96_244 : lk 96 244 = some (.invokespecial 111, 247, 40, 1, .null) := by decide +kernel
theorem x_96_244 : Tr sc (d + 1) 96 (244, [l0, l1], [.int i4, .ref k3, .ref k2, .int i1, .ref k0], h) Q = (okp h k3 5 = true ∧ Tr sc d 40 (ent0 40 [.ref k3, .int i4] h) (fun z => Tr sc (d + 1) 96 (247, [l0, l1], z.1.toList ++ [.ref k2, .int i1, .ref k0], z.2) Q)) := t_cp (as := [.int i4]) (r := [.ref k2, .int i1, .ref k0]) k_96_244 (by decide) rfl rfl (Nat.le_of_ble_eq_true rfl) (Nat.le_of_ble_eq_true rfl) (Nat.le_of_ble_eq_true rfl)
theorem k_96_247 : lk 96 247 = some (.aastore, 248, 0, 0, .null) := by decide +kernel
theorem x_96_247 : Tr sc d 96 (247, [l0, l1], [.ref k2, .int i1, .ref k0], h) Q = ((((okp h k0 14 && okp h k2 5) || (okp h k0 15 && okp h k2 6)) && inb i1 (LN k0)) = true ∧ Tr sc d 96 (248, [l0, l1], [], (sR h k0 i1.toNatClampNeg (some k2))) Q) := t_gd k_96_247 rfl
theorem k_96_248 : lk 96 248 = some (.iinc 1 1, 251, 1, 0, .int 1) := by decide +kernel
theorem x_96_248 : Tr sc d 96 (248, [l0, some (.int x)], [], h) Q = Tr sc d 96 (251, [cl2 l0, some (.int (x + 1))], [], h) Q := t_inc k_96_248 rfl (Nat.le_of_ble_eq_true rfl)
theorem k_96_251 : lk 96 251 = some (.goto (-23), 254, 228, 0, .null) := by decide +kernel
theorem x_96_251 : Tr sc d 96 (251, [l0, l1], [], h) Q = Tr sc d 96 (228, [l0, l1], [], h) Q := t_go k_96_251 rfl
theorem k_96_254 : lk 96 254 = some (.iconst 0, 255, 0, 0, .int 0) := by decide +kernel
theorem x_96_254 : Tr sc d 96 (254, [l0, l1], [], h) Q = Tr sc d 96 (255, [l0, l1], [.int 0], h) Q := t_go k_96_254 rfl
theorem k_96_255 : lk 96 255 = some (.istore_n 1, 256, 1, 0, .null) := by decide +kernel
theorem x_96_255 : Tr sc d 96 (255, [l0, l1], [.int i0], h) Q = Tr sc d 96 (256, [cl2 l0, some (.int i0)], [], h) Q := t_istore_n k_96_255 (Nat.le_of_ble_eq_true rfl)
theorem k_96_256 : lk 96 256 = some (.iload_n 1, 257, 1, 0, .null) := by decide +kernel
theorem x_96_256 : Tr sc d 96 (256, [l0, some (.int x)], [], h) Q = Tr sc d 96 (257, [l0, some (.int x)], [.int x], h) Q := t_iload_n k_96_256 rfl
theorem k_96_257 : lk 96 257 = some (.bipush 8, 259, 0, 0, .int 8) := by decide +kernel
theorem x_96_257 : Tr sc d 96 (257, [l0, l1], [.int i0], h) Q = Tr sc d 96 (259, [l0, l1], [.int 8, .int i0], h) Q := t_go k_96_257 rfl
theorem k_96_259 : lk 96 259 = some (.if_icmp .ge 22, 262, 281, 0, .null) := by decide +kernel
theorem x_96_259 : Tr sc d 96 (259, [l0, l1], [.int i1, .int i0], h) Q = if i1 ≤ i0 then Tr sc d 96 (281, [l0, l1], [], h) Q else Tr sc d 96 (262, [l0, l1], [], h) Q := t_if k_96_259 rfl
theorem k_96_262 : lk 96 262 = some (.aload_n 0, 263, 0, 0, .null) := by decide +kernel
theorem x_96_262 : Tr sc d 96 (262, [some (.ref xk), l1], [], h) Q = Tr sc d 96 (263, [some (.ref xk), l1], [.ref xk], h) Q := t_aload_n k_96_262 rfl
theorem k_96_263 : lk 96 263 = some (.getfield 20, 266, 9, 2, .null) := by decide +kernel
theorem x_96_263 : Tr sc d 96 (263, [l0, l1], [.ref k0], h) Q = (okp h k0 9 = true ∧ ∃ q, hR h k0 2 = some q ∧ Tr sc d 96 (266, [l0, l1], [.ref q], h) Q) := t_getr k_96_263
theorem k_96_266 : lk 96 266 = some (.iload_n 1, 267, 1, 0, .null) := by decide +kernel
theorem x_96_266 : Tr sc d 96 (266, [l0, some (.int x)], [.ref k0], h) Q = Tr sc d 96 (267, [l0, some (.int x)], [.int x, .ref k0], h) Q := t_iload_n k_96_266 rfl
theorem k_96_267 : lk 96 267 = some (.new 18, 270, 6, 109, .null) := by decide +kernel
theorem x_96_267 : Tr sc d 96 (267, [l0, l1], [.int i1, .ref k0], h) Q = ((hN h < 1000 ∧ TG (hN h) = 6 ∧ 6 < 11) ∧ Tr sc d 96 (270, [l0, l1], [.ref (hN h), .int i1, .ref k0], nH h) Q) := t_gd k_96_267 rfl
theorem k_96_270 : lk 96 270 = some (.dup, 271, 0, 0, .null) := by decide +kernel
theorem x_96_270 : Tr sc d 96 (270, [l0, l1], [.ref k2, .int i1, .ref k0], h) Q = Tr sc d 96 (271, [l0, l1], [.ref k2, .ref k2, .int i1, .ref k0], h) Q := t_go k_96_270 rfl
theorem k_96_271 : lk 96 271 = some (.invokespecial 24, 274, 47, 0, .null) := by decide +kernel
theorem x_96_271 : Tr sc (d + 1) 96 (271, [l0, l1], [.ref k3, .ref k2, .int i1, .ref k0], h) Q = (okp h k3 6 = true ∧ Tr sc d 47 (ent0 47 [.ref k3] h) (fun z => Tr sc (d + 1) 96 (274, [l0, l1], z.1.toList ++ [.ref k2, .int i1, .ref k0], z.2) Q)) := t_cp (as := []) (r := [.ref k2, .int i1, .ref k0]) k_96_271 (by decide) rfl rfl (Nat.le_of_ble_eq_true rfl) (Nat.le_of_ble_eq_true rfl) (Nat.le_of_ble_eq_true rfl)
theorem k_96_274 : lk 96 274 = some (.aastore, 275, 0, 0, .null) := by decide +kernel
theorem x_96_274 : Tr sc d 96 (274, [l0, l1], [.ref k2, .int i1, .ref k0], h) Q = ((((okp h k0 14 && okp h k2 5) || (okp h k0 15 && okp h k2 6)) && inb i1 (LN k0)) = true ∧ Tr sc d 96 (275, [l0, l1], [], (sR h k0 i1.toNatClampNeg (some k2))) Q) := t_gd k_96_274 rfl
theorem k_96_275 : lk 96 275 = some (.iinc 1 1, 278, 1, 0, .int 1) := by decide +kernel
theorem x_96_275 : Tr sc d 96 (275, [l0, some (.int x)], [], h) Q = Tr sc d 96 (278, [cl2 l0, some (.int (x + 1))], [], h) Q := t_inc k_96_275 rfl (Nat.le_of_ble_eq_true rfl)
theorem k_96_278 : lk 96 278 = some (.goto (-22), 281, 256, 0, .null) := by decide +kernel
theorem x_96_278 : Tr sc d 96 (278, [l0, l1], [], h) Q = Tr sc d 96 (256, [l0, l1], [], h) Q := t_go k_96_278 rfl
theorem k_96_281 : lk 96 281 = some (.return_, 282, 0, 0, .null) := by decide +kernel
theorem x_96_281 : Tr sc d 96 (281, [l0, l1], [], h) Q = Q (none, h) := t_ret k_96_281 (by rw [r_96]; rfl)
theorem e_96 : Tr sc d 96 (ent0 96 [.ref k0] h) Q = Tr sc d 96 (0, [some (.ref k0), none], [], h) Q := by
  have e : mL 96 = 2 := by decide +kernel
  unfold ent0
  rw [e]
  rfl
theorem r_97 : mR 97 = some .int := by decide +kernel
theorem k_97_0 : lk 97 0 = some (.iload_n 1, 1, 1, 0, .null) := by decide +kernel
theorem x_97_0 : Tr sc d 97 (0, [l0, some (.int x), l2], [], h) Q = Tr sc d 97 (1, [l0, some (.int x), l2], [.int x], h) Q := t_iload_n k_97_0 rfl
theorem k_97_1 : lk 97 1 = some (.invokestatic 114, 4, 141, 1, .null) := by decide +kernel
theorem x_97_1 : Tr sc (d + 1) 97 (1, [l0, l1, l2], [.int i0], h) Q = Tr sc d 141 (ent0 141 [.int i0] h) (fun z => Tr sc (d + 1) 97 (4, [l0, l1, l2], z.1.toList ++ [], z.2) Q) := t_cs (as := [.int i0]) (r := []) k_97_1 (by decide) rfl rfl (Nat.le_of_ble_eq_true rfl) (Nat.le_of_ble_eq_true rfl)
theorem k_97_4 : lk 97 4 = some (.ifCond .eq 9, 7, 13, 0, .null) := by decide +kernel
theorem x_97_4 : Tr sc d 97 (4, [l0, l1, l2], [.int i0], h) Q = if i0 = 0 then Tr sc d 97 (13, [l0, l1, l2], [], h) Q else Tr sc d 97 (7, [l0, l1, l2], [], h) Q := t_if k_97_4 rfl
theorem k_97_7 : lk 97 7 = some (.iload_n 2, 8, 2, 0, .null) := by decide +kernel
theorem x_97_7 : Tr sc d 97 (7, [l0, l1, some (.int x)], [], h) Q = Tr sc d 97 (8, [l0, l1, some (.int x)], [.int x], h) Q := t_iload_n k_97_7 rfl
theorem k_97_8 : lk 97 8 = some (.bipush 40, 10, 0, 0, .int 40) := by decide +kernel
theorem x_97_8 : Tr sc d 97 (8, [l0, l1, l2], [.int i0], h) Q = Tr sc d 97 (10, [l0, l1, l2], [.int 40, .int i0], h) Q := t_go k_97_8 rfl
theorem k_97_10 : lk 97 10 = some (.if_icmp .le 5, 13, 15, 0, .null) := by decide +kernel
theorem x_97_10 : Tr sc d 97 (10, [l0, l1, l2], [.int i1, .int i0], h) Q = if i0 ≤ i1 then Tr sc d 97 (15, [l0, l1, l2], [], h) Q else Tr sc d 97 (13, [l0, l1, l2], [], h) Q := t_if k_97_10 rfl
theorem k_97_13 : lk 97 13 = some (.iconst (-1), 14, 0, 0, .int (-1)) := by decide +kernel
theorem x_97_13 : Tr sc d 97 (13, [l0, l1, l2], [], h) Q = Tr sc d 97 (14, [l0, l1, l2], [.int (-1)], h) Q := t_go k_97_13 rfl
theorem k_97_14 : lk 97 14 = some (.ireturn, 15, 0, 0, .null) := by decide +kernel
theorem x_97_14 : Tr sc d 97 (14, [l0, l1, l2], [.int i0], h) Q = Q (some (.int i0), h) := t_ret k_97_14 (by rw [r_97]; rfl)
theorem k_97_15 : lk 97 15 = some (.iload_n 2, 16, 2, 0, .null) := by decide +kernel
theorem x_97_15 : Tr sc d 97 (15, [l0, l1, some (.int x)], [], h) Q = Tr sc d 97 (16, [l0, l1, some (.int x)], [.int x], h) Q := t_iload_n k_97_15 rfl
theorem k_97_16 : lk 97 16 = some (.ifCond .ge 9, 19, 25, 0, .null) := by decide +kernel
theorem x_97_16 : Tr sc d 97 (16, [l0, l1, l2], [.int i0], h) Q = if 0 ≤ i0 then Tr sc d 97 (25, [l0, l1, l2], [], h) Q else Tr sc d 97 (19, [l0, l1, l2], [], h) Q := t_if k_97_16 rfl
theorem k_97_19 : lk 97 19 = some (.aload_n 0, 20, 0, 0, .null) := by decide +kernel
theorem x_97_19 : Tr sc d 97 (19, [some (.ref xk), l1, l2], [], h) Q = Tr sc d 97 (20, [some (.ref xk), l1, l2], [.ref xk], h) Q := t_aload_n k_97_19 rfl
theorem k_97_20 : lk 97 20 = some (.iconst 5, 21, 0, 0, .int 5) := by decide +kernel
theorem x_97_20 : Tr sc d 97 (20, [l0, l1, l2], [.ref k0], h) Q = Tr sc d 97 (21, [l0, l1, l2], [.int 5, .ref k0], h) Q := t_go k_97_20 rfl
theorem k_97_21 : lk 97 21 = some (.invokevirtual 118, 24, 145, 1, .null) := by decide +kernel
theorem x_97_21 : Tr sc (d + 1) 97 (21, [l0, l1, l2], [.int i1, .ref k0], h) Q = (okp h k0 9 = true ∧ Tr sc d 145 (ent0 145 [.ref k0, .int i1] h) (fun z => Tr sc (d + 1) 97 (24, [l0, l1, l2], z.1.toList ++ [], z.2) Q)) := t_cv (as := [.int i1]) (r := []) k_97_21 rfl rfl (Nat.le_of_ble_eq_true rfl) (Nat.le_of_ble_eq_true rfl) (Nat.le_of_ble_eq_true rfl)
theorem k_97_24 : lk 97 24 = some (.ireturn, 25, 0, 0, .null) := by decide +kernel
theorem x_97_24 : Tr sc d 97 (24, [l0, l1, l2], [.int i0], h) Q = Q (some (.int i0), h) := t_ret k_97_24 (by rw [r_97]; rfl)
theorem k_97_25 : lk 97 25 = some (.aload_n 0, 26, 0, 0, .null) := by decide +kernel
theorem x_97_25 : Tr sc d 97 (25, [some (.ref xk), l1, l2], [], h) Q = Tr sc d 97 (26, [some (.ref xk), l1, l2], [.ref xk], h) Q := t_aload_n k_97_25 rfl
theorem k_97_26 : lk 97 26 = some (.getfield 11, 29, 9, 0, .null) := by decide +kernel
theorem x_97_26 : Tr sc d 97 (26, [l0, l1, l2], [.ref k0], h) Q = (okp h k0 9 = true ∧ ∃ q, hR h k0 0 = some q ∧ Tr sc d 97 (29, [l0, l1, l2], [.ref q], h) Q) := t_getr k_97_26
theorem k_97_29 : lk 97 29 = some (.iload_n 1, 30, 1, 0, .null) := by decide +kernel
theorem x_97_29 : Tr sc d 97 (29, [l0, some (.int x), l2], [.ref k0], h) Q = Tr sc d 97 (30, [l0, some (.int x), l2], [.int x, .ref k0], h) Q := t_iload_n k_97_29 rfl
theorem k_97_30 : lk 97 30 = some (.aaload, 31, 0, 0, .null) := by decide +kernel
theorem x_97_30 : Tr sc d 97 (30, [l0, l1, l2], [.int i1, .ref k0], h) Q = (((okp h k0 14 || okp h k0 15) && inb i1 (LN k0)) = true ∧ ∃ q, hR h k0 i1.toNatClampNeg = some q ∧ Tr sc d 97 (31, [l0, l1, l2], [.ref q], h) Q) := t_aald k_97_30
theorem k_97_31 : lk 97 31 = some (.iload_n 2, 32, 2, 0, .null) := by decide +kernel
theorem x_97_31 : Tr sc d 97 (31, [l0, l1, some (.int x)], [.ref k0], h) Q = Tr sc d 97 (32, [l0, l1, some (.int x)], [.int x, .ref k0], h) Q := t_iload_n k_97_31 rfl
theorem k_97_32 : lk 97 32 = some (.iconst 0, 33, 0, 0, .int 0) := by decide +kernel
theorem x_97_32 : Tr sc d 97 (32, [l0, l1, l2], [.int i1, .ref k0], h) Q = Tr sc d 97 (33, [l0, l1, l2], [.int 0, .int i1, .ref k0], h) Q := t_go k_97_32 rfl
theorem k_97_33 : lk 97 33 = some (.invokevirtual 122, 36, 41, 2, .null) := by decide +kernel
theorem x_97_33 : Tr sc (d + 1) 97 (33, [l0, l1, l2], [.int i2, .int i1, .ref k0], h) Q = (okp h k0 5 = true ∧ Tr sc d 41 (ent0 41 [.ref k0, .int i1, .int i2] h) (fun z => Tr sc (d + 1) 97 (36, [l0, l1, l2], z.1.toList ++ [], z.2) Q)) := t_cv (as := [.int i1, .int i2]) (r := []) k_97_33 rfl rfl (Nat.le_of_ble_eq_true rfl) (Nat.le_of_ble_eq_true rfl) (Nat.le_of_ble_eq_true rfl)
theorem k_97_36 : lk 97 36 = some (.iload_n 2, 37, 2, 0, .null) := by decide +kernel
theorem x_97_36 : Tr sc d 97 (36, [l0, l1, some (.int x)], [], h) Q = Tr sc d 97 (37, [l0, l1, some (.int x)], [.int x], h) Q := t_iload_n k_97_36 rfl
theorem k_97_37 : lk 97 37 = some (.ireturn, 38, 0, 0, .null) := by decide +kernel
theorem x_97_37 : Tr sc d 97 (37, [l0, l1, l2], [.int i0], h) Q = Q (some (.int i0), h) := t_ret k_97_37 (by rw [r_97]; rfl)
theorem e_97 : Tr sc d 97 (ent0 97 [.ref k0, .int i1, .int i2] h) Q = Tr sc d 97 (0, [some (.ref k0), some (.int i1), some (.int i2)], [], h) Q := by
  have e : mL 97 = 3 := by decide +kernel
  unfold ent0
  rw [e]
  rfl
theorem r_98 : mR 98 = some .int := by decide +kernel
theorem k_98_0 : lk 98 0 = some (.iload_n 1, 1, 1, 0, .null) := by decide +kernel
theorem x_98_0 : Tr sc d 98 (0, [l0, some (.int x), l2, l3], [], h) Q = Tr sc d 98 (1, [l0, some (.int x), l2, l3], [.int x], h) Q := t_iload_n k_98_0 rfl
theorem k_98_1 : lk 98 1 = some (.invokestatic 114, 4, 141, 1, .null) := by decide +kernel
theorem x_98_1 : Tr sc (d + 1) 98 (1, [l0, l1, l2, l3], [.int i0], h) Q = Tr sc d 141 (ent0 141 [.int i0] h) (fun z => Tr sc (d + 1) 98 (4, [l0, l1, l2, l3], z.1.toList ++ [], z.2) Q) := t_cs (as := [.int i0]) (r := []) k_98_1 (by decide) rfl rfl (Nat.le_of_ble_eq_true rfl) (Nat.le_of_ble_eq_true rfl)
theorem k_98_4 : lk 98 4 = some (.ifCond .ne 5, 7, 9, 0, .null) := by decide +kernel
theorem x_98_4 : Tr sc d 98 (4, [l0, l1, l2, l3], [.int i0], h) Q = if i0 = 0 then Tr sc d 98 (7, [l0, l1, l2, l3], [], h) Q else Tr sc d 98 (9, [l0, l1, l2, l3], [], h) Q := t_if k_98_4 rfl
theorem k_98_7 : lk 98 7 = some (.iconst (-1), 8, 0, 0, .int (-1)) := by decide +kernel
theorem x_98_7 : Tr sc d 98 (7, [l0, l1, l2, l3], [], h) Q = Tr sc d 98 (8, [l0, l1, l2, l3], [.int (-1)], h) Q := t_go k_98_7 rfl
theorem k_98_8 : lk 98 8 = some (.ireturn, 9, 0, 0, .null) := by decide +kernel
theorem x_98_8 : Tr sc d 98 (8, [l0, l1, l2, l3], [.int i0], h) Q = Q (some (.int i0), h) := t_ret k_98_8 (by rw [r_98]; rfl)
theorem k_98_9 : lk 98 9 = some (.aload_n 0, 10, 0, 0, .null) := by decide +kernel
theorem x_98_9 : Tr sc d 98 (9, [some (.ref xk), l1, l2, l3], [], h) Q = Tr sc d 98 (10, [some (.ref xk), l1, l2, l3], [.ref xk], h) Q := t_aload_n k_98_9 rfl
theorem k_98_10 : lk 98 10 = some (.getfield 11, 13, 9, 0, .null) := by decide +kernel
theorem x_98_10 : Tr sc d 98 (10, [l0, l1, l2, l3], [.ref k0], h) Q = (okp h k0 9 = true ∧ ∃ q, hR h k0 0 = some q ∧ Tr sc d 98 (13, [l0, l1, l2, l3], [.ref q], h) Q) := t_getr k_98_10
theorem k_98_13 : lk 98 13 = some (.iload_n 1, 14, 1, 0, .null) := by decide +kernel
theorem x_98_13 : Tr sc d 98 (13, [l0, some (.int x), l2, l3], [.ref k0], h) Q = Tr sc d 98 (14, [l0, some (.int x), l2, l3], [.int x, .ref k0], h) Q := t_iload_n k_98_13 rfl
theorem k_98_14 : lk 98 14 = some (.aaload, 15, 0, 0, .null) := by decide +kernel
theorem x_98_14 : Tr sc d 98 (14, [l0, l1, l2, l3], [.int i1, .ref k0], h) Q = (((okp h k0 14 || okp h k0 15) && inb i1 (LN k0)) = true ∧ ∃ q, hR h k0 i1.toNatClampNeg = some q ∧ Tr sc d 98 (15, [l0, l1, l2, l3], [.ref q], h) Q) := t_aald k_98_14
theorem k_98_15 : lk 98 15 = some (.invokevirtual 125, 18, 42, 0, .null) := by decide +kernel
theorem x_98_15 : Tr sc (d + 1) 98 (15, [l0, l1, l2, l3], [.ref k0], h) Q = (okp h k0 5 = true ∧ Tr sc d 42 (ent0 42 [.ref k0] h) (fun z => Tr sc (d + 1) 98 (18, [l0, l1, l2, l3], z.1.toList ++ [], z.2) Q)) := t_cv (as := []) (r := []) k_98_15 rfl rfl (Nat.le_of_ble_eq_true rfl) (Nat.le_of_ble_eq_true rfl) (Nat.le_of_ble_eq_true rfl)
theorem k_98_18 : lk 98 18 = some (.ifCond .eq 9, 21, 27, 0, .null) := by decide +kernel
theorem x_98_18 : Tr sc d 98 (18, [l0, l1, l2, l3], [.int i0], h) Q = if i0 = 0 then Tr sc d 98 (27, [l0, l1, l2, l3], [], h) Q else Tr sc d 98 (21, [l0, l1, l2, l3], [], h) Q := t_if k_98_18 rfl
theorem k_98_21 : lk 98 21 = some (.aload_n 0, 22, 0, 0, .null) := by decide +kernel
theorem x_98_21 : Tr sc d 98 (21, [some (.ref xk), l1, l2, l3], [], h) Q = Tr sc d 98 (22, [some (.ref xk), l1, l2, l3], [.ref xk], h) Q := t_aload_n k_98_21 rfl
theorem k_98_22 : lk 98 22 = some (.iconst 1, 23, 0, 0, .int 1) := by decide +kernel
theorem x_98_22 : Tr sc d 98 (22, [l0, l1, l2, l3], [.ref k0], h) Q = Tr sc d 98 (23, [l0, l1, l2, l3], [.int 1, .ref k0], h) Q := t_go k_98_22 rfl
theorem k_98_23 : lk 98 23 = some (.invokevirtual 118, 26, 145, 1, .null) := by decide +kernel
theorem x_98_23 : Tr sc (d + 1) 98 (23, [l0, l1, l2, l3], [.int i1, .ref k0], h) Q = (okp h k0 9 = true ∧ Tr sc d 145 (ent0 145 [.ref k0, .int i1] h) (fun z => Tr sc (d + 1) 98 (26, [l0, l1, l2, l3], z.1.toList ++ [], z.2) Q)) := t_cv (as := [.int i1]) (r := []) k_98_23 rfl rfl (Nat.le_of_ble_eq_true rfl) (Nat.le_of_ble_eq_true rfl) (Nat.le_of_ble_eq_true rfl)
theorem k_98_26 : lk 98 26 = some (.ireturn, 27, 0, 0, .null) := by decide +kernel
theorem x_98_26 : Tr sc d 98 (26, [l0, l1, l2, l3], [.int i0], h) Q = Q (some (.int i0), h) := t_ret k_98_26 (by rw [r_98]; rfl)
theorem k_98_27 : lk 98 27 = some (.aload_n 0, 28, 0, 0, .null) := by decide +kernel
theorem x_98_27 : Tr sc d 98 (27, [some (.ref xk), l1, l2, l3], [], h) Q = Tr sc d 98 (28, [some (.ref xk), l1, l2, l3], [.ref xk], h) Q := t_aload_n k_98_27 rfl
theorem k_98_28 : lk 98 28 = some (.getfield 11, 31, 9, 0, .null) := by decide +kernel
theorem x_98_28 : Tr sc d 98 (28, [l0, l1, l2, l3], [.ref k0], h) Q = (okp h k0 9 = true ∧ ∃ q, hR h k0 0 = some q ∧ Tr sc d 98 (31, [l0, l1, l2, l3], [.ref q], h) Q) := t_getr k_98_28
theorem k_98_31 : lk 98 31 = some (.iload_n 1, 32, 1, 0, .null) := by decide +kernel
theorem x_98_31 : Tr sc d 98 (31, [l0, some (.int x), l2, l3], [.ref k0], h) Q = Tr sc d 98 (32, [l0, some (.int x), l2, l3], [.int x, .ref k0], h) Q := t_iload_n k_98_31 rfl
theorem k_98_32 : lk 98 32 = some (.aaload, 33, 0, 0, .null) := by decide +kernel
theorem x_98_32 : Tr sc d 98 (32, [l0, l1, l2, l3], [.int i1, .ref k0], h) Q = (((okp h k0 14 || okp h k0 15) && inb i1 (LN k0)) = true ∧ ∃ q, hR h k0 i1.toNatClampNeg = some q ∧ Tr sc d 98 (33, [l0, l1, l2, l3], [.ref q], h) Q) := t_aald k_98_32
theorem k_98_33 : lk 98 33 = some (.iload_n 2, 34, 2, 0, .null) := by decide +kernel
theorem x_98_33 : Tr sc d 98 (33, [l0, l1, some (.int x), l3], [.ref k0], h) Q = Tr sc d 98 (34, [l0, l1, some (.int x), l3], [.int x, .ref k0], h) Q := t_iload_n k_98_33 rfl
theorem k_98_34 : lk 98 34 = some (.invokevirtual 129, 37, 43, 1, .null) := by decide +kernel
theorem x_98_34 : Tr sc (d + 1) 98 (34, [l0, l1, l2, l3], [.int i1, .ref k0], h) Q = (okp h k0 5 = true ∧ Tr sc d 43 (ent0 43 [.ref k0, .int i1] h) (fun z => Tr sc (d + 1) 98 (37, [l0, l1, l2, l3], z.1.toList ++ [], z.2) Q)) := t_cv (as := [.int i1]) (r := []) k_98_34 rfl rfl (Nat.le_of_ble_eq_true rfl) (Nat.le_of_ble_eq_true rfl) (Nat.le_of_ble_eq_true rfl)
theorem k_98_37 : lk 98 37 = some (.ifCond .ne 9, 40, 46, 0, .null) := by decide +kernel
theorem x_98_37 : Tr sc d 98 (37, [l0, l1, l2, l3], [.int i0], h) Q = if i0 = 0 then Tr sc d 98 (40, [l0, l1, l2, l3], [], h) Q else Tr sc d 98 (46, [l0, l1, l2, l3], [], h) Q := t_if k_98_37 rfl
theorem k_98_40 : lk 98 40 = some (.aload_n 0, 41, 0, 0, .null) := by decide +kernel
theorem x_98_40 : Tr sc d 98 (40, [some (.ref xk), l1, l2, l3], [], h) Q = Tr sc d 98 (41, [some (.ref xk), l1, l2, l3], [.ref xk], h) Q := t_aload_n k_98_40 rfl
theorem k_98_41 : lk 98 41 = some (.iconst 2, 42, 0, 0, .int 2) := by decide +kernel
theorem x_98_41 : Tr sc d 98 (41, [l0, l1, l2, l3], [.ref k0], h) Q = Tr sc d 98 (42, [l0, l1, l2, l3], [.int 2, .ref k0], h) Q := t_go k_98_41 rfl
theorem k_98_42 : lk 98 42 = some (.invokevirtual 118, 45, 145, 1, .null) := by decide +kernel
theorem x_98_42 : Tr sc (d + 1) 98 (42, [l0, l1, l2, l3], [.int i1, .ref k0], h) Q = (okp h k0 9 = true ∧ Tr sc d 145 (ent0 145 [.ref k0, .int i1] h) (fun z => Tr sc (d + 1) 98 (45, [l0, l1, l2, l3], z.1.toList ++ [], z.2) Q)) := t_cv (as := [.int i1]) (r := []) k_98_42 rfl rfl (Nat.le_of_ble_eq_true rfl) (Nat.le_of_ble_eq_true rfl) (Nat.le_of_ble_eq_true rfl)
theorem k_98_45 : lk 98 45 = some (.ireturn, 46, 0, 0, .null) := by decide +kernel
theorem x_98_45 : Tr sc d 98 (45, [l0, l1, l2, l3], [.int i0], h) Q = Q (some (.int i0), h) := t_ret k_98_45 (by rw [r_98]; rfl)
theorem k_98_46 : lk 98 46 = some (.aload_n 0, 47, 0, 0, .null) := by decide +kernel
theorem x_98_46 : Tr sc d 98 (46, [some (.ref xk), l1, l2, l3], [], h) Q = Tr sc d 98 (47, [some (.ref xk), l1, l2, l3], [.ref xk], h) Q := t_aload_n k_98_46 rfl
theorem k_98_47 : lk 98 47 = some (.aload_n 0, 48, 0, 0, .null) := by decide +kernel
theorem x_98_47 : Tr sc d 98 (47, [some (.ref xk), l1, l2, l3], [.ref k0], h) Q = Tr sc d 98 (48, [some (.ref xk), l1, l2, l3], [.ref xk, .ref k0], h) Q := t_aload_n k_98_47 rfl
theorem k_98_48 : lk 98 48 = some (.getfield 11, 51, 9, 0, .null) := by decide +kernel
theorem x_98_48 : Tr sc d 98 (48, [l0, l1, l2, l3], [.ref k1, .ref k0], h) Q = (okp h k1 9 = true ∧ ∃ q, hR h k1 0 = some q ∧ Tr sc d 98 (51, [l0, l1, l2, l3], [.ref q, .ref k0], h) Q) := t_getr k_98_48
theorem k_98_51 : lk 98 51 = some (.iload_n 1, 52, 1, 0, .null) := by decide +kernel
theorem x_98_51 : Tr sc d 98 (51, [l0, some (.int x), l2, l3], [.ref k1, .ref k0], h) Q = Tr sc d 98 (52, [l0, some (.int x), l2, l3], [.int x, .ref k1, .ref k0], h) Q := t_iload_n k_98_51 rfl
theorem k_98_52 : lk 98 52 = some (.aaload, 53, 0, 0, .null) := by decide +kernel
theorem x_98_52 : Tr sc d 98 (52, [l0, l1, l2, l3], [.int i2, .ref k1, .ref k0], h) Q = (((okp h k1 14 || okp h k1 15) && inb i2 (LN k1)) = true ∧ ∃ q, hR h k1 i2.toNatClampNeg = some q ∧ Tr sc d 98 (53, [l0, l1, l2, l3], [.ref q, .ref k0], h) Q) := t_aald k_98_52
theorem k_98_53 : lk 98 53 = some (.getfield 132, 56, 5, 0, .null) := by decide +kernel
theorem x_98_53 : Tr sc d 98 (53, [l0, l1, l2, l3], [.ref k1, .ref k0], h) Q = (okp h k1 5 = true ∧ ∃ q, hR h k1 0 = some q ∧ Tr sc d 98 (56, [l0, l1, l2, l3], [.ref q, .ref k0], h) Q) := t_getr k_98_53
theorem k_98_56 : lk 98 56 = some (.iload_n 2, 57, 2, 0, .null) := by decide +kernel
theorem x_98_56 : Tr sc d 98 (56, [l0, l1, some (.int x), l3], [.ref k1, .ref k0], h) Q = Tr sc d 98 (57, [l0, l1, some (.int x), l3], [.int x, .ref k1, .ref k0], h) Q := t_iload_n k_98_56 rfl
theorem k_98_57 : lk 98 57 = some (.iaload, 58, 0, 0, .null) := by decide +kernel
theorem x_98_57 : Tr sc d 98 (57, [l0, l1, l2, l3], [.int i2, .ref k1, .ref k0], h) Q = (iOk sc h k1 i2 ∧ Tr sc d 98 (58, [l0, l1, l2, l3], [.int (iRd sc h k1 i2), .ref k0], h) Q) := t_iald k_98_57
theorem k_98_58 : lk 98 58 = some (.putfield 98, 61, 9, 15, .int 0) := by decide +kernel
theorem x_98_58 : Tr sc d 98 (58, [l0, l1, l2, l3], [.int i1, .ref k0], h) Q = (okp h k0 9 = true ∧ Tr sc d 98 (61, [l0, l1, l2, l3], [], (sI h k0 15 i1)) Q) := t_gd k_98_58 rfl
theorem k_98_61 : lk 98 61 = some (.aload_n 0, 62, 0, 0, .null) := by decide +kernel
theorem x_98_61 : Tr sc d 98 (61, [some (.ref xk), l1, l2, l3], [], h) Q = Tr sc d 98 (62, [some (.ref xk), l1, l2, l3], [.ref xk], h) Q := t_aload_n k_98_61 rfl
theorem k_98_62 : lk 98 62 = some (.getfield 11, 65, 9, 0, .null) := by decide +kernel
theorem x_98_62 : Tr sc d 98 (62, [l0, l1, l2, l3], [.ref k0], h) Q = (okp h k0 9 = true ∧ ∃ q, hR h k0 0 = some q ∧ Tr sc d 98 (65, [l0, l1, l2, l3], [.ref q], h) Q) := t_getr k_98_62
theorem k_98_65 : lk 98 65 = some (.iload_n 1, 66, 1, 0, .null) := by decide +kernel
theorem x_98_65 : Tr sc d 98 (65, [l0, some (.int x), l2, l3], [.ref k0], h) Q = Tr sc d 98 (66, [l0, some (.int x), l2, l3], [.int x, .ref k0], h) Q := t_iload_n k_98_65 rfl
theorem k_98_66 : lk 98 66 = some (.aaload, 67, 0, 0, .null) := by decide +kernel
theorem x_98_66 : Tr sc d 98 (66, [l0, l1, l2, l3], [.int i1, .ref k0], h) Q = (((okp h k0 14 || okp h k0 15) && inb i1 (LN k0)) = true ∧ ∃ q, hR h k0 i1.toNatClampNeg = some q ∧ Tr sc d 98 (67, [l0, l1, l2, l3], [.ref q], h) Q) := t_aald k_98_66
theorem k_98_67 : lk 98 67 = some (.getfield 132, 70, 5, 0, .null) := by decide +kernel
theorem x_98_67 : Tr sc d 98 (67, [l0, l1, l2, l3], [.ref k0], h) Q = (okp h k0 5 = true ∧ ∃ q, hR h k0 0 = some q ∧ Tr sc d 98 (70, [l0, l1, l2, l3], [.ref q], h) Q) := t_getr k_98_67
theorem k_98_70 : lk 98 70 = some (.iload_n 2, 71, 2, 0, .null) := by decide +kernel
theorem x_98_70 : Tr sc d 98 (70, [l0, l1, some (.int x), l3], [.ref k0], h) Q = Tr sc d 98 (71, [l0, l1, some (.int x), l3], [.int x, .ref k0], h) Q := t_iload_n k_98_70 rfl
theorem k_98_71 : lk 98 71 = some (.iload_n 3, 72, 3, 0, .null) := by decide +kernel
theorem x_98_71 : Tr sc d 98 (71, [l0, l1, l2, some (.int x)], [.int i1, .ref k0], h) Q = Tr sc d 98 (72, [l0, l1, l2, some (.int x)], [.int x, .int i1, .ref k0], h) Q := t_iload_n k_98_71 rfl
theorem k_98_72 : lk 98 72 = some (.iastore, 73, 0, 0, .null) := by decide +kernel
theorem x_98_72 : Tr sc d 98 (72, [l0, l1, l2, l3], [.int i2, .int i1, .ref k0], h) Q = ((okp h k0 11 && inb i1 (LN k0)) = true ∧ Tr sc d 98 (73, [l0, l1, l2, l3], [], (sI h k0 i1.toNatClampNeg i2)) Q) := t_gd k_98_72 rfl
theorem k_98_73 : lk 98 73 = some (.iconst 1, 74, 0, 0, .int 1) := by decide +kernel
theorem x_98_73 : Tr sc d 98 (73, [l0, l1, l2, l3], [], h) Q = Tr sc d 98 (74, [l0, l1, l2, l3], [.int 1], h) Q := t_go k_98_73 rfl
theorem k_98_74 : lk 98 74 = some (.ireturn, 75, 0, 0, .null) := by decide +kernel
theorem x_98_74 : Tr sc d 98 (74, [l0, l1, l2, l3], [.int i0], h) Q = Q (some (.int i0), h) := t_ret k_98_74 (by rw [r_98]; rfl)
theorem e_98 : Tr sc d 98 (ent0 98 [.ref k0, .int i1, .int i2, .int i3] h) Q = Tr sc d 98 (0, [some (.ref k0), some (.int i1), some (.int i2), some (.int i3)], [], h) Q := by
  have e : mL 98 = 4 := by decide +kernel
  unfold ent0
  rw [e]
  rfl
theorem r_99 : mR 99 = some .int := by decide +kernel
theorem k_99_0 : lk 99 0 = some (.iload_n 1, 1, 1, 0, .null) := by decide +kernel
theorem x_99_0 : Tr sc d 99 (0, [l0, some (.int x)], [], h) Q = Tr sc d 99 (1, [l0, some (.int x)], [.int x], h) Q := t_iload_n k_99_0 rfl
theorem k_99_1 : lk 99 1 = some (.invokestatic 114, 4, 141, 1, .null) := by decide +kernel
theorem x_99_1 : Tr sc (d + 1) 99 (1, [l0, l1], [.int i0], h) Q = Tr sc d 141 (ent0 141 [.int i0] h) (fun z => Tr sc (d + 1) 99 (4, [l0, l1], z.1.toList ++ [], z.2) Q) := t_cs (as := [.int i0]) (r := []) k_99_1 (by decide) rfl rfl (Nat.le_of_ble_eq_true rfl) (Nat.le_of_ble_eq_true rfl)
theorem k_99_4 : lk 99 4 = some (.ifCond .ne 5, 7, 9, 0, .null) := by decide +kernel
theorem x_99_4 : Tr sc d 99 (4, [l0, l1], [.int i0], h) Q = if i0 = 0 then Tr sc d 99 (7, [l0, l1], [], h) Q else Tr sc d 99 (9, [l0, l1], [], h) Q := t_if k_99_4 rfl
theorem k_99_7 : lk 99 7 = some (.iconst (-1), 8, 0, 0, .int (-1)) := by decide +kernel
theorem x_99_7 : Tr sc d 99 (7, [l0, l1], [], h) Q = Tr sc d 99 (8, [l0, l1], [.int (-1)], h) Q := t_go k_99_7 rfl
theorem k_99_8 : lk 99 8 = some (.ireturn, 9, 0, 0, .null) := by decide +kernel
theorem x_99_8 : Tr sc d 99 (8, [l0, l1], [.int i0], h) Q = Q (some (.int i0), h) := t_ret k_99_8 (by rw [r_99]; rfl)
theorem k_99_9 : lk 99 9 = some (.aload_n 0, 10, 0, 0, .null) := by decide +kernel
theorem x_99_9 : Tr sc d 99 (9, [some (.ref xk), l1], [], h) Q = Tr sc d 99 (10, [some (.ref xk), l1], [.ref xk], h) Q := t_aload_n k_99_9 rfl
theorem k_99_10 : lk 99 10 = some (.getfield 11, 13, 9, 0, .null) := by decide +kernel
theorem x_99_10 : Tr sc d 99 (10, [l0, l1], [.ref k0], h) Q = (okp h k0 9 = true ∧ ∃ q, hR h k0 0 = some q ∧ Tr sc d 99 (13, [l0, l1], [.ref q], h) Q) := t_getr k_99_10
theorem k_99_13 : lk 99 13 = some (.iload_n 1, 14, 1, 0, .null) := by decide +kernel
theorem x_99_13 : Tr sc d 99 (13, [l0, some (.int x)], [.ref k0], h) Q = Tr sc d 99 (14, [l0, some (.int x)], [.int x, .ref k0], h) Q := t_iload_n k_99_13 rfl
theorem k_99_14 : lk 99 14 = some (.aaload, 15, 0, 0, .null) := by decide +kernel
theorem x_99_14 : Tr sc d 99 (14, [l0, l1], [.int i1, .ref k0], h) Q = (((okp h k0 14 || okp h k0 15) && inb i1 (LN k0)) = true ∧ ∃ q, hR h k0 i1.toNatClampNeg = some q ∧ Tr sc d 99 (15, [l0, l1], [.ref q], h) Q) := t_aald k_99_14
theorem k_99_15 : lk 99 15 = some (.invokevirtual 125, 18, 42, 0, .null) := by decide +kernel
theorem x_99_15 : Tr sc (d + 1) 99 (15, [l0, l1], [.ref k0], h) Q = (okp h k0 5 = true ∧ Tr sc d 42 (ent0 42 [.ref k0] h) (fun z => Tr sc (d + 1) 99 (18, [l0, l1], z.1.toList ++ [], z.2) Q)) := t_cv (as := []) (r := []) k_99_15 rfl rfl (Nat.le_of_ble_eq_true rfl) (Nat.le_of_ble_eq_true rfl) (Nat.le_of_ble_eq_true rfl)
theorem k_99_18 : lk 99 18 = some (.ifCond .eq 9, 21, 27, 0, .null) := by decide +kernel
theorem x_99_18 : Tr sc d 99 (18, [l0, l1], [.int i0], h) Q = if i0 = 0 then Tr sc d 99 (27, [l0, l1], [], h) Q else Tr sc d 99 (21, [l0, l1], [], h) Q := t_if k_99_18 rfl
theorem k_99_21 : lk 99 21 = some (.aload_n 0, 22, 0, 0, .null) := by decide +kernel
theorem x_99_21 : Tr sc d 99 (21, [some (.ref xk), l1], [], h) Q = Tr sc d 99 (22, [some (.ref xk), l1], [.ref xk], h) Q := t_aload_n k_99_21 rfl
theorem k_99_22 : lk 99 22 = some (.iconst 1, 23, 0, 0, .int 1) := by decide +kernel
theorem x_99_22 : Tr sc d 99 (22, [l0, l1], [.ref k0], h) Q = Tr sc d 99 (23, [l0, l1], [.int 1, .ref k0], h) Q := t_go k_99_22 rfl
theorem k_99_23 : lk 99 23 = some (.invokevirtual 118, 26, 145, 1, .null) := by decide +kernel
theorem x_99_23 : Tr sc (d + 1) 99 (23, [l0, l1], [.int i1, .ref k0], h) Q = (okp h k0 9 = true ∧ Tr sc d 145 (ent0 145 [.ref k0, .int i1] h) (fun z => Tr sc (d + 1) 99 (26, [l0, l1], z.1.toList ++ [], z.2) Q)) := t_cv (as := [.int i1]) (r := []) k_99_23 rfl rfl (Nat.le_of_ble_eq_true rfl) (Nat.le_of_ble_eq_true rfl) (Nat.le_of_ble_eq_true rfl)
theorem k_99_26 : lk 99 26 = some (.ireturn, 27, 0, 0, .null) := by decide +kernel
theorem x_99_26 : Tr sc d 99 (26, [l0, l1], [.int i0], h) Q = Q (some (.int i0), h) := t_ret k_99_26 (by rw [r_99]; rfl)
theorem k_99_27 : lk 99 27 = some (.aload_n 0, 28, 0, 0, .null) := by decide +kernel
theorem x_99_27 : Tr sc d 99 (27, [some (.ref xk), l1], [], h) Q = Tr sc d 99 (28, [some (.ref xk), l1], [.ref xk], h) Q := t_aload_n k_99_27 rfl
theorem k_99_28 : lk 99 28 = some (.getfield 11, 31, 9, 0, .null) := by decide +kernel
theorem x_99_28 : Tr sc d 99 (28, [l0, l1], [.ref k0], h) Q = (okp h k0 9 = true ∧ ∃ q, hR h k0 0 = some q ∧ Tr sc d 99 (31, [l0, l1], [.ref q], h) Q) := t_getr k_99_28
theorem k_99_31 : lk 99 31 = some (.iload_n 1, 32, 1, 0, .null) := by decide +kernel
theorem x_99_31 : Tr sc d 99 (31, [l0, some (.int x)], [.ref k0], h) Q = Tr sc d 99 (32, [l0, some (.int x)], [.int x, .ref k0], h) Q := t_iload_n k_99_31 rfl
theorem k_99_32 : lk 99 32 = some (.aaload, 33, 0, 0, .null) := by decide +kernel
theorem x_99_32 : Tr sc d 99 (32, [l0, l1], [.int i1, .ref k0], h) Q = (((okp h k0 14 || okp h k0 15) && inb i1 (LN k0)) = true ∧ ∃ q, hR h k0 i1.toNatClampNeg = some q ∧ Tr sc d 99 (33, [l0, l1], [.ref q], h) Q) := t_aald k_99_32
theorem k_99_33 : lk 99 33 = some (.iconst (-1), 34, 0, 0, .int (-1)) := by decide +kernel
theorem x_99_33 : Tr sc d 99 (33, [l0, l1], [.ref k0], h) Q = Tr sc d 99 (34, [l0, l1], [.int (-1), .ref k0], h) Q := t_go k_99_33 rfl
theorem k_99_34 : lk 99 34 = some (.putfield 135, 37, 5, 1, .int 0) := by decide +kernel
theorem x_99_34 : Tr sc d 99 (34, [l0, l1], [.int i1, .ref k0], h) Q = (okp h k0 5 = true ∧ Tr sc d 99 (37, [l0, l1], [], (sI h k0 1 i1)) Q) := t_gd k_99_34 rfl
theorem k_99_37 : lk 99 37 = some (.iconst 1, 38, 0, 0, .int 1) := by decide +kernel
theorem x_99_37 : Tr sc d 99 (37, [l0, l1], [], h) Q = Tr sc d 99 (38, [l0, l1], [.int 1], h) Q := t_go k_99_37 rfl
theorem k_99_38 : lk 99 38 = some (.ireturn, 39, 0, 0, .null) := by decide +kernel
theorem x_99_38 : Tr sc d 99 (38, [l0, l1], [.int i0], h) Q = Q (some (.int i0), h) := t_ret k_99_38 (by rw [r_99]; rfl)
theorem e_99 : Tr sc d 99 (ent0 99 [.ref k0, .int i1] h) Q = Tr sc d 99 (0, [some (.ref k0), some (.int i1)], [], h) Q := by
  have e : mL 99 = 2 := by decide +kernel
  unfold ent0
  rw [e]
  rfl
theorem r_100 : mR 100 = some .int := by decide +kernel
theorem k_100_0 : lk 100 0 = some (.iload_n 1, 1, 1, 0, .null) := by decide +kernel
theorem x_100_0 : Tr sc d 100 (0, [l0, some (.int x), l2, l3, l4, l5], [], h) Q = Tr sc d 100 (1, [l0, some (.int x), l2, l3, l4, l5], [.int x], h) Q := t_iload_n k_100_0 rfl
theorem k_100_1 : lk 100 1 = some (.invokestatic 114, 4, 141, 1, .null) := by decide +kernel
theorem x_100_1 : Tr sc (d + 1) 100 (1, [l0, l1, l2, l3, l4, l5], [.int i0], h) Q = Tr sc d 141 (ent0 141 [.int i0] h) (fun z => Tr sc (d + 1) 100 (4, [l0, l1, l2, l3, l4, l5], z.1.toList ++ [], z.2) Q) := t_cs (as := [.int i0]) (r := []) k_100_1 (by decide) rfl rfl (Nat.le_of_ble_eq_true rfl) (Nat.le_of_ble_eq_true rfl)
theorem k_100_4 : lk 100 4 = some (.ifCond .eq 10, 7, 14, 0, .null) := by decide +kernel
theorem x_100_4 : Tr sc d 100 (4, [l0, l1, l2, l3, l4, l5], [.int i0], h) Q = if i0 = 0 then Tr sc d 100 (14, [l0, l1, l2, l3, l4, l5], [], h) Q else Tr sc d 100 (7, [l0, l1, l2, l3, l4, l5], [], h) Q := t_if k_100_4 rfl
theorem k_100_7 : lk 100 7 = some (.iload_n 3, 8, 3, 0, .null) := by decide +kernel
theorem x_100_7 : Tr sc d 100 (7, [l0, l1, l2, some (.int x), l4, l5], [], h) Q = Tr sc d 100 (8, [l0, l1, l2, some (.int x), l4, l5], [.int x], h) Q := t_iload_n k_100_7 rfl
theorem k_100_8 : lk 100 8 = some (.invokestatic 114, 11, 141, 1, .null) := by decide +kernel
theorem x_100_8 : Tr sc (d + 1) 100 (8, [l0, l1, l2, l3, l4, l5], [.int i0], h) Q = Tr sc d 141 (ent0 141 [.int i0] h) (fun z => Tr sc (d + 1) 100 (11, [l0, l1, l2, l3, l4, l5], z.1.toList ++ [], z.2) Q) := t_cs (as := [.int i0]) (r := []) k_100_8 (by decide) rfl rfl (Nat.le_of_ble_eq_true rfl) (Nat.le_of_ble_eq_true rfl)
theorem k_100_11 : lk 100 11 = some (.ifCond .ne 5, 14, 16, 0, .null) := by decide +kernel
theorem x_100_11 : Tr sc d 100 (11, [l0, l1, l2, l3, l4, l5], [.int i0], h) Q = if i0 = 0 then Tr sc d 100 (14, [l0, l1, l2, l3, l4, l5], [], h) Q else Tr sc d 100 (16, [l0, l1, l2, l3, l4, l5], [], h) Q := t_if k_100_11 rfl
theorem k_100_14 : lk 100 14 = some (.iconst (-1), 15, 0, 0, .int (-1)) := by decide +kernel
theorem x_100_14 : Tr sc d 100 (14, [l0, l1, l2, l3, l4, l5], [], h) Q = Tr sc d 100 (15, [l0, l1, l2, l3, l4, l5], [.int (-1)], h) Q := t_go k_100_14 rfl
theorem k_100_15 : lk 100 15 = some (.ireturn, 16, 0, 0, .null) := by decide +kernel
theorem x_100_15 : Tr sc d 100 (15, [l0, l1, l2, l3, l4, l5], [.int i0], h) Q = Q (some (.int i0), h) := t_ret k_100_15 (by rw [r_100]; rfl)
theorem k_100_16 : lk 100 16 = some (.iload 5, 18, 5, 0, .null) := by decide +kernel
theorem x_100_16 : Tr sc d 100 (16, [l0, l1, l2, l3, l4, some (.int x)], [], h) Q = Tr sc d 100 (18, [l0, l1, l2, l3, l4, some (.int x)], [.int x], h) Q := t_iload k_100_16 rfl
theorem k_100_18 : lk 100 18 = some (.ifCond .ge 9, 21, 27, 0, .null) := by decide +kernel
theorem x_100_18 : Tr sc d 100 (18, [l0, l1, l2, l3, l4, l5], [.int i0], h) Q = if 0 ≤ i0 then Tr sc d 100 (27, [l0, l1, l2, l3, l4, l5], [], h) Q else Tr sc d 100 (21, [l0, l1, l2, l3, l4, l5], [], h) Q := t_if k_100_18 rfl
theorem k_100_21 : lk 100 21 = some (.aload_n 0, 22, 0, 0, .null) := by decide +kernel
theorem x_100_21 : Tr sc d 100 (21, [some (.ref xk), l1, l2, l3, l4, l5], [], h) Q = Tr sc d 100 (22, [some (.ref xk), l1, l2, l3, l4, l5], [.ref xk], h) Q := t_aload_n k_100_21 rfl
theorem k_100_22 : lk 100 22 = some (.iconst 5, 23, 0, 0, .int 5) := by decide +kernel
theorem x_100_22 : Tr sc d 100 (22, [l0, l1, l2, l3, l4, l5], [.ref k0], h) Q = Tr sc d 100 (23, [l0, l1, l2, l3, l4, l5], [.int 5, .ref k0], h) Q := t_go k_100_22 rfl
theorem k_100_23 : lk 100 23 = some (.invokevirtual 118, 26, 145, 1, .null) := by decide +kernel
theorem x_100_23 : Tr sc (d + 1) 100 (23, [l0, l1, l2, l3, l4, l5], [.int i1, .ref k0], h) Q = (okp h k0 9 = true ∧ Tr sc d 145 (ent0 145 [.ref k0, .int i1] h) (fun z => Tr sc (d + 1) 100 (26, [l0, l1, l2, l3, l4, l5], z.1.toList ++ [], z.2) Q)) := t_cv (as := [.int i1]) (r := []) k_100_23 rfl rfl (Nat.le_of_ble_eq_true rfl) (Nat.le_of_ble_eq_true rfl) (Nat.le_of_ble_eq_true rfl)
theorem k_100_26 : lk 100 26 = some (.ireturn, 27, 0, 0, .null) := by decide +kernel
theorem x_100_26 : Tr sc d 100 (26, [l0, l1, l2, l3, l4, l5], [.int i0], h) Q = Q (some (.int i0), h) := t_ret k_100_26 (by rw [r_100]; rfl)
theorem k_100_27 : lk 100 27 = some (.aload_n 0, 28, 0, 0, .null) := by decide +kernel
theorem x_100_27 : Tr sc d 100 (27, [some (.ref xk), l1, l2, l3, l4, l5], [], h) Q = Tr sc d 100 (28, [some (.ref xk), l1, l2, l3, l4, l5], [.ref xk], h) Q := t_aload_n k_100_27 rfl
theorem k_100_28 : lk 100 28 = some (.getfield 11, 31, 9, 0, .null) := by decide +kernel
theorem x_100_28 : Tr sc d 100 (28, [l0, l1, l2, l3, l4, l5], [.ref k0], h) Q = (okp h k0 9 = true ∧ ∃ q, hR h k0 0 = some q ∧ Tr sc d 100 (31, [l0, l1, l2, l3, l4, l5], [.ref q], h) Q) := t_getr k_100_28
theorem k_100_31 : lk 100 31 = some (.iload_n 1, 32, 1, 0, .null) := by decide +kernel
theorem x_100_31 : Tr sc d 100 (31, [l0, some (.int x), l2, l3, l4, l5], [.ref k0], h) Q = Tr sc d 100 (32, [l0, some (.int x), l2, l3, l4, l5], [.int x, .ref k0], h) Q := t_iload_n k_100_31 rfl
theorem k_100_32 : lk 100 32 = some (.aaload, 33, 0, 0, .null) := by decide +kernel
theorem x_100_32 : Tr sc d 100 (32, [l0, l1, l2, l3, l4, l5], [.int i1, .ref k0], h) Q = (((okp h k0 14 || okp h k0 15) && inb i1 (LN k0)) = true ∧ ∃ q, hR h k0 i1.toNatClampNeg = some q ∧ Tr sc d 100 (33, [l0, l1, l2, l3, l4, l5], [.ref q], h) Q) := t_aald k_100_32
theorem k_100_33 : lk 100 33 = some (.invokevirtual 125, 36, 42, 0, .null) := by decide +kernel
theorem x_100_33 : Tr sc (d + 1) 100 (33, [l0, l1, l2, l3, l4, l5], [.ref k0], h) Q = (okp h k0 5 = true ∧ Tr sc d 42 (ent0 42 [.ref k0] h) (fun z => Tr sc (d + 1) 100 (36, [l0, l1, l2, l3, l4, l5], z.1.toList ++ [], z.2) Q)) := t_cv (as := []) (r := []) k_100_33 rfl rfl (Nat.le_of_ble_eq_true rfl) (Nat.le_of_ble_eq_true rfl) (Nat.le_of_ble_eq_true rfl)
theorem k_100_36 : lk 100 36 = some (.ifCond .ne 15, 39, 51, 0, .null) := by decide +kernel
theorem x_100_36 : Tr sc d 100 (36, [l0, l1, l2, l3, l4, l5], [.int i0], h) Q = if i0 = 0 then Tr sc d 100 (39, [l0, l1, l2, l3, l4, l5], [], h) Q else Tr sc d 100 (51, [l0, l1, l2, l3, l4, l5], [], h) Q := t_if k_100_36 rfl
theorem k_100_39 : lk 100 39 = some (.aload_n 0, 40, 0, 0, .null) := by decide +kernel
theorem x_100_39 : Tr sc d 100 (39, [some (.ref xk), l1, l2, l3, l4, l5], [], h) Q = Tr sc d 100 (40, [some (.ref xk), l1, l2, l3, l4, l5], [.ref xk], h) Q := t_aload_n k_100_39 rfl
theorem k_100_40 : lk 100 40 = some (.getfield 11, 43, 9, 0, .null) := by decide +kernel
theorem x_100_40 : Tr sc d 100 (40, [l0, l1, l2, l3, l4, l5], [.ref k0], h) Q = (okp h k0 9 = true ∧ ∃ q, hR h k0 0 = some q ∧ Tr sc d 100 (43, [l0, l1, l2, l3, l4, l5], [.ref q], h) Q) := t_getr k_100_40
theorem k_100_43 : lk 100 43 = some (.iload_n 3, 44, 3, 0, .null) := by decide +kernel
theorem x_100_43 : Tr sc d 100 (43, [l0, l1, l2, some (.int x), l4, l5], [.ref k0], h) Q = Tr sc d 100 (44, [l0, l1, l2, some (.int x), l4, l5], [.int x, .ref k0], h) Q := t_iload_n k_100_43 rfl
theorem k_100_44 : lk 100 44 = some (.aaload, 45, 0, 0, .null) := by decide +kernel
theorem x_100_44 : Tr sc d 100 (44, [l0, l1, l2, l3, l4, l5], [.int i1, .ref k0], h) Q = (((okp h k0 14 || okp h k0 15) && inb i1 (LN k0)) = true ∧ ∃ q, hR h k0 i1.toNatClampNeg = some q ∧ Tr sc d 100 (45, [l0, l1, l2, l3, l4, l5], [.ref q], h) Q) := t_aald k_100_44
theorem k_100_45 : lk 100 45 = some (.invokevirtual 125, 48, 42, 0, .null) := by decide +kernel
theorem x_100_45 : Tr sc (d + 1) 100 (45, [l0, l1, l2, l3, l4, l5], [.ref k0], h) Q = (okp h k0 5 = true ∧ Tr sc d 42 (ent0 42 [.ref k0] h) (fun z => Tr sc (d + 1) 100 (48, [l0, l1, l2, l3, l4, l5], z.1.toList ++ [], z.2) Q)) := t_cv (as := []) (r := []) k_100_45 rfl rfl (Nat.le_of_ble_eq_true rfl) (Nat.le_of_ble_eq_true rfl) (Nat.le_of_ble_eq_true rfl)
theorem k_100_48 : lk 100 48 = some (.ifCond .eq 9, 51, 57, 0, .null) := by decide +kernel
theorem x_100_48 : Tr sc d 100 (48, [l0, l1, l2, l3, l4, l5], [.int i0], h) Q = if i0 = 0 then Tr sc d 100 (57, [l0, l1, l2, l3, l4, l5], [], h) Q else Tr sc d 100 (51, [l0, l1, l2, l3, l4, l5], [], h) Q := t_if k_100_48 rfl
theorem k_100_51 : lk 100 51 = some (.aload_n 0, 52, 0, 0, .null) := by decide +kernel
theorem x_100_51 : Tr sc d 100 (51, [some (.ref xk), l1, l2, l3, l4, l5], [], h) Q = Tr sc d 100 (52, [some (.ref xk), l1, l2, l3, l4, l5], [.ref xk], h) Q := t_aload_n k_100_51 rfl
theorem k_100_52 : lk 100 52 = some (.iconst 1, 53, 0, 0, .int 1) := by decide +kernel
theorem x_100_52 : Tr sc d 100 (52, [l0, l1, l2, l3, l4, l5], [.ref k0], h) Q = Tr sc d 100 (53, [l0, l1, l2, l3, l4, l5], [.int 1, .ref k0], h) Q := t_go k_100_52 rfl
theorem k_100_53 : lk 100 53 = some (.invokevirtual 118, 56, 145, 1, .null) := by decide +kernel
theorem x_100_53 : Tr sc (d + 1) 100 (53, [l0, l1, l2, l3, l4, l5], [.int i1, .ref k0], h) Q = (okp h k0 9 = true ∧ Tr sc d 145 (ent0 145 [.ref k0, .int i1] h) (fun z => Tr sc (d + 1) 100 (56, [l0, l1, l2, l3, l4, l5], z.1.toList ++ [], z.2) Q)) := t_cv (as := [.int i1]) (r := []) k_100_53 rfl rfl (Nat.le_of_ble_eq_true rfl) (Nat.le_of_ble_eq_true rfl) (Nat.le_of_ble_eq_true rfl)
theorem k_100_56 : lk 100 56 = some (.ireturn, 57, 0, 0, .null) := by decide +kernel
theorem x_100_56 : Tr sc d 100 (56, [l0, l1, l2, l3, l4, l5], [.int i0], h) Q = Q (some (.int i0), h) := t_ret k_100_56 (by rw [r_100]; rfl)
theorem k_100_57 : lk 100 57 = some (.aload_n 0, 58, 0, 0, .null) := by decide +kernel
theorem x_100_57 : Tr sc d 100 (57, [some (.ref xk), l1, l2, l3, l4, l5], [], h) Q = Tr sc d 100 (58, [some (.ref xk), l1, l2, l3, l4, l5], [.ref xk], h) Q := t_aload_n k_100_57 rfl
theorem k_100_58 : lk 100 58 = some (.getfield 11, 61, 9, 0, .null) := by decide +kernel
theorem x_100_58 : Tr sc d 100 (58, [l0, l1, l2, l3, l4, l5], [.ref k0], h) Q = (okp h k0 9 = true ∧ ∃ q, hR h k0 0 = some q ∧ Tr sc d 100 (61, [l0, l1, l2, l3, l4, l5], [.ref q], h) Q) := t_getr k_100_58
theorem k_100_61 : lk 100 61 = some (.iload_n 1, 62, 1, 0, .null) := by decide +kernel
theorem x_100_61 : Tr sc d 100 (61, [l0, some (.int x), l2, l3, l4, l5], [.ref k0], h) Q = Tr sc d 100 (62, [l0, some (.int x), l2, l3, l4, l5], [.int x, .ref k0], h) Q := t_iload_n k_100_61 rfl
theorem k_100_62 : lk 100 62 = some (.aaload, 63, 0, 0, .null) := by decide +kernel
theorem x_100_62 : Tr sc d 100 (62, [l0, l1, l2, l3, l4, l5], [.int i1, .ref k0], h) Q = (((okp h k0 14 || okp h k0 15) && inb i1 (LN k0)) = true ∧ ∃ q, hR h k0 i1.toNatClampNeg = some q ∧ Tr sc d 100 (63, [l0, l1, l2, l3, l4, l5], [.ref q], h) Q) := t_aald k_100_62
theorem k_100_63 : lk 100 63 = some (.iload_n 2, 64, 2, 0, .null) := by decide +kernel
theorem x_100_63 : Tr sc d 100 (63, [l0, l1, some (.int x), l3, l4, l5], [.ref k0], h) Q = Tr sc d 100 (64, [l0, l1, some (.int x), l3, l4, l5], [.int x, .ref k0], h) Q := t_iload_n k_100_63 rfl
theorem k_100_64 : lk 100 64 = some (.iload 5, 66, 5, 0, .null) := by decide +kernel
theorem x_100_64 : Tr sc d 100 (64, [l0, l1, l2, l3, l4, some (.int x)], [.int i1, .ref k0], h) Q = Tr sc d 100 (66, [l0, l1, l2, l3, l4, some (.int x)], [.int x, .int i1, .ref k0], h) Q := t_iload k_100_64 rfl
theorem k_100_66 : lk 100 66 = some (.invokevirtual 138, 69, 44, 2, .null) := by decide +kernel
theorem x_100_66 : Tr sc (d + 1) 100 (66, [l0, l1, l2, l3, l4, l5], [.int i2, .int i1, .ref k0], h) Q = (okp h k0 5 = true ∧ Tr sc d 44 (ent0 44 [.ref k0, .int i1, .int i2] h) (fun z => Tr sc (d + 1) 100 (69, [l0, l1, l2, l3, l4, l5], z.1.toList ++ [], z.2) Q)) := t_cv (as := [.int i1, .int i2]) (r := []) k_100_66 rfl rfl (Nat.le_of_ble_eq_true rfl) (Nat.le_of_ble_eq_true rfl) (Nat.le_of_ble_eq_true rfl)
theorem k_100_69 : lk 100 69 = some (.ifCond .eq 19, 72, 88, 0, .null) := by decide +kernel
theorem x_100_69 : Tr sc d 100 (69, [l0, l1, l2, l3, l4, l5], [.int i0], h) Q = if i0 = 0 then Tr sc d 100 (88, [l0, l1, l2, l3, l4, l5], [], h) Q else Tr sc d 100 (72, [l0, l1, l2, l3, l4, l5], [], h) Q := t_if k_100_69 rfl
theorem k_100_72 : lk 100 72 = some (.aload_n 0, 73, 0, 0, .null) := by decide +kernel
theorem x_100_72 : Tr sc d 100 (72, [some (.ref xk), l1, l2, l3, l4, l5], [], h) Q = Tr sc d 100 (73, [some (.ref xk), l1, l2, l3, l4, l5], [.ref xk], h) Q := t_aload_n k_100_72 rfl
theorem k_100_73 : lk 100 73 = some (.getfield 11, 76, 9, 0, .null) := by decide +kernel
theorem x_100_73 : Tr sc d 100 (73, [l0, l1, l2, l3, l4, l5], [.ref k0], h) Q = (okp h k0 9 = true ∧ ∃ q, hR h k0 0 = some q ∧ Tr sc d 100 (76, [l0, l1, l2, l3, l4, l5], [.ref q], h) Q) := t_getr k_100_73
theorem k_100_76 : lk 100 76 = some (.iload_n 3, 77, 3, 0, .null) := by decide +kernel
theorem x_100_76 : Tr sc d 100 (76, [l0, l1, l2, some (.int x), l4, l5], [.ref k0], h) Q = Tr sc d 100 (77, [l0, l1, l2, some (.int x), l4, l5], [.int x, .ref k0], h) Q := t_iload_n k_100_76 rfl
theorem k_100_77 : lk 100 77 = some (.aaload, 78, 0, 0, .null) := by decide +kernel
theorem x_100_77 : Tr sc d 100 (77, [l0, l1, l2, l3, l4, l5], [.int i1, .ref k0], h) Q = (((okp h k0 14 || okp h k0 15) && inb i1 (LN k0)) = true ∧ ∃ q, hR h k0 i1.toNatClampNeg = some q ∧ Tr sc d 100 (78, [l0, l1, l2, l3, l4, l5], [.ref q], h) Q) := t_aald k_100_77
theorem k_100_78 : lk 100 78 = some (.iload 4, 80, 4, 0, .null) := by decide +kernel
theorem x_100_78 : Tr sc d 100 (78, [l0, l1, l2, l3, some (.int x), l5], [.ref k0], h) Q = Tr sc d 100 (80, [l0, l1, l2, l3, some (.int x), l5], [.int x, .ref k0], h) Q := t_iload k_100_78 rfl
theorem k_100_80 : lk 100 80 = some (.iload 5, 82, 5, 0, .null) := by decide +kernel
theorem x_100_80 : Tr sc d 100 (80, [l0, l1, l2, l3, l4, some (.int x)], [.int i1, .ref k0], h) Q = Tr sc d 100 (82, [l0, l1, l2, l3, l4, some (.int x)], [.int x, .int i1, .ref k0], h) Q := t_iload k_100_80 rfl
theorem k_100_82 : lk 100 82 = some (.invokevirtual 138, 85, 44, 2, .null) := by decide +kernel
theorem x_100_82 : Tr sc (d + 1) 100 (82, [l0, l1, l2, l3, l4, l5], [.int i2, .int i1, .ref k0], h) Q = (okp h k0 5 = true ∧ Tr sc d 44 (ent0 44 [.ref k0, .int i1, .int i2] h) (fun z => Tr sc (d + 1) 100 (85, [l0, l1, l2, l3, l4, l5], z.1.toList ++ [], z.2) Q)) := t_cv (as := [.int i1, .int i2]) (r := []) k_100_82 rfl rfl (Nat.le_of_ble_eq_true rfl) (Nat.le_of_ble_eq_true rfl) (Nat.le_of_ble_eq_true rfl)
theorem k_100_85 : lk 100 85 = some (.ifCond .ne 9, 88, 94, 0, .null) := by decide +kernel
theorem x_100_85 : Tr sc d 100 (85, [l0, l1, l2, l3, l4, l5], [.int i0], h) Q = if i0 = 0 then Tr sc d 100 (88, [l0, l1, l2, l3, l4, l5], [], h) Q else Tr sc d 100 (94, [l0, l1, l2, l3, l4, l5], [], h) Q := t_if k_100_85 rfl
theorem k_100_88 : lk 100 88 = some (.aload_n 0, 89, 0, 0, .null) := by decide +kernel
theorem x_100_88 : Tr sc d 100 (88, [some (.ref xk), l1, l2, l3, l4, l5], [], h) Q = Tr sc d 100 (89, [some (.ref xk), l1, l2, l3, l4, l5], [.ref xk], h) Q := t_aload_n k_100_88 rfl
theorem k_100_89 : lk 100 89 = some (.iconst 2, 90, 0, 0, .int 2) := by decide +kernel
theorem x_100_89 : Tr sc d 100 (89, [l0, l1, l2, l3, l4, l5], [.ref k0], h) Q = Tr sc d 100 (90, [l0, l1, l2, l3, l4, l5], [.int 2, .ref k0], h) Q := t_go k_100_89 rfl
theorem k_100_90 : lk 100 90 = some (.invokevirtual 118, 93, 145, 1, .null) := by decide +kernel
theorem x_100_90 : Tr sc (d + 1) 100 (90, [l0, l1, l2, l3, l4, l5], [.int i1, .ref k0], h) Q = (okp h k0 9 = true ∧ Tr sc d 145 (ent0 145 [.ref k0, .int i1] h) (fun z => Tr sc (d + 1) 100 (93, [l0, l1, l2, l3, l4, l5], z.1.toList ++ [], z.2) Q)) := t_cv (as := [.int i1]) (r := []) k_100_90 rfl rfl (Nat.le_of_ble_eq_true rfl) (Nat.le_of_ble_eq_true rfl) (Nat.le_of_ble_eq_true rfl)
theorem k_100_93 : lk 100 93 = some (.ireturn, 94, 0, 0, .null) := by decide +kernel
theorem x_100_93 : Tr sc d 100 (93, [l0, l1, l2, l3, l4, l5], [.int i0], h) Q = Q (some (.int i0), h) := t_ret k_100_93 (by rw [r_100]; rfl)
theorem k_100_94 : lk 100 94 = some (.aload_n 0, 95, 0, 0, .null) := by decide +kernel
theorem x_100_94 : Tr sc d 100 (94, [some (.ref xk), l1, l2, l3, l4, l5], [], h) Q = Tr sc d 100 (95, [some (.ref xk), l1, l2, l3, l4, l5], [.ref xk], h) Q := t_aload_n k_100_94 rfl
theorem k_100_95 : lk 100 95 = some (.getfield 11, 98, 9, 0, .null) := by decide +kernel
theorem x_100_95 : Tr sc d 100 (95, [l0, l1, l2, l3, l4, l5], [.ref k0], h) Q = (okp h k0 9 = true ∧ ∃ q, hR h k0 0 = some q ∧ Tr sc d 100 (98, [l0, l1, l2, l3, l4, l5], [.ref q], h) Q) := t_getr k_100_95
theorem k_100_98 : lk 100 98 = some (.iload_n 1, 99, 1, 0, .null) := by decide +kernel
theorem x_100_98 : Tr sc d 100 (98, [l0, some (.int x), l2, l3, l4, l5], [.ref k0], h) Q = Tr sc d 100 (99, [l0, some (.int x), l2, l3, l4, l5], [.int x, .ref k0], h) Q := t_iload_n k_100_98 rfl
theorem k_100_99 : lk 100 99 = some (.aaload, 100, 0, 0, .null) := by decide +kernel
theorem x_100_99 : Tr sc d 100 (99, [l0, l1, l2, l3, l4, l5], [.int i1, .ref k0], h) Q = (((okp h k0 14 || okp h k0 15) && inb i1 (LN k0)) = true ∧ ∃ q, hR h k0 i1.toNatClampNeg = some q ∧ Tr sc d 100 (100, [l0, l1, l2, l3, l4, l5], [.ref q], h) Q) := t_aald k_100_99
theorem k_100_100 : lk 100 100 = some (.getfield 132, 103, 5, 0, .null) := by decide +kernel
theorem x_100_100 : Tr sc d 100 (100, [l0, l1, l2, l3, l4, l5], [.ref k0], h) Q = (okp h k0 5 = true ∧ ∃ q, hR h k0 0 = some q ∧ Tr sc d 100 (103, [l0, l1, l2, l3, l4, l5], [.ref q], h) Q) := t_getr k_100_100
theorem k_100_103 : lk 100 103 = some (.iload_n 2, 104, 2, 0, .null) := by decide +kernel
theorem x_100_103 : Tr sc d 100 (103, [l0, l1, some (.int x), l3, l4, l5], [.ref k0], h) Q = Tr sc d 100 (104, [l0, l1, some (.int x), l3, l4, l5], [.int x, .ref k0], h) Q := t_iload_n k_100_103 rfl
theorem k_100_104 : lk 100 104 = some (.aload_n 0, 105, 0, 0, .null) := by decide +kernel
theorem x_100_104 : Tr sc d 100 (104, [some (.ref xk), l1, l2, l3, l4, l5], [.int i1, .ref k0], h) Q = Tr sc d 100 (105, [some (.ref xk), l1, l2, l3, l4, l5], [.ref xk, .int i1, .ref k0], h) Q := t_aload_n k_100_104 rfl
theorem k_100_105 : lk 100 105 = some (.getfield 11, 108, 9, 0, .null) := by decide +kernel
theorem x_100_105 : Tr sc d 100 (105, [l0, l1, l2, l3, l4, l5], [.ref k2, .int i1, .ref k0], h) Q = (okp h k2 9 = true ∧ ∃ q, hR h k2 0 = some q ∧ Tr sc d 100 (108, [l0, l1, l2, l3, l4, l5], [.ref q, .int i1, .ref k0], h) Q) := t_getr k_100_105
theorem k_100_108 : lk 100 108 = some (.iload_n 3, 109, 3, 0, .null) := by decide +kernel
theorem x_100_108 : Tr sc d 100 (108, [l0, l1, l2, some (.int x), l4, l5], [.ref k2, .int i1, .ref k0], h) Q = Tr sc d 100 (109, [l0, l1, l2, some (.int x), l4, l5], [.int x, .ref k2, .int i1, .ref k0], h) Q := t_iload_n k_100_108 rfl
theorem k_100_109 : lk 100 109 = some (.aaload, 110, 0, 0, .null) := by decide +kernel
theorem x_100_109 : Tr sc d 100 (109, [l0, l1, l2, l3, l4, l5], [.int i3, .ref k2, .int i1, .ref k0], h) Q = (((okp h k2 14 || okp h k2 15) && inb i3 (LN k2)) = true ∧ ∃ q, hR h k2 i3.toNatClampNeg = some q ∧ Tr sc d 100 (110, [l0, l1, l2, l3, l4, l5], [.ref q, .int i1, .ref k0], h) Q) := t_aald k_100_109
theorem k_100_110 : lk 100 110 = some (.getfield 132, 113, 5, 0, .null) := by decide +kernel
theorem x_100_110 : Tr sc d 100 (110, [l0, l1, l2, l3, l4, l5], [.ref k2, .int i1, .ref k0], h) Q = (okp h k2 5 = true ∧ ∃ q, hR h k2 0 = some q ∧ Tr sc d 100 (113, [l0, l1, l2, l3, l4, l5], [.ref q, .int i1, .ref k0], h) Q) := t_getr k_100_110
theorem k_100_113 : lk 100 113 = some (.iload 4, 115, 4, 0, .null) := by decide +kernel
theorem x_100_113 : Tr sc d 100 (113, [l0, l1, l2, l3, some (.int x), l5], [.ref k2, .int i1, .ref k0], h) Q = Tr sc d 100 (115, [l0, l1, l2, l3, some (.int x), l5], [.int x, .ref k2, .int i1, .ref k0], h) Q := t_iload k_100_113 rfl
theorem k_100_115 : lk 100 115 = some (.iload 5, 117, 5, 0, .null) := by decide +kernel
theorem x_100_115 : Tr sc d 100 (115, [l0, l1, l2, l3, l4, some (.int x)], [.int i3, .ref k2, .int i1, .ref k0], h) Q = Tr sc d 100 (117, [l0, l1, l2, l3, l4, some (.int x)], [.int x, .int i3, .ref k2, .int i1, .ref k0], h) Q := t_iload k_100_115 rfl
theorem k_100_117 : lk 100 117 = some (.invokestatic 142, 120, 9001, 0, .null) := by decide +kernel
theorem x_100_117 : Tr sc d 100 (117, [l0, l1, l2, l3, l4, l5], [.int i4, .int i3, .ref k2, .int i1, .ref k0], h) Q = (((¬ i1 < 0) ∧ (¬ i3 < 0) ∧ (¬ i4 < 0) ∧ i1.toNatClampNeg + i4.toNatClampNeg ≤ LN k0 ∧ i3.toNatClampNeg + i4.toNatClampNeg ≤ LN k2 ∧ catS [] ≤ 8) ∧ if (okp h k0 11 && okp h k2 11) = true then Tr sc d 100 (120, [l0, l1, l2, l3, l4, l5], [], aI h k2 (va_cpy (hI h k0) (hI h k2) i1.toNatClampNeg i3.toNatClampNeg i4.toNatClampNeg)) Q else ((okp h k0 12 && okp h k2 12) = true ∧ Tr sc d 100 (120, [l0, l1, l2, l3, l4, l5], [], aL h k2 (va_cpy (hL h k0) (hL h k2) i1.toNatClampNeg i3.toNatClampNeg i4.toNatClampNeg)) Q)) := t_copy k_100_117
theorem k_100_120 : lk 100 120 = some (.iconst 1, 121, 0, 0, .int 1) := by decide +kernel
theorem x_100_120 : Tr sc d 100 (120, [l0, l1, l2, l3, l4, l5], [], h) Q = Tr sc d 100 (121, [l0, l1, l2, l3, l4, l5], [.int 1], h) Q := t_go k_100_120 rfl
theorem k_100_121 : lk 100 121 = some (.ireturn, 122, 0, 0, .null) := by decide +kernel
theorem x_100_121 : Tr sc d 100 (121, [l0, l1, l2, l3, l4, l5], [.int i0], h) Q = Q (some (.int i0), h) := t_ret k_100_121 (by rw [r_100]; rfl)
theorem e_100 : Tr sc d 100 (ent0 100 [.ref k0, .int i1, .int i2, .int i3, .int i4, .int i5] h) Q = Tr sc d 100 (0, [some (.ref k0), some (.int i1), some (.int i2), some (.int i3), some (.int i4), some (.int i5)], [], h) Q := by
  have e : mL 100 = 6 := by decide +kernel
  unfold ent0
  rw [e]
  rfl
theorem r_101 : mR 101 = some .int := by decide +kernel
theorem k_101_0 : lk 101 0 = some (.iload_n 1, 1, 1, 0, .null) := by decide +kernel
theorem x_101_0 : Tr sc d 101 (0, [l0, some (.int x)], [], h) Q = Tr sc d 101 (1, [l0, some (.int x)], [.int x], h) Q := t_iload_n k_101_0 rfl
theorem k_101_1 : lk 101 1 = some (.invokestatic 114, 4, 141, 1, .null) := by decide +kernel
theorem x_101_1 : Tr sc (d + 1) 101 (1, [l0, l1], [.int i0], h) Q = Tr sc d 141 (ent0 141 [.int i0] h) (fun z => Tr sc (d + 1) 101 (4, [l0, l1], z.1.toList ++ [], z.2) Q) := t_cs (as := [.int i0]) (r := []) k_101_1 (by decide) rfl rfl (Nat.le_of_ble_eq_true rfl) (Nat.le_of_ble_eq_true rfl)
theorem k_101_4 : lk 101 4 = some (.ifCond .ne 5, 7, 9, 0, .null) := by decide +kernel
theorem x_101_4 : Tr sc d 101 (4, [l0, l1], [.int i0], h) Q = if i0 = 0 then Tr sc d 101 (7, [l0, l1], [], h) Q else Tr sc d 101 (9, [l0, l1], [], h) Q := t_if k_101_4 rfl
theorem k_101_7 : lk 101 7 = some (.iconst (-1), 8, 0, 0, .int (-1)) := by decide +kernel
theorem x_101_7 : Tr sc d 101 (7, [l0, l1], [], h) Q = Tr sc d 101 (8, [l0, l1], [.int (-1)], h) Q := t_go k_101_7 rfl
theorem k_101_8 : lk 101 8 = some (.ireturn, 9, 0, 0, .null) := by decide +kernel
theorem x_101_8 : Tr sc d 101 (8, [l0, l1], [.int i0], h) Q = Q (some (.int i0), h) := t_ret k_101_8 (by rw [r_101]; rfl)
theorem k_101_9 : lk 101 9 = some (.aload_n 0, 10, 0, 0, .null) := by decide +kernel
theorem x_101_9 : Tr sc d 101 (9, [some (.ref xk), l1], [], h) Q = Tr sc d 101 (10, [some (.ref xk), l1], [.ref xk], h) Q := t_aload_n k_101_9 rfl
theorem k_101_10 : lk 101 10 = some (.getfield 11, 13, 9, 0, .null) := by decide +kernel
theorem x_101_10 : Tr sc d 101 (10, [l0, l1], [.ref k0], h) Q = (okp h k0 9 = true ∧ ∃ q, hR h k0 0 = some q ∧ Tr sc d 101 (13, [l0, l1], [.ref q], h) Q) := t_getr k_101_10
theorem k_101_13 : lk 101 13 = some (.iload_n 1, 14, 1, 0, .null) := by decide +kernel
theorem x_101_13 : Tr sc d 101 (13, [l0, some (.int x)], [.ref k0], h) Q = Tr sc d 101 (14, [l0, some (.int x)], [.int x, .ref k0], h) Q := t_iload_n k_101_13 rfl
theorem k_101_14 : lk 101 14 = some (.aaload, 15, 0, 0, .null) := by decide +kernel
theorem x_101_14 : Tr sc d 101 (14, [l0, l1], [.int i1, .ref k0], h) Q = (((okp h k0 14 || okp h k0 15) && inb i1 (LN k0)) = true ∧ ∃ q, hR h k0 i1.toNatClampNeg = some q ∧ Tr sc d 101 (15, [l0, l1], [.ref q], h) Q) := t_aald k_101_14
theorem k_101_15 : lk 101 15 = some (.invokevirtual 125, 18, 42, 0, .null) := by decide +kernel
theorem x_101_15 : Tr sc (d + 1) 101 (15, [l0, l1], [.ref k0], h) Q = (okp h k0 5 = true ∧ Tr sc d 42 (ent0 42 [.ref k0] h) (fun z => Tr sc (d + 1) 101 (18, [l0, l1], z.1.toList ++ [], z.2) Q)) := t_cv (as := []) (r := []) k_101_15 rfl rfl (Nat.le_of_ble_eq_true rfl) (Nat.le_of_ble_eq_true rfl) (Nat.le_of_ble_eq_true rfl)
theorem k_101_18 : lk 101 18 = some (.ifCond .eq 9, 21, 27, 0, .null) := by decide +kernel
theorem x_101_18 : Tr sc d 101 (18, [l0, l1], [.int i0], h) Q = if i0 = 0 then Tr sc d 101 (27, [l0, l1], [], h) Q else Tr sc d 101 (21, [l0, l1], [], h) Q := t_if k_101_18 rfl
theorem k_101_21 : lk 101 21 = some (.aload_n 0, 22, 0, 0, .null) := by decide +kernel
theorem x_101_21 : Tr sc d 101 (21, [some (.ref xk), l1], [], h) Q = Tr sc d 101 (22, [some (.ref xk), l1], [.ref xk], h) Q := t_aload_n k_101_21 rfl
theorem k_101_22 : lk 101 22 = some (.iconst 1, 23, 0, 0, .int 1) := by decide +kernel
theorem x_101_22 : Tr sc d 101 (22, [l0, l1], [.ref k0], h) Q = Tr sc d 101 (23, [l0, l1], [.int 1, .ref k0], h) Q := t_go k_101_22 rfl
theorem k_101_23 : lk 101 23 = some (.invokevirtual 118, 26, 145, 1, .null) := by decide +kernel
theorem x_101_23 : Tr sc (d + 1) 101 (23, [l0, l1], [.int i1, .ref k0], h) Q = (okp h k0 9 = true ∧ Tr sc d 145 (ent0 145 [.ref k0, .int i1] h) (fun z => Tr sc (d + 1) 101 (26, [l0, l1], z.1.toList ++ [], z.2) Q)) := t_cv (as := [.int i1]) (r := []) k_101_23 rfl rfl (Nat.le_of_ble_eq_true rfl) (Nat.le_of_ble_eq_true rfl) (Nat.le_of_ble_eq_true rfl)
theorem k_101_26 : lk 101 26 = some (.ireturn, 27, 0, 0, .null) := by decide +kernel
theorem x_101_26 : Tr sc d 101 (26, [l0, l1], [.int i0], h) Q = Q (some (.int i0), h) := t_ret k_101_26 (by rw [r_101]; rfl)
theorem k_101_27 : lk 101 27 = some (.aload_n 0, 28, 0, 0, .null) := by decide +kernel
theorem x_101_27 : Tr sc d 101 (27, [some (.ref xk), l1], [], h) Q = Tr sc d 101 (28, [some (.ref xk), l1], [.ref xk], h) Q := t_aload_n k_101_27 rfl
theorem k_101_28 : lk 101 28 = some (.getfield 11, 31, 9, 0, .null) := by decide +kernel
theorem x_101_28 : Tr sc d 101 (28, [l0, l1], [.ref k0], h) Q = (okp h k0 9 = true ∧ ∃ q, hR h k0 0 = some q ∧ Tr sc d 101 (31, [l0, l1], [.ref q], h) Q) := t_getr k_101_28
theorem k_101_31 : lk 101 31 = some (.iload_n 1, 32, 1, 0, .null) := by decide +kernel
theorem x_101_31 : Tr sc d 101 (31, [l0, some (.int x)], [.ref k0], h) Q = Tr sc d 101 (32, [l0, some (.int x)], [.int x, .ref k0], h) Q := t_iload_n k_101_31 rfl
theorem k_101_32 : lk 101 32 = some (.aaload, 33, 0, 0, .null) := by decide +kernel
theorem x_101_32 : Tr sc d 101 (32, [l0, l1], [.int i1, .ref k0], h) Q = (((okp h k0 14 || okp h k0 15) && inb i1 (LN k0)) = true ∧ ∃ q, hR h k0 i1.toNatClampNeg = some q ∧ Tr sc d 101 (33, [l0, l1], [.ref q], h) Q) := t_aald k_101_32
theorem k_101_33 : lk 101 33 = some (.getfield 135, 36, 5, 1, .int 0) := by decide +kernel
theorem x_101_33 : Tr sc d 101 (33, [l0, l1], [.ref k0], h) Q = (okp h k0 5 = true ∧ Tr sc d 101 (36, [l0, l1], [.int (hI h k0 1)], h) Q) := t_gd k_101_33 rfl
theorem k_101_36 : lk 101 36 = some (.ifCond .ne 9, 39, 45, 0, .null) := by decide +kernel
theorem x_101_36 : Tr sc d 101 (36, [l0, l1], [.int i0], h) Q = if i0 = 0 then Tr sc d 101 (39, [l0, l1], [], h) Q else Tr sc d 101 (45, [l0, l1], [], h) Q := t_if k_101_36 rfl
theorem k_101_39 : lk 101 39 = some (.aload_n 0, 40, 0, 0, .null) := by decide +kernel
theorem x_101_39 : Tr sc d 101 (39, [some (.ref xk), l1], [], h) Q = Tr sc d 101 (40, [some (.ref xk), l1], [.ref xk], h) Q := t_aload_n k_101_39 rfl
theorem k_101_40 : lk 101 40 = some (.iconst 4, 41, 0, 0, .int 4) := by decide +kernel
theorem x_101_40 : Tr sc d 101 (40, [l0, l1], [.ref k0], h) Q = Tr sc d 101 (41, [l0, l1], [.int 4, .ref k0], h) Q := t_go k_101_40 rfl
theorem k_101_41 : lk 101 41 = some (.invokevirtual 118, 44, 145, 1, .null) := by decide +kernel
theorem x_101_41 : Tr sc (d + 1) 101 (41, [l0, l1], [.int i1, .ref k0], h) Q = (okp h k0 9 = true ∧ Tr sc d 145 (ent0 145 [.ref k0, .int i1] h) (fun z => Tr sc (d + 1) 101 (44, [l0, l1], z.1.toList ++ [], z.2) Q)) := t_cv (as := [.int i1]) (r := []) k_101_41 rfl rfl (Nat.le_of_ble_eq_true rfl) (Nat.le_of_ble_eq_true rfl) (Nat.le_of_ble_eq_true rfl)
theorem k_101_44 : lk 101 44 = some (.ireturn, 45, 0, 0, .null) := by decide +kernel
theorem x_101_44 : Tr sc d 101 (44, [l0, l1], [.int i0], h) Q = Q (some (.int i0), h) := t_ret k_101_44 (by rw [r_101]; rfl)
theorem k_101_45 : lk 101 45 = some (.aload_n 0, 46, 0, 0, .null) := by decide +kernel
theorem x_101_45 : Tr sc d 101 (45, [some (.ref xk), l1], [], h) Q = Tr sc d 101 (46, [some (.ref xk), l1], [.ref xk], h) Q := t_aload_n k_101_45 rfl
theorem k_101_46 : lk 101 46 = some (.aload_n 0, 47, 0, 0, .null) := by decide +kernel
theorem x_101_46 : Tr sc d 101 (46, [some (.ref xk), l1], [.ref k0], h) Q = Tr sc d 101 (47, [some (.ref xk), l1], [.ref xk, .ref k0], h) Q := t_aload_n k_101_46 rfl
theorem k_101_47 : lk 101 47 = some (.getfield 11, 50, 9, 0, .null) := by decide +kernel
theorem x_101_47 : Tr sc d 101 (47, [l0, l1], [.ref k1, .ref k0], h) Q = (okp h k1 9 = true ∧ ∃ q, hR h k1 0 = some q ∧ Tr sc d 101 (50, [l0, l1], [.ref q, .ref k0], h) Q) := t_getr k_101_47
theorem k_101_50 : lk 101 50 = some (.iload_n 1, 51, 1, 0, .null) := by decide +kernel
theorem x_101_50 : Tr sc d 101 (50, [l0, some (.int x)], [.ref k1, .ref k0], h) Q = Tr sc d 101 (51, [l0, some (.int x)], [.int x, .ref k1, .ref k0], h) Q := t_iload_n k_101_50 rfl
theorem k_101_51 : lk 101 51 = some (.aaload, 52, 0, 0, .null) := by decide +kernel
theorem x_101_51 : Tr sc d 101 (51, [l0, l1], [.int i2, .ref k1, .ref k0], h) Q = (((okp h k1 14 || okp h k1 15) && inb i2 (LN k1)) = true ∧ ∃ q, hR h k1 i2.toNatClampNeg = some q ∧ Tr sc d 101 (52, [l0, l1], [.ref q, .ref k0], h) Q) := t_aald k_101_51
theorem k_101_52 : lk 101 52 = some (.invokevirtual 148, 55, 45, 0, .null) := by decide +kernel
theorem x_101_52 : Tr sc (d + 1) 101 (52, [l0, l1], [.ref k1, .ref k0], h) Q = (okp h k1 5 = true ∧ Tr sc d 45 (ent0 45 [.ref k1] h) (fun z => Tr sc (d + 1) 101 (55, [l0, l1], z.1.toList ++ [.ref k0], z.2) Q)) := t_cv (as := []) (r := [.ref k0]) k_101_52 rfl rfl (Nat.le_of_ble_eq_true rfl) (Nat.le_of_ble_eq_true rfl) (Nat.le_of_ble_eq_true rfl)
theorem k_101_55 : lk 101 55 = some (.aload_n 0, 56, 0, 0, .null) := by decide +kernel
theorem x_101_55 : Tr sc d 101 (55, [some (.ref xk), l1], [.long j1, .ref k0], h) Q = Tr sc d 101 (56, [some (.ref xk), l1], [.ref xk, .long j1, .ref k0], h) Q := t_aload_n k_101_55 rfl
theorem k_101_56 : lk 101 56 = some (.getfield 11, 59, 9, 0, .null) := by decide +kernel
theorem x_101_56 : Tr sc d 101 (56, [l0, l1], [.ref k2, .long j1, .ref k0], h) Q = (okp h k2 9 = true ∧ ∃ q, hR h k2 0 = some q ∧ Tr sc d 101 (59, [l0, l1], [.ref q, .long j1, .ref k0], h) Q) := t_getr k_101_56
theorem k_101_59 : lk 101 59 = some (.iload_n 1, 60, 1, 0, .null) := by decide +kernel
theorem x_101_59 : Tr sc d 101 (59, [l0, some (.int x)], [.ref k2, .long j1, .ref k0], h) Q = Tr sc d 101 (60, [l0, some (.int x)], [.int x, .ref k2, .long j1, .ref k0], h) Q := t_iload_n k_101_59 rfl
theorem k_101_60 : lk 101 60 = some (.aaload, 61, 0, 0, .null) := by decide +kernel
theorem x_101_60 : Tr sc d 101 (60, [l0, l1], [.int i3, .ref k2, .long j1, .ref k0], h) Q = (((okp h k2 14 || okp h k2 15) && inb i3 (LN k2)) = true ∧ ∃ q, hR h k2 i3.toNatClampNeg = some q ∧ Tr sc d 101 (61, [l0, l1], [.ref q, .long j1, .ref k0], h) Q) := t_aald k_101_60
theorem k_101_61 : lk 101 61 = some (.getfield 135, 64, 5, 1, .int 0) := by decide +kernel
theorem x_101_61 : Tr sc d 101 (61, [l0, l1], [.ref k2, .long j1, .ref k0], h) Q = (okp h k2 5 = true ∧ Tr sc d 101 (64, [l0, l1], [.int (hI h k2 1), .long j1, .ref k0], h) Q) := t_gd k_101_61 rfl
theorem k_101_64 : lk 101 64 = some (.i2l, 65, 0, 0, .null) := by decide +kernel
theorem x_101_64 : Tr sc d 101 (64, [l0, l1], [.int i2, .long j1, .ref k0], h) Q = Tr sc d 101 (65, [l0, l1], [.long i2.toInt64, .long j1, .ref k0], h) Q := t_go k_101_64 rfl
theorem k_101_65 : lk 101 65 = some (.ldiv, 66, 0, 0, .null) := by decide +kernel
theorem x_101_65 : Tr sc d 101 (65, [l0, l1], [.long j2, .long j1, .ref k0], h) Q = (¬ j2 = 0 ∧ Tr sc d 101 (66, [l0, l1], [.long (j1 / j2), .ref k0], h) Q) := t_ng k_101_65 rfl
theorem k_101_66 : lk 101 66 = some (.l2i, 67, 0, 0, .null) := by decide +kernel
theorem x_101_66 : Tr sc d 101 (66, [l0, l1], [.long j1, .ref k0], h) Q = Tr sc d 101 (67, [l0, l1], [.int j1.toInt32, .ref k0], h) Q := t_go k_101_66 rfl
theorem k_101_67 : lk 101 67 = some (.putfield 98, 70, 9, 15, .int 0) := by decide +kernel
theorem x_101_67 : Tr sc d 101 (67, [l0, l1], [.int i1, .ref k0], h) Q = (okp h k0 9 = true ∧ Tr sc d 101 (70, [l0, l1], [], (sI h k0 15 i1)) Q) := t_gd k_101_67 rfl
theorem k_101_70 : lk 101 70 = some (.iconst 1, 71, 0, 0, .int 1) := by decide +kernel
theorem x_101_70 : Tr sc d 101 (70, [l0, l1], [], h) Q = Tr sc d 101 (71, [l0, l1], [.int 1], h) Q := t_go k_101_70 rfl
theorem k_101_71 : lk 101 71 = some (.ireturn, 72, 0, 0, .null) := by decide +kernel
theorem x_101_71 : Tr sc d 101 (71, [l0, l1], [.int i0], h) Q = Q (some (.int i0), h) := t_ret k_101_71 (by rw [r_101]; rfl)
theorem e_101 : Tr sc d 101 (ent0 101 [.ref k0, .int i1] h) Q = Tr sc d 101 (0, [some (.ref k0), some (.int i1)], [], h) Q := by
  have e : mL 101 = 2 := by decide +kernel
  unfold ent0
  rw [e]
  rfl
theorem r_102 : mR 102 = some .int := by decide +kernel
theorem k_102_0 : lk 102 0 = some (.iload_n 1, 1, 1, 0, .null) := by decide +kernel
theorem x_102_0 : Tr sc d 102 (0, [l0, some (.int x), l2], [], h) Q = Tr sc d 102 (1, [l0, some (.int x), l2], [.int x], h) Q := t_iload_n k_102_0 rfl
theorem k_102_1 : lk 102 1 = some (.invokestatic 152, 4, 142, 1, .null) := by decide +kernel
theorem x_102_1 : Tr sc (d + 1) 102 (1, [l0, l1, l2], [.int i0], h) Q = Tr sc d 142 (ent0 142 [.int i0] h) (fun z => Tr sc (d + 1) 102 (4, [l0, l1, l2], z.1.toList ++ [], z.2) Q) := t_cs (as := [.int i0]) (r := []) k_102_1 (by decide) rfl rfl (Nat.le_of_ble_eq_true rfl) (Nat.le_of_ble_eq_true rfl)
theorem k_102_4 : lk 102 4 = some (.ifCond .eq 9, 7, 13, 0, .null) := by decide +kernel
theorem x_102_4 : Tr sc d 102 (4, [l0, l1, l2], [.int i0], h) Q = if i0 = 0 then Tr sc d 102 (13, [l0, l1, l2], [], h) Q else Tr sc d 102 (7, [l0, l1, l2], [], h) Q := t_if k_102_4 rfl
theorem k_102_7 : lk 102 7 = some (.iload_n 2, 8, 2, 0, .null) := by decide +kernel
theorem x_102_7 : Tr sc d 102 (7, [l0, l1, some (.int x)], [], h) Q = Tr sc d 102 (8, [l0, l1, some (.int x)], [.int x], h) Q := t_iload_n k_102_7 rfl
theorem k_102_8 : lk 102 8 = some (.bipush 60, 10, 0, 0, .int 60) := by decide +kernel
theorem x_102_8 : Tr sc d 102 (8, [l0, l1, l2], [.int i0], h) Q = Tr sc d 102 (10, [l0, l1, l2], [.int 60, .int i0], h) Q := t_go k_102_8 rfl
theorem k_102_10 : lk 102 10 = some (.if_icmp .le 5, 13, 15, 0, .null) := by decide +kernel
theorem x_102_10 : Tr sc d 102 (10, [l0, l1, l2], [.int i1, .int i0], h) Q = if i0 ≤ i1 then Tr sc d 102 (15, [l0, l1, l2], [], h) Q else Tr sc d 102 (13, [l0, l1, l2], [], h) Q := t_if k_102_10 rfl
theorem k_102_13 : lk 102 13 = some (.iconst (-1), 14, 0, 0, .int (-1)) := by decide +kernel
theorem x_102_13 : Tr sc d 102 (13, [l0, l1, l2], [], h) Q = Tr sc d 102 (14, [l0, l1, l2], [.int (-1)], h) Q := t_go k_102_13 rfl
theorem k_102_14 : lk 102 14 = some (.ireturn, 15, 0, 0, .null) := by decide +kernel
theorem x_102_14 : Tr sc d 102 (14, [l0, l1, l2], [.int i0], h) Q = Q (some (.int i0), h) := t_ret k_102_14 (by rw [r_102]; rfl)
theorem k_102_15 : lk 102 15 = some (.iload_n 2, 16, 2, 0, .null) := by decide +kernel
theorem x_102_15 : Tr sc d 102 (15, [l0, l1, some (.int x)], [], h) Q = Tr sc d 102 (16, [l0, l1, some (.int x)], [.int x], h) Q := t_iload_n k_102_15 rfl
theorem k_102_16 : lk 102 16 = some (.ifCond .ge 9, 19, 25, 0, .null) := by decide +kernel
theorem x_102_16 : Tr sc d 102 (16, [l0, l1, l2], [.int i0], h) Q = if 0 ≤ i0 then Tr sc d 102 (25, [l0, l1, l2], [], h) Q else Tr sc d 102 (19, [l0, l1, l2], [], h) Q := t_if k_102_16 rfl
theorem k_102_19 : lk 102 19 = some (.aload_n 0, 20, 0, 0, .null) := by decide +kernel
theorem x_102_19 : Tr sc d 102 (19, [some (.ref xk), l1, l2], [], h) Q = Tr sc d 102 (20, [some (.ref xk), l1, l2], [.ref xk], h) Q := t_aload_n k_102_19 rfl
theorem k_102_20 : lk 102 20 = some (.iconst 5, 21, 0, 0, .int 5) := by decide +kernel
theorem x_102_20 : Tr sc d 102 (20, [l0, l1, l2], [.ref k0], h) Q = Tr sc d 102 (21, [l0, l1, l2], [.int 5, .ref k0], h) Q := t_go k_102_20 rfl
theorem k_102_21 : lk 102 21 = some (.invokevirtual 118, 24, 145, 1, .null) := by decide +kernel
theorem x_102_21 : Tr sc (d + 1) 102 (21, [l0, l1, l2], [.int i1, .ref k0], h) Q = (okp h k0 9 = true ∧ Tr sc d 145 (ent0 145 [.ref k0, .int i1] h) (fun z => Tr sc (d + 1) 102 (24, [l0, l1, l2], z.1.toList ++ [], z.2) Q)) := t_cv (as := [.int i1]) (r := []) k_102_21 rfl rfl (Nat.le_of_ble_eq_true rfl) (Nat.le_of_ble_eq_true rfl) (Nat.le_of_ble_eq_true rfl)
theorem k_102_24 : lk 102 24 = some (.ireturn, 25, 0, 0, .null) := by decide +kernel
theorem x_102_24 : Tr sc d 102 (24, [l0, l1, l2], [.int i0], h) Q = Q (some (.int i0), h) := t_ret k_102_24 (by rw [r_102]; rfl)
theorem k_102_25 : lk 102 25 = some (.aload_n 0, 26, 0, 0, .null) := by decide +kernel
theorem x_102_25 : Tr sc d 102 (25, [some (.ref xk), l1, l2], [], h) Q = Tr sc d 102 (26, [some (.ref xk), l1, l2], [.ref xk], h) Q := t_aload_n k_102_25 rfl
theorem k_102_26 : lk 102 26 = some (.getfield 15, 29, 9, 1, .null) := by decide +kernel
theorem x_102_26 : Tr sc d 102 (26, [l0, l1, l2], [.ref k0], h) Q = (okp h k0 9 = true ∧ ∃ q, hR h k0 1 = some q ∧ Tr sc d 102 (29, [l0, l1, l2], [.ref q], h) Q) := t_getr k_102_26
theorem k_102_29 : lk 102 29 = some (.iload_n 1, 30, 1, 0, .null) := by decide +kernel
theorem x_102_29 : Tr sc d 102 (29, [l0, some (.int x), l2], [.ref k0], h) Q = Tr sc d 102 (30, [l0, some (.int x), l2], [.int x, .ref k0], h) Q := t_iload_n k_102_29 rfl
theorem k_102_30 : lk 102 30 = some (.aaload, 31, 0, 0, .null) := by decide +kernel
theorem x_102_30 : Tr sc d 102 (30, [l0, l1, l2], [.int i1, .ref k0], h) Q = (((okp h k0 14 || okp h k0 15) && inb i1 (LN k0)) = true ∧ ∃ q, hR h k0 i1.toNatClampNeg = some q ∧ Tr sc d 102 (31, [l0, l1, l2], [.ref q], h) Q) := t_aald k_102_30
theorem k_102_31 : lk 102 31 = some (.iload_n 2, 32, 2, 0, .null) := by decide +kernel
theorem x_102_31 : Tr sc d 102 (31, [l0, l1, some (.int x)], [.ref k0], h) Q = Tr sc d 102 (32, [l0, l1, some (.int x)], [.int x, .ref k0], h) Q := t_iload_n k_102_31 rfl
theorem k_102_32 : lk 102 32 = some (.bipush 32, 34, 0, 0, .int 32) := by decide +kernel
theorem x_102_32 : Tr sc d 102 (32, [l0, l1, l2], [.int i1, .ref k0], h) Q = Tr sc d 102 (34, [l0, l1, l2], [.int 32, .int i1, .ref k0], h) Q := t_go k_102_32 rfl
theorem k_102_34 : lk 102 34 = some (.invokevirtual 122, 37, 41, 2, .null) := by decide +kernel
theorem x_102_34 : Tr sc (d + 1) 102 (34, [l0, l1, l2], [.int i2, .int i1, .ref k0], h) Q = (okp h k0 5 = true ∧ Tr sc d 41 (ent0 41 [.ref k0, .int i1, .int i2] h) (fun z => Tr sc (d + 1) 102 (37, [l0, l1, l2], z.1.toList ++ [], z.2) Q)) := t_cv (as := [.int i1, .int i2]) (r := []) k_102_34 rfl rfl (Nat.le_of_ble_eq_true rfl) (Nat.le_of_ble_eq_true rfl) (Nat.le_of_ble_eq_true rfl)
theorem k_102_37 : lk 102 37 = some (.iload_n 2, 38, 2, 0, .null) := by decide +kernel
theorem x_102_37 : Tr sc d 102 (37, [l0, l1, some (.int x)], [], h) Q = Tr sc d 102 (38, [l0, l1, some (.int x)], [.int x], h) Q := t_iload_n k_102_37 rfl
theorem k_102_38 : lk 102 38 = some (.ireturn, 39, 0, 0, .null) := by decide +kernel
theorem x_102_38 : Tr sc d 102 (38, [l0, l1, l2], [.int i0], h) Q = Q (some (.int i0), h) := t_ret k_102_38 (by rw [r_102]; rfl)
theorem e_102 : Tr sc d 102 (ent0 102 [.ref k0, .int i1, .int i2] h) Q = Tr sc d 102 (0, [some (.ref k0), some (.int i1), some (.int i2)], [], h) Q := by
  have e : mL 102 = 3 := by decide +kernel
  unfold ent0
  rw [e]
  rfl
theorem r_103 : mR 103 = some .int := by decide +kernel
theorem k_103_0 : lk 103 0 = some (.iload_n 1, 1, 1, 0, .null) := by decide +kernel
theorem x_103_0 : Tr sc d 103 (0, [l0, some (.int x), l2, l3, l4], [], h) Q = Tr sc d 103 (1, [l0, some (.int x), l2, l3, l4], [.int x], h) Q := t_iload_n k_103_0 rfl
theorem k_103_1 : lk 103 1 = some (.invokestatic 152, 4, 142, 1, .null) := by decide +kernel
theorem x_103_1 : Tr sc (d + 1) 103 (1, [l0, l1, l2, l3, l4], [.int i0], h) Q = Tr sc d 142 (ent0 142 [.int i0] h) (fun z => Tr sc (d + 1) 103 (4, [l0, l1, l2, l3, l4], z.1.toList ++ [], z.2) Q) := t_cs (as := [.int i0]) (r := []) k_103_1 (by decide) rfl rfl (Nat.le_of_ble_eq_true rfl) (Nat.le_of_ble_eq_true rfl)
theorem k_103_4 : lk 103 4 = some (.ifCond .ne 5, 7, 9, 0, .null) := by decide +kernel
theorem x_103_4 : Tr sc d 103 (4, [l0, l1, l2, l3, l4], [.int i0], h) Q = if i0 = 0 then Tr sc d 103 (7, [l0, l1, l2, l3, l4], [], h) Q else Tr sc d 103 (9, [l0, l1, l2, l3, l4], [], h) Q := t_if k_103_4 rfl
theorem k_103_7 : lk 103 7 = some (.iconst (-1), 8, 0, 0, .int (-1)) := by decide +kernel
theorem x_103_7 : Tr sc d 103 (7, [l0, l1, l2, l3, l4], [], h) Q = Tr sc d 103 (8, [l0, l1, l2, l3, l4], [.int (-1)], h) Q := t_go k_103_7 rfl
theorem k_103_8 : lk 103 8 = some (.ireturn, 9, 0, 0, .null) := by decide +kernel
theorem x_103_8 : Tr sc d 103 (8, [l0, l1, l2, l3, l4], [.int i0], h) Q = Q (some (.int i0), h) := t_ret k_103_8 (by rw [r_103]; rfl)
theorem k_103_9 : lk 103 9 = some (.aload_n 0, 10, 0, 0, .null) := by decide +kernel
theorem x_103_9 : Tr sc d 103 (9, [some (.ref xk), l1, l2, l3, l4], [], h) Q = Tr sc d 103 (10, [some (.ref xk), l1, l2, l3, l4], [.ref xk], h) Q := t_aload_n k_103_9 rfl
theorem k_103_10 : lk 103 10 = some (.getfield 15, 13, 9, 1, .null) := by decide +kernel
theorem x_103_10 : Tr sc d 103 (10, [l0, l1, l2, l3, l4], [.ref k0], h) Q = (okp h k0 9 = true ∧ ∃ q, hR h k0 1 = some q ∧ Tr sc d 103 (13, [l0, l1, l2, l3, l4], [.ref q], h) Q) := t_getr k_103_10
theorem k_103_13 : lk 103 13 = some (.iload_n 1, 14, 1, 0, .null) := by decide +kernel
theorem x_103_13 : Tr sc d 103 (13, [l0, some (.int x), l2, l3, l4], [.ref k0], h) Q = Tr sc d 103 (14, [l0, some (.int x), l2, l3, l4], [.int x, .ref k0], h) Q := t_iload_n k_103_13 rfl
theorem k_103_14 : lk 103 14 = some (.aaload, 15, 0, 0, .null) := by decide +kernel
theorem x_103_14 : Tr sc d 103 (14, [l0, l1, l2, l3, l4], [.int i1, .ref k0], h) Q = (((okp h k0 14 || okp h k0 15) && inb i1 (LN k0)) = true ∧ ∃ q, hR h k0 i1.toNatClampNeg = some q ∧ Tr sc d 103 (15, [l0, l1, l2, l3, l4], [.ref q], h) Q) := t_aald k_103_14
theorem k_103_15 : lk 103 15 = some (.invokevirtual 125, 18, 42, 0, .null) := by decide +kernel
theorem x_103_15 : Tr sc (d + 1) 103 (15, [l0, l1, l2, l3, l4], [.ref k0], h) Q = (okp h k0 5 = true ∧ Tr sc d 42 (ent0 42 [.ref k0] h) (fun z => Tr sc (d + 1) 103 (18, [l0, l1, l2, l3, l4], z.1.toList ++ [], z.2) Q)) := t_cv (as := []) (r := []) k_103_15 rfl rfl (Nat.le_of_ble_eq_true rfl) (Nat.le_of_ble_eq_true rfl) (Nat.le_of_ble_eq_true rfl)
theorem k_103_18 : lk 103 18 = some (.ifCond .eq 9, 21, 27, 0, .null) := by decide +kernel
theorem x_103_18 : Tr sc d 103 (18, [l0, l1, l2, l3, l4], [.int i0], h) Q = if i0 = 0 then Tr sc d 103 (27, [l0, l1, l2, l3, l4], [], h) Q else Tr sc d 103 (21, [l0, l1, l2, l3, l4], [], h) Q := t_if k_103_18 rfl
theorem k_103_21 : lk 103 21 = some (.aload_n 0, 22, 0, 0, .null) := by decide +kernel
theorem x_103_21 : Tr sc d 103 (21, [some (.ref xk), l1, l2, l3, l4], [], h) Q = Tr sc d 103 (22, [some (.ref xk), l1, l2, l3, l4], [.ref xk], h) Q := t_aload_n k_103_21 rfl
theorem k_103_22 : lk 103 22 = some (.iconst 1, 23, 0, 0, .int 1) := by decide +kernel
theorem x_103_22 : Tr sc d 103 (22, [l0, l1, l2, l3, l4], [.ref k0], h) Q = Tr sc d 103 (23, [l0, l1, l2, l3, l4], [.int 1, .ref k0], h) Q := t_go k_103_22 rfl
theorem k_103_23 : lk 103 23 = some (.invokevirtual 118, 26, 145, 1, .null) := by decide +kernel
theorem x_103_23 : Tr sc (d + 1) 103 (23, [l0, l1, l2, l3, l4], [.int i1, .ref k0], h) Q = (okp h k0 9 = true ∧ Tr sc d 145 (ent0 145 [.ref k0, .int i1] h) (fun z => Tr sc (d + 1) 103 (26, [l0, l1, l2, l3, l4], z.1.toList ++ [], z.2) Q)) := t_cv (as := [.int i1]) (r := []) k_103_23 rfl rfl (Nat.le_of_ble_eq_true rfl) (Nat.le_of_ble_eq_true rfl) (Nat.le_of_ble_eq_true rfl)
theorem k_103_26 : lk 103 26 = some (.ireturn, 27, 0, 0, .null) := by decide +kernel
theorem x_103_26 : Tr sc d 103 (26, [l0, l1, l2, l3, l4], [.int i0], h) Q = Q (some (.int i0), h) := t_ret k_103_26 (by rw [r_103]; rfl)
theorem k_103_27 : lk 103 27 = some (.aload_n 0, 28, 0, 0, .null) := by decide +kernel
theorem x_103_27 : Tr sc d 103 (27, [some (.ref xk), l1, l2, l3, l4], [], h) Q = Tr sc d 103 (28, [some (.ref xk), l1, l2, l3, l4], [.ref xk], h) Q := t_aload_n k_103_27 rfl
theorem k_103_28 : lk 103 28 = some (.getfield 15, 31, 9, 1, .null) := by decide +kernel
theorem x_103_28 : Tr sc d 103 (28, [l0, l1, l2, l3, l4], [.ref k0], h) Q = (okp h k0 9 = true ∧ ∃ q, hR h k0 1 = some q ∧ Tr sc d 103 (31, [l0, l1, l2, l3, l4], [.ref q], h) Q) := t_getr k_103_28
theorem k_103_31 : lk 103 31 = some (.iload_n 1, 32, 1, 0, .null) := by decide +kernel
theorem x_103_31 : Tr sc d 103 (31, [l0, some (.int x), l2, l3, l4], [.ref k0], h) Q = Tr sc d 103 (32, [l0, some (.int x), l2, l3, l4], [.int x, .ref k0], h) Q := t_iload_n k_103_31 rfl
theorem k_103_32 : lk 103 32 = some (.aaload, 33, 0, 0, .null) := by decide +kernel
theorem x_103_32 : Tr sc d 103 (32, [l0, l1, l2, l3, l4], [.int i1, .ref k0], h) Q = (((okp h k0 14 || okp h k0 15) && inb i1 (LN k0)) = true ∧ ∃ q, hR h k0 i1.toNatClampNeg = some q ∧ Tr sc d 103 (33, [l0, l1, l2, l3, l4], [.ref q], h) Q) := t_aald k_103_32
theorem k_103_33 : lk 103 33 = some (.iload_n 2, 34, 2, 0, .null) := by decide +kernel
theorem x_103_33 : Tr sc d 103 (33, [l0, l1, some (.int x), l3, l4], [.ref k0], h) Q = Tr sc d 103 (34, [l0, l1, some (.int x), l3, l4], [.int x, .ref k0], h) Q := t_iload_n k_103_33 rfl
theorem k_103_34 : lk 103 34 = some (.invokevirtual 129, 37, 43, 1, .null) := by decide +kernel
theorem x_103_34 : Tr sc (d + 1) 103 (34, [l0, l1, l2, l3, l4], [.int i1, .ref k0], h) Q = (okp h k0 5 = true ∧ Tr sc d 43 (ent0 43 [.ref k0, .int i1] h) (fun z => Tr sc (d + 1) 103 (37, [l0, l1, l2, l3, l4], z.1.toList ++ [], z.2) Q)) := t_cv (as := [.int i1]) (r := []) k_103_34 rfl rfl (Nat.le_of_ble_eq_true rfl) (Nat.le_of_ble_eq_true rfl) (Nat.le_of_ble_eq_true rfl)
theorem k_103_37 : lk 103 37 = some (.ifCond .ne 9, 40, 46, 0, .null) := by decide +kernel
theorem x_103_37 : Tr sc d 103 (37, [l0, l1, l2, l3, l4], [.int i0], h) Q = if i0 = 0 then Tr sc d 103 (40, [l0, l1, l2, l3, l4], [], h) Q else Tr sc d 103 (46, [l0, l1, l2, l3, l4], [], h) Q := t_if k_103_37 rfl
theorem k_103_40 : lk 103 40 = some (.aload_n 0, 41, 0, 0, .null) := by decide +kernel
theorem x_103_40 : Tr sc d 103 (40, [some (.ref xk), l1, l2, l3, l4], [], h) Q = Tr sc d 103 (41, [some (.ref xk), l1, l2, l3, l4], [.ref xk], h) Q := t_aload_n k_103_40 rfl
theorem k_103_41 : lk 103 41 = some (.iconst 2, 42, 0, 0, .int 2) := by decide +kernel
theorem x_103_41 : Tr sc d 103 (41, [l0, l1, l2, l3, l4], [.ref k0], h) Q = Tr sc d 103 (42, [l0, l1, l2, l3, l4], [.int 2, .ref k0], h) Q := t_go k_103_41 rfl
theorem k_103_42 : lk 103 42 = some (.invokevirtual 118, 45, 145, 1, .null) := by decide +kernel
theorem x_103_42 : Tr sc (d + 1) 103 (42, [l0, l1, l2, l3, l4], [.int i1, .ref k0], h) Q = (okp h k0 9 = true ∧ Tr sc d 145 (ent0 145 [.ref k0, .int i1] h) (fun z => Tr sc (d + 1) 103 (45, [l0, l1, l2, l3, l4], z.1.toList ++ [], z.2) Q)) := t_cv (as := [.int i1]) (r := []) k_103_42 rfl rfl (Nat.le_of_ble_eq_true rfl) (Nat.le_of_ble_eq_true rfl) (Nat.le_of_ble_eq_true rfl)
theorem k_103_45 : lk 103 45 = some (.ireturn, 46, 0, 0, .null) := by decide +kernel
theorem x_103_45 : Tr sc d 103 (45, [l0, l1, l2, l3, l4], [.int i0], h) Q = Q (some (.int i0), h) := t_ret k_103_45 (by rw [r_103]; rfl)
theorem k_103_46 : lk 103 46 = some (.aload_n 0, 47, 0, 0, .null) := by decide +kernel
theorem x_103_46 : Tr sc d 103 (46, [some (.ref xk), l1, l2, l3, l4], [], h) Q = Tr sc d 103 (47, [some (.ref xk), l1, l2, l3, l4], [.ref xk], h) Q := t_aload_n k_103_46 rfl
theorem k_103_47 : lk 103 47 = some (.getfield 15, 50, 9, 1, .null) := by decide +kernel
theorem x_103_47 : Tr sc d 103 (47, [l0, l1, l2, l3, l4], [.ref k0], h) Q = (okp h k0 9 = true ∧ ∃ q, hR h k0 1 = some q ∧ Tr sc d 103 (50, [l0, l1, l2, l3, l4], [.ref q], h) Q) := t_getr k_103_47
theorem k_103_50 : lk 103 50 = some (.iload_n 1, 51, 1, 0, .null) := by decide +kernel
theorem x_103_50 : Tr sc d 103 (50, [l0, some (.int x), l2, l3, l4], [.ref k0], h) Q = Tr sc d 103 (51, [l0, some (.int x), l2, l3, l4], [.int x, .ref k0], h) Q := t_iload_n k_103_50 rfl
theorem k_103_51 : lk 103 51 = some (.aaload, 52, 0, 0, .null) := by decide +kernel
theorem x_103_51 : Tr sc d 103 (51, [l0, l1, l2, l3, l4], [.int i1, .ref k0], h) Q = (((okp h k0 14 || okp h k0 15) && inb i1 (LN k0)) = true ∧ ∃ q, hR h k0 i1.toNatClampNeg = some q ∧ Tr sc d 103 (52, [l0, l1, l2, l3, l4], [.ref q], h) Q) := t_aald k_103_51
theorem k_103_52 : lk 103 52 = some (.getfield 132, 55, 5, 0, .null) := by decide +kernel
theorem x_103_52 : Tr sc d 103 (52, [l0, l1, l2, l3, l4], [.ref k0], h) Q = (okp h k0 5 = true ∧ ∃ q, hR h k0 0 = some q ∧ Tr sc d 103 (55, [l0, l1, l2, l3, l4], [.ref q], h) Q) := t_getr k_103_52
theorem k_103_55 : lk 103 55 = some (.iload_n 2, 56, 2, 0, .null) := by decide +kernel
theorem x_103_55 : Tr sc d 103 (55, [l0, l1, some (.int x), l3, l4], [.ref k0], h) Q = Tr sc d 103 (56, [l0, l1, some (.int x), l3, l4], [.int x, .ref k0], h) Q := t_iload_n k_103_55 rfl
theorem k_103_56 : lk 103 56 = some (.iaload, 57, 0, 0, .null) := by decide +kernel
theorem x_103_56 : Tr sc d 103 (56, [l0, l1, l2, l3, l4], [.int i1, .ref k0], h) Q = (iOk sc h k0 i1 ∧ Tr sc d 103 (57, [l0, l1, l2, l3, l4], [.int (iRd sc h k0 i1)], h) Q) := t_iald k_103_56
theorem k_103_57 : lk 103 57 = some (.istore 4, 59, 4, 0, .null) := by decide +kernel
theorem x_103_57 : Tr sc d 103 (57, [l0, l1, l2, l3, l4], [.int i0], h) Q = Tr sc d 103 (59, [l0, l1, l2, cl2 l3, some (.int i0)], [], h) Q := t_istore k_103_57 (Nat.le_of_ble_eq_true rfl)
theorem k_103_59 : lk 103 59 = some (.aload_n 0, 60, 0, 0, .null) := by decide +kernel
theorem x_103_59 : Tr sc d 103 (59, [some (.ref xk), l1, l2, l3, l4], [], h) Q = Tr sc d 103 (60, [some (.ref xk), l1, l2, l3, l4], [.ref xk], h) Q := t_aload_n k_103_59 rfl
theorem k_103_60 : lk 103 60 = some (.getfield 15, 63, 9, 1, .null) := by decide +kernel
theorem x_103_60 : Tr sc d 103 (60, [l0, l1, l2, l3, l4], [.ref k0], h) Q = (okp h k0 9 = true ∧ ∃ q, hR h k0 1 = some q ∧ Tr sc d 103 (63, [l0, l1, l2, l3, l4], [.ref q], h) Q) := t_getr k_103_60
theorem k_103_63 : lk 103 63 = some (.iload_n 1, 64, 1, 0, .null) := by decide +kernel
theorem x_103_63 : Tr sc d 103 (63, [l0, some (.int x), l2, l3, l4], [.ref k0], h) Q = Tr sc d 103 (64, [l0, some (.int x), l2, l3, l4], [.int x, .ref k0], h) Q := t_iload_n k_103_63 rfl
theorem k_103_64 : lk 103 64 = some (.aaload, 65, 0, 0, .null) := by decide +kernel
theorem x_103_64 : Tr sc d 103 (64, [l0, l1, l2, l3, l4], [.int i1, .ref k0], h) Q = (((okp h k0 14 || okp h k0 15) && inb i1 (LN k0)) = true ∧ ∃ q, hR h k0 i1.toNatClampNeg = some q ∧ Tr sc d 103 (65, [l0, l1, l2, l3, l4], [.ref q], h) Q) := t_aald k_103_64
theorem k_103_65 : lk 103 65 = some (.getfield 132, 68, 5, 0, .null) := by decide +kernel
theorem x_103_65 : Tr sc d 103 (65, [l0, l1, l2, l3, l4], [.ref k0], h) Q = (okp h k0 5 = true ∧ ∃ q, hR h k0 0 = some q ∧ Tr sc d 103 (68, [l0, l1, l2, l3, l4], [.ref q], h) Q) := t_getr k_103_65
theorem k_103_68 : lk 103 68 = some (.iload_n 2, 69, 2, 0, .null) := by decide +kernel
theorem x_103_68 : Tr sc d 103 (68, [l0, l1, some (.int x), l3, l4], [.ref k0], h) Q = Tr sc d 103 (69, [l0, l1, some (.int x), l3, l4], [.int x, .ref k0], h) Q := t_iload_n k_103_68 rfl
theorem k_103_69 : lk 103 69 = some (.iload_n 3, 70, 3, 0, .null) := by decide +kernel
theorem x_103_69 : Tr sc d 103 (69, [l0, l1, l2, some (.int x), l4], [.int i1, .ref k0], h) Q = Tr sc d 103 (70, [l0, l1, l2, some (.int x), l4], [.int x, .int i1, .ref k0], h) Q := t_iload_n k_103_69 rfl
theorem k_103_70 : lk 103 70 = some (.i2b, 71, 0, 0, .null) := by decide +kernel
theorem x_103_70 : Tr sc d 103 (70, [l0, l1, l2, l3, l4], [.int i2, .int i1, .ref k0], h) Q = Tr sc d 103 (71, [l0, l1, l2, l3, l4], [.int i2.toInt8.toInt32, .int i1, .ref k0], h) Q := t_go k_103_70 rfl
theorem k_103_71 : lk 103 71 = some (.iastore, 72, 0, 0, .null) := by decide +kernel
theorem x_103_71 : Tr sc d 103 (71, [l0, l1, l2, l3, l4], [.int i2, .int i1, .ref k0], h) Q = ((okp h k0 11 && inb i1 (LN k0)) = true ∧ Tr sc d 103 (72, [l0, l1, l2, l3, l4], [], (sI h k0 i1.toNatClampNeg i2)) Q) := t_gd k_103_71 rfl
theorem k_103_72 : lk 103 72 = some (.iload 4, 74, 4, 0, .null) := by decide +kernel
theorem x_103_72 : Tr sc d 103 (72, [l0, l1, l2, l3, some (.int x)], [], h) Q = Tr sc d 103 (74, [l0, l1, l2, l3, some (.int x)], [.int x], h) Q := t_iload k_103_72 rfl
theorem k_103_74 : lk 103 74 = some (.sipush 1000, 77, 0, 0, .int 1000) := by decide +kernel
theorem x_103_74 : Tr sc d 103 (74, [l0, l1, l2, l3, l4], [.int i0], h) Q = Tr sc d 103 (77, [l0, l1, l2, l3, l4], [.int 1000, .int i0], h) Q := t_go k_103_74 rfl
theorem k_103_77 : lk 103 77 = some (.iadd, 78, 0, 0, .null) := by decide +kernel
theorem x_103_77 : Tr sc d 103 (77, [l0, l1, l2, l3, l4], [.int i1, .int i0], h) Q = Tr sc d 103 (78, [l0, l1, l2, l3, l4], [.int (i0 + i1)], h) Q := t_go k_103_77 rfl
theorem k_103_78 : lk 103 78 = some (.ireturn, 79, 0, 0, .null) := by decide +kernel
theorem x_103_78 : Tr sc d 103 (78, [l0, l1, l2, l3, l4], [.int i0], h) Q = Q (some (.int i0), h) := t_ret k_103_78 (by rw [r_103]; rfl)
theorem e_103 : Tr sc d 103 (ent0 103 [.ref k0, .int i1, .int i2, .int i3] h) Q = Tr sc d 103 (0, [some (.ref k0), some (.int i1), some (.int i2), some (.int i3), none], [], h) Q := by
  have e : mL 103 = 5 := by decide +kernel
  unfold ent0
  rw [e]
  rfl
theorem r_104 : mR 104 = some .int := by decide +kernel
theorem k_104_0 : lk 104 0 = some (.iload_n 1, 1, 1, 0, .null) := by decide +kernel
theorem x_104_0 : Tr sc d 104 (0, [l0, some (.int x)], [], h) Q = Tr sc d 104 (1, [l0, some (.int x)], [.int x], h) Q := t_iload_n k_104_0 rfl
theorem k_104_1 : lk 104 1 = some (.invokestatic 152, 4, 142, 1, .null) := by decide +kernel
theorem x_104_1 : Tr sc (d + 1) 104 (1, [l0, l1], [.int i0], h) Q = Tr sc d 142 (ent0 142 [.int i0] h) (fun z => Tr sc (d + 1) 104 (4, [l0, l1], z.1.toList ++ [], z.2) Q) := t_cs (as := [.int i0]) (r := []) k_104_1 (by decide) rfl rfl (Nat.le_of_ble_eq_true rfl) (Nat.le_of_ble_eq_true rfl)
theorem k_104_4 : lk 104 4 = some (.ifCond .ne 5, 7, 9, 0, .null) := by decide +kernel
theorem x_104_4 : Tr sc d 104 (4, [l0, l1], [.int i0], h) Q = if i0 = 0 then Tr sc d 104 (7, [l0, l1], [], h) Q else Tr sc d 104 (9, [l0, l1], [], h) Q := t_if k_104_4 rfl
theorem k_104_7 : lk 104 7 = some (.iconst (-1), 8, 0, 0, .int (-1)) := by decide +kernel
theorem x_104_7 : Tr sc d 104 (7, [l0, l1], [], h) Q = Tr sc d 104 (8, [l0, l1], [.int (-1)], h) Q := t_go k_104_7 rfl
theorem k_104_8 : lk 104 8 = some (.ireturn, 9, 0, 0, .null) := by decide +kernel
theorem x_104_8 : Tr sc d 104 (8, [l0, l1], [.int i0], h) Q = Q (some (.int i0), h) := t_ret k_104_8 (by rw [r_104]; rfl)
theorem k_104_9 : lk 104 9 = some (.aload_n 0, 10, 0, 0, .null) := by decide +kernel
theorem x_104_9 : Tr sc d 104 (9, [some (.ref xk), l1], [], h) Q = Tr sc d 104 (10, [some (.ref xk), l1], [.ref xk], h) Q := t_aload_n k_104_9 rfl
theorem k_104_10 : lk 104 10 = some (.getfield 15, 13, 9, 1, .null) := by decide +kernel
theorem x_104_10 : Tr sc d 104 (10, [l0, l1], [.ref k0], h) Q = (okp h k0 9 = true ∧ ∃ q, hR h k0 1 = some q ∧ Tr sc d 104 (13, [l0, l1], [.ref q], h) Q) := t_getr k_104_10
theorem k_104_13 : lk 104 13 = some (.iload_n 1, 14, 1, 0, .null) := by decide +kernel
theorem x_104_13 : Tr sc d 104 (13, [l0, some (.int x)], [.ref k0], h) Q = Tr sc d 104 (14, [l0, some (.int x)], [.int x, .ref k0], h) Q := t_iload_n k_104_13 rfl
theorem k_104_14 : lk 104 14 = some (.aaload, 15, 0, 0, .null) := by decide +kernel
theorem x_104_14 : Tr sc d 104 (14, [l0, l1], [.int i1, .ref k0], h) Q = (((okp h k0 14 || okp h k0 15) && inb i1 (LN k0)) = true ∧ ∃ q, hR h k0 i1.toNatClampNeg = some q ∧ Tr sc d 104 (15, [l0, l1], [.ref q], h) Q) := t_aald k_104_14
theorem k_104_15 : lk 104 15 = some (.invokevirtual 125, 18, 42, 0, .null) := by decide +kernel
theorem x_104_15 : Tr sc (d + 1) 104 (15, [l0, l1], [.ref k0], h) Q = (okp h k0 5 = true ∧ Tr sc d 42 (ent0 42 [.ref k0] h) (fun z => Tr sc (d + 1) 104 (18, [l0, l1], z.1.toList ++ [], z.2) Q)) := t_cv (as := []) (r := []) k_104_15 rfl rfl (Nat.le_of_ble_eq_true rfl) (Nat.le_of_ble_eq_true rfl) (Nat.le_of_ble_eq_true rfl)
theorem k_104_18 : lk 104 18 = some (.ifCond .eq 9, 21, 27, 0, .null) := by decide +kernel
theorem x_104_18 : Tr sc d 104 (18, [l0, l1], [.int i0], h) Q = if i0 = 0 then Tr sc d 104 (27, [l0, l1], [], h) Q else Tr sc d 104 (21, [l0, l1], [], h) Q := t_if k_104_18 rfl
theorem k_104_21 : lk 104 21 = some (.aload_n 0, 22, 0, 0, .null) := by decide +kernel
theorem x_104_21 : Tr sc d 104 (21, [some (.ref xk), l1], [], h) Q = Tr sc d 104 (22, [some (.ref xk), l1], [.ref xk], h) Q := t_aload_n k_104_21 rfl
theorem k_104_22 : lk 104 22 = some (.iconst 1, 23, 0, 0, .int 1) := by decide +kernel
theorem x_104_22 : Tr sc d 104 (22, [l0, l1], [.ref k0], h) Q = Tr sc d 104 (23, [l0, l1], [.int 1, .ref k0], h) Q := t_go k_104_22 rfl
theorem k_104_23 : lk 104 23 = some (.invokevirtual 118, 26, 145, 1, .null) := by decide +kernel
theorem x_104_23 : Tr sc (d + 1) 104 (23, [l0, l1], [.int i1, .ref k0], h) Q = (okp h k0 9 = true ∧ Tr sc d 145 (ent0 145 [.ref k0, .int i1] h) (fun z => Tr sc (d + 1) 104 (26, [l0, l1], z.1.toList ++ [], z.2) Q)) := t_cv (as := [.int i1]) (r := []) k_104_23 rfl rfl (Nat.le_of_ble_eq_true rfl) (Nat.le_of_ble_eq_true rfl) (Nat.le_of_ble_eq_true rfl)
theorem k_104_26 : lk 104 26 = some (.ireturn, 27, 0, 0, .null) := by decide +kernel
theorem x_104_26 : Tr sc d 104 (26, [l0, l1], [.int i0], h) Q = Q (some (.int i0), h) := t_ret k_104_26 (by rw [r_104]; rfl)
theorem k_104_27 : lk 104 27 = some (.aload_n 0, 28, 0, 0, .null) := by decide +kernel
theorem x_104_27 : Tr sc d 104 (27, [some (.ref xk), l1], [], h) Q = Tr sc d 104 (28, [some (.ref xk), l1], [.ref xk], h) Q := t_aload_n k_104_27 rfl
theorem k_104_28 : lk 104 28 = some (.getfield 32, 31, 9, 4, .null) := by decide +kernel
theorem x_104_28 : Tr sc d 104 (28, [l0, l1], [.ref k0], h) Q = (okp h k0 9 = true ∧ ∃ q, hR h k0 4 = some q ∧ Tr sc d 104 (31, [l0, l1], [.ref q], h) Q) := t_getr k_104_28
theorem k_104_31 : lk 104 31 = some (.aload_n 0, 32, 0, 0, .null) := by decide +kernel
theorem x_104_31 : Tr sc d 104 (31, [some (.ref xk), l1], [.ref k0], h) Q = Tr sc d 104 (32, [some (.ref xk), l1], [.ref xk, .ref k0], h) Q := t_aload_n k_104_31 rfl
theorem k_104_32 : lk 104 32 = some (.getfield 15, 35, 9, 1, .null) := by decide +kernel
theorem x_104_32 : Tr sc d 104 (32, [l0, l1], [.ref k1, .ref k0], h) Q = (okp h k1 9 = true ∧ ∃ q, hR h k1 1 = some q ∧ Tr sc d 104 (35, [l0, l1], [.ref q, .ref k0], h) Q) := t_getr k_104_32
theorem k_104_35 : lk 104 35 = some (.iload_n 1, 36, 1, 0, .null) := by decide +kernel
theorem x_104_35 : Tr sc d 104 (35, [l0, some (.int x)], [.ref k1, .ref k0], h) Q = Tr sc d 104 (36, [l0, some (.int x)], [.int x, .ref k1, .ref k0], h) Q := t_iload_n k_104_35 rfl
theorem k_104_36 : lk 104 36 = some (.aaload, 37, 0, 0, .null) := by decide +kernel
theorem x_104_36 : Tr sc d 104 (36, [l0, l1], [.int i2, .ref k1, .ref k0], h) Q = (((okp h k1 14 || okp h k1 15) && inb i2 (LN k1)) = true ∧ ∃ q, hR h k1 i2.toNatClampNeg = some q ∧ Tr sc d 104 (37, [l0, l1], [.ref q, .ref k0], h) Q) := t_aald k_104_36
theorem k_104_37 : lk 104 37 = some (.aload_n 0, 38, 0, 0, .null) := by decide +kernel
theorem x_104_37 : Tr sc d 104 (37, [some (.ref xk), l1], [.ref k1, .ref k0], h) Q = Tr sc d 104 (38, [some (.ref xk), l1], [.ref xk, .ref k1, .ref k0], h) Q := t_aload_n k_104_37 rfl
theorem k_104_38 : lk 104 38 = some (.getfield 25, 41, 9, 3, .null) := by decide +kernel
theorem x_104_38 : Tr sc d 104 (38, [l0, l1], [.ref k2, .ref k1, .ref k0], h) Q = (okp h k2 9 = true ∧ ∃ q, hR h k2 3 = some q ∧ Tr sc d 104 (41, [l0, l1], [.ref q, .ref k1, .ref k0], h) Q) := t_getr k_104_38
theorem k_104_41 : lk 104 41 = some (.invokevirtual 155, 44, 36, 2, .null) := by decide +kernel
theorem x_104_41 : Tr sc (d + 1) 104 (41, [l0, l1], [.ref k2, .ref k1, .ref k0], h) Q = (okp h k0 4 = true ∧ Tr sc d 36 (ent0 36 [.ref k0, .ref k1, .ref k2] h) (fun z => Tr sc (d + 1) 104 (44, [l0, l1], z.1.toList ++ [], z.2) Q)) := t_cv (as := [.ref k1, .ref k2]) (r := []) k_104_41 rfl rfl (Nat.le_of_ble_eq_true rfl) (Nat.le_of_ble_eq_true rfl) (Nat.le_of_ble_eq_true rfl)
theorem k_104_44 : lk 104 44 = some (.ireturn, 45, 0, 0, .null) := by decide +kernel
theorem x_104_44 : Tr sc d 104 (44, [l0, l1], [.int i0], h) Q = Q (some (.int i0), h) := t_ret k_104_44 (by rw [r_104]; rfl)
theorem e_104 : Tr sc d 104 (ent0 104 [.ref k0, .int i1] h) Q = Tr sc d 104 (0, [some (.ref k0), some (.int i1)], [], h) Q := by
  have e : mL 104 = 2 := by decide +kernel
  unfold ent0
  rw [e]
  rfl
theorem r_105 : mR 105 = some .int := by decide +kernel
theorem k_105_0 : lk 105 0 = some (.iload_n 1, 1, 1, 0, .null) := by decide +kernel
theorem x_105_0 : Tr sc d 105 (0, [l0, some (.int x), l2], [], h) Q = Tr sc d 105 (1, [l0, some (.int x), l2], [.int x], h) Q := t_iload_n k_105_0 rfl
theorem k_105_1 : lk 105 1 = some (.invokestatic 159, 4, 143, 1, .null) := by decide +kernel
theorem x_105_1 : Tr sc (d + 1) 105 (1, [l0, l1, l2], [.int i0], h) Q = Tr sc d 143 (ent0 143 [.int i0] h) (fun z => Tr sc (d + 1) 105 (4, [l0, l1, l2], z.1.toList ++ [], z.2) Q) := t_cs (as := [.int i0]) (r := []) k_105_1 (by decide) rfl rfl (Nat.le_of_ble_eq_true rfl) (Nat.le_of_ble_eq_true rfl)
theorem k_105_4 : lk 105 4 = some (.ifCond .eq 10, 7, 14, 0, .null) := by decide +kernel
theorem x_105_4 : Tr sc d 105 (4, [l0, l1, l2], [.int i0], h) Q = if i0 = 0 then Tr sc d 105 (14, [l0, l1, l2], [], h) Q else Tr sc d 105 (7, [l0, l1, l2], [], h) Q := t_if k_105_4 rfl
theorem k_105_7 : lk 105 7 = some (.iload_n 2, 8, 2, 0, .null) := by decide +kernel
theorem x_105_7 : Tr sc d 105 (7, [l0, l1, some (.int x)], [], h) Q = Tr sc d 105 (8, [l0, l1, some (.int x)], [.int x], h) Q := t_iload_n k_105_7 rfl
theorem k_105_8 : lk 105 8 = some (.invokestatic 152, 11, 142, 1, .null) := by decide +kernel
theorem x_105_8 : Tr sc (d + 1) 105 (8, [l0, l1, l2], [.int i0], h) Q = Tr sc d 142 (ent0 142 [.int i0] h) (fun z => Tr sc (d + 1) 105 (11, [l0, l1, l2], z.1.toList ++ [], z.2) Q) := t_cs (as := [.int i0]) (r := []) k_105_8 (by decide) rfl rfl (Nat.le_of_ble_eq_true rfl) (Nat.le_of_ble_eq_true rfl)
theorem k_105_11 : lk 105 11 = some (.ifCond .ne 5, 14, 16, 0, .null) := by decide +kernel
theorem x_105_11 : Tr sc d 105 (11, [l0, l1, l2], [.int i0], h) Q = if i0 = 0 then Tr sc d 105 (14, [l0, l1, l2], [], h) Q else Tr sc d 105 (16, [l0, l1, l2], [], h) Q := t_if k_105_11 rfl
theorem k_105_14 : lk 105 14 = some (.iconst (-1), 15, 0, 0, .int (-1)) := by decide +kernel
theorem x_105_14 : Tr sc d 105 (14, [l0, l1, l2], [], h) Q = Tr sc d 105 (15, [l0, l1, l2], [.int (-1)], h) Q := t_go k_105_14 rfl
theorem k_105_15 : lk 105 15 = some (.ireturn, 16, 0, 0, .null) := by decide +kernel
theorem x_105_15 : Tr sc d 105 (15, [l0, l1, l2], [.int i0], h) Q = Q (some (.int i0), h) := t_ret k_105_15 (by rw [r_105]; rfl)
theorem k_105_16 : lk 105 16 = some (.aload_n 0, 17, 0, 0, .null) := by decide +kernel
theorem x_105_16 : Tr sc d 105 (16, [some (.ref xk), l1, l2], [], h) Q = Tr sc d 105 (17, [some (.ref xk), l1, l2], [.ref xk], h) Q := t_aload_n k_105_16 rfl
theorem k_105_17 : lk 105 17 = some (.getfield 15, 20, 9, 1, .null) := by decide +kernel
theorem x_105_17 : Tr sc d 105 (17, [l0, l1, l2], [.ref k0], h) Q = (okp h k0 9 = true ∧ ∃ q, hR h k0 1 = some q ∧ Tr sc d 105 (20, [l0, l1, l2], [.ref q], h) Q) := t_getr k_105_17
theorem k_105_20 : lk 105 20 = some (.iload_n 2, 21, 2, 0, .null) := by decide +kernel
theorem x_105_20 : Tr sc d 105 (20, [l0, l1, some (.int x)], [.ref k0], h) Q = Tr sc d 105 (21, [l0, l1, some (.int x)], [.int x, .ref k0], h) Q := t_iload_n k_105_20 rfl
theorem k_105_21 : lk 105 21 = some (.aaload, 22, 0, 0, .null) := by decide +kernel
theorem x_105_21 : Tr sc d 105 (21, [l0, l1, l2], [.int i1, .ref k0], h) Q = (((okp h k0 14 || okp h k0 15) && inb i1 (LN k0)) = true ∧ ∃ q, hR h k0 i1.toNatClampNeg = some q ∧ Tr sc d 105 (22, [l0, l1, l2], [.ref q], h) Q) := t_aald k_105_21
theorem k_105_22 : lk 105 22 = some (.invokevirtual 125, 25, 42, 0, .null) := by decide +kernel
theorem x_105_22 : Tr sc (d + 1) 105 (22, [l0, l1, l2], [.ref k0], h) Q = (okp h k0 5 = true ∧ Tr sc d 42 (ent0 42 [.ref k0] h) (fun z => Tr sc (d + 1) 105 (25, [l0, l1, l2], z.1.toList ++ [], z.2) Q)) := t_cv (as := []) (r := []) k_105_22 rfl rfl (Nat.le_of_ble_eq_true rfl) (Nat.le_of_ble_eq_true rfl) (Nat.le_of_ble_eq_true rfl)
theorem k_105_25 : lk 105 25 = some (.ifCond .eq 9, 28, 34, 0, .null) := by decide +kernel
theorem x_105_25 : Tr sc d 105 (25, [l0, l1, l2], [.int i0], h) Q = if i0 = 0 then Tr sc d 105 (34, [l0, l1, l2], [], h) Q else Tr sc d 105 (28, [l0, l1, l2], [], h) Q := t_if k_105_25 rfl
theorem k_105_28 : lk 105 28 = some (.aload_n 0, 29, 0, 0, .null) := by decide +kernel
theorem x_105_28 : Tr sc d 105 (28, [some (.ref xk), l1, l2], [], h) Q = Tr sc d 105 (29, [some (.ref xk), l1, l2], [.ref xk], h) Q := t_aload_n k_105_28 rfl
theorem k_105_29 : lk 105 29 = some (.iconst 1, 30, 0, 0, .int 1) := by decide +kernel
theorem x_105_29 : Tr sc d 105 (29, [l0, l1, l2], [.ref k0], h) Q = Tr sc d 105 (30, [l0, l1, l2], [.int 1, .ref k0], h) Q := t_go k_105_29 rfl
theorem k_105_30 : lk 105 30 = some (.invokevirtual 118, 33, 145, 1, .null) := by decide +kernel
theorem x_105_30 : Tr sc (d + 1) 105 (30, [l0, l1, l2], [.int i1, .ref k0], h) Q = (okp h k0 9 = true ∧ Tr sc d 145 (ent0 145 [.ref k0, .int i1] h) (fun z => Tr sc (d + 1) 105 (33, [l0, l1, l2], z.1.toList ++ [], z.2) Q)) := t_cv (as := [.int i1]) (r := []) k_105_30 rfl rfl (Nat.le_of_ble_eq_true rfl) (Nat.le_of_ble_eq_true rfl) (Nat.le_of_ble_eq_true rfl)
theorem k_105_33 : lk 105 33 = some (.ireturn, 34, 0, 0, .null) := by decide +kernel
theorem x_105_33 : Tr sc d 105 (33, [l0, l1, l2], [.int i0], h) Q = Q (some (.int i0), h) := t_ret k_105_33 (by rw [r_105]; rfl)
theorem k_105_34 : lk 105 34 = some (.aload_n 0, 35, 0, 0, .null) := by decide +kernel
theorem x_105_34 : Tr sc d 105 (34, [some (.ref xk), l1, l2], [], h) Q = Tr sc d 105 (35, [some (.ref xk), l1, l2], [.ref xk], h) Q := t_aload_n k_105_34 rfl
theorem k_105_35 : lk 105 35 = some (.getfield 32, 38, 9, 4, .null) := by decide +kernel
theorem x_105_35 : Tr sc d 105 (35, [l0, l1, l2], [.ref k0], h) Q = (okp h k0 9 = true ∧ ∃ q, hR h k0 4 = some q ∧ Tr sc d 105 (38, [l0, l1, l2], [.ref q], h) Q) := t_getr k_105_35
theorem k_105_38 : lk 105 38 = some (.aload_n 0, 39, 0, 0, .null) := by decide +kernel
theorem x_105_38 : Tr sc d 105 (38, [some (.ref xk), l1, l2], [.ref k0], h) Q = Tr sc d 105 (39, [some (.ref xk), l1, l2], [.ref xk, .ref k0], h) Q := t_aload_n k_105_38 rfl
theorem k_105_39 : lk 105 39 = some (.getfield 15, 42, 9, 1, .null) := by decide +kernel
theorem x_105_39 : Tr sc d 105 (39, [l0, l1, l2], [.ref k1, .ref k0], h) Q = (okp h k1 9 = true ∧ ∃ q, hR h k1 1 = some q ∧ Tr sc d 105 (42, [l0, l1, l2], [.ref q, .ref k0], h) Q) := t_getr k_105_39
theorem k_105_42 : lk 105 42 = some (.iload_n 2, 43, 2, 0, .null) := by decide +kernel
theorem x_105_42 : Tr sc d 105 (42, [l0, l1, some (.int x)], [.ref k1, .ref k0], h) Q = Tr sc d 105 (43, [l0, l1, some (.int x)], [.int x, .ref k1, .ref k0], h) Q := t_iload_n k_105_42 rfl
theorem k_105_43 : lk 105 43 = some (.aaload, 44, 0, 0, .null) := by decide +kernel
theorem x_105_43 : Tr sc d 105 (43, [l0, l1, l2], [.int i2, .ref k1, .ref k0], h) Q = (((okp h k1 14 || okp h k1 15) && inb i2 (LN k1)) = true ∧ ∃ q, hR h k1 i2.toNatClampNeg = some q ∧ Tr sc d 105 (44, [l0, l1, l2], [.ref q, .ref k0], h) Q) := t_aald k_105_43
theorem k_105_44 : lk 105 44 = some (.aload_n 0, 45, 0, 0, .null) := by decide +kernel
theorem x_105_44 : Tr sc d 105 (44, [some (.ref xk), l1, l2], [.ref k1, .ref k0], h) Q = Tr sc d 105 (45, [some (.ref xk), l1, l2], [.ref xk, .ref k1, .ref k0], h) Q := t_aload_n k_105_44 rfl
theorem k_105_45 : lk 105 45 = some (.getfield 25, 48, 9, 3, .null) := by decide +kernel
theorem x_105_45 : Tr sc d 105 (45, [l0, l1, l2], [.ref k2, .ref k1, .ref k0], h) Q = (okp h k2 9 = true ∧ ∃ q, hR h k2 3 = some q ∧ Tr sc d 105 (48, [l0, l1, l2], [.ref q, .ref k1, .ref k0], h) Q) := t_getr k_105_45
theorem k_105_48 : lk 105 48 = some (.invokevirtual 155, 51, 36, 2, .null) := by decide +kernel
theorem x_105_48 : Tr sc (d + 1) 105 (48, [l0, l1, l2], [.ref k2, .ref k1, .ref k0], h) Q = (okp h k0 4 = true ∧ Tr sc d 36 (ent0 36 [.ref k0, .ref k1, .ref k2] h) (fun z => Tr sc (d + 1) 105 (51, [l0, l1, l2], z.1.toList ++ [], z.2) Q)) := t_cv (as := [.ref k1, .ref k2]) (r := []) k_105_48 rfl rfl (Nat.le_of_ble_eq_true rfl) (Nat.le_of_ble_eq_true rfl) (Nat.le_of_ble_eq_true rfl)
theorem k_105_51 : lk 105 51 = some (.bipush (-9), 53, 0, 0, .int (-9)) := by decide +kernel
theorem x_105_51 : Tr sc d 105 (51, [l0, l1, l2], [.int i0], h) Q = Tr sc d 105 (53, [l0, l1, l2], [.int (-9), .int i0], h) Q := t_go k_105_51 rfl
theorem k_105_53 : lk 105 53 = some (.if_icmp .eq 6, 56, 59, 0, .null) := by decide +kernel
theorem x_105_53 : Tr sc d 105 (53, [l0, l1, l2], [.int i1, .int i0], h) Q = if i0 = i1 then Tr sc d 105 (59, [l0, l1, l2], [], h) Q else Tr sc d 105 (56, [l0, l1, l2], [], h) Q := t_if k_105_53 rfl
theorem k_105_56 : lk 105 56 = some (.bipush (-4), 58, 0, 0, .int (-4)) := by decide +kernel
theorem x_105_56 : Tr sc d 105 (56, [l0, l1, l2], [], h) Q = Tr sc d 105 (58, [l0, l1, l2], [.int (-4)], h) Q := t_go k_105_56 rfl
theorem k_105_58 : lk 105 58 = some (.ireturn, 59, 0, 0, .null) := by decide +kernel
theorem x_105_58 : Tr sc d 105 (58, [l0, l1, l2], [.int i0], h) Q = Q (some (.int i0), h) := t_ret k_105_58 (by rw [r_105]; rfl)
theorem k_105_59 : lk 105 59 = some (.aload_n 0, 60, 0, 0, .null) := by decide +kernel
theorem x_105_59 : Tr sc d 105 (59, [some (.ref xk), l1, l2], [], h) Q = Tr sc d 105 (60, [some (.ref xk), l1, l2], [.ref xk], h) Q := t_aload_n k_105_59 rfl
theorem k_105_60 : lk 105 60 = some (.iload_n 1, 61, 1, 0, .null) := by decide +kernel
theorem x_105_60 : Tr sc d 105 (60, [l0, some (.int x), l2], [.ref k0], h) Q = Tr sc d 105 (61, [l0, some (.int x), l2], [.int x, .ref k0], h) Q := t_iload_n k_105_60 rfl
theorem k_105_61 : lk 105 61 = some (.invokevirtual 162, 64, 150, 1, .null) := by decide +kernel
theorem x_105_61 : Tr sc (d + 1) 105 (61, [l0, l1, l2], [.int i1, .ref k0], h) Q = (okp h k0 9 = true ∧ Tr sc d 150 (ent0 150 [.ref k0, .int i1] h) (fun z => Tr sc (d + 1) 105 (64, [l0, l1, l2], z.1.toList ++ [], z.2) Q)) := t_cv (as := [.int i1]) (r := []) k_105_61 rfl rfl (Nat.le_of_ble_eq_true rfl) (Nat.le_of_ble_eq_true rfl) (Nat.le_of_ble_eq_true rfl)
theorem k_105_64 : lk 105 64 = some (.ireturn, 65, 0, 0, .null) := by decide +kernel
theorem x_105_64 : Tr sc d 105 (64, [l0, l1, l2], [.int i0], h) Q = Q (some (.int i0), h) := t_ret k_105_64 (by rw [r_105]; rfl)
theorem e_105 : Tr sc d 105 (ent0 105 [.ref k0, .int i1, .int i2] h) Q = Tr sc d 105 (0, [some (.ref k0), some (.int i1), some (.int i2)], [], h) Q := by
  have e : mL 105 = 3 := by decide +kernel
  unfold ent0
  rw [e]
  rfl
theorem r_106 : mR 106 = some .int := by decide +kernel
theorem k_106_0 : lk 106 0 = some (.aload_n 0, 1, 0, 0, .null) := by decide +kernel
theorem x_106_0 : Tr sc d 106 (0, [some (.ref xk), l1, l2, l3, l4, l5, l6], [], h) Q = Tr sc d 106 (1, [some (.ref xk), l1, l2, l3, l4, l5, l6], [.ref xk], h) Q := t_aload_n k_106_0 rfl
theorem k_106_1 : lk 106 1 = some (.iload_n 1, 2, 1, 0, .null) := by decide +kernel
theorem x_106_1 : Tr sc d 106 (1, [l0, some (.int x), l2, l3, l4, l5, l6], [.ref k0], h) Q = Tr sc d 106 (2, [l0, some (.int x), l2, l3, l4, l5, l6], [.int x, .ref k0], h) Q := t_iload_n k_106_1 rfl
theorem k_106_2 : lk 106 2 = some (.iload_n 2, 3, 2, 0, .null) := by decide +kernel
theorem x_106_2 : Tr sc d 106 (2, [l0, l1, some (.int x), l3, l4, l5, l6], [.int i1, .ref k0], h) Q = Tr sc d 106 (3, [l0, l1, some (.int x), l3, l4, l5, l6], [.int x, .int i1, .ref k0], h) Q := t_iload_n k_106_2 rfl
theorem k_106_3 : lk 106 3 = some (.iload_n 3, 4, 3, 0, .null) := by decide +kernel
theorem x_106_3 : Tr sc d 106 (3, [l0, l1, l2, some (.int x), l4, l5, l6], [.int i2, .int i1, .ref k0], h) Q = Tr sc d 106 (4, [l0, l1, l2, some (.int x), l4, l5, l6], [.int x, .int i2, .int i1, .ref k0], h) Q := t_iload_n k_106_3 rfl
theorem k_106_4 : lk 106 4 = some (.invokevirtual 165, 7, 149, 3, .null) := by decide +kernel
theorem x_106_4 : Tr sc (d + 1) 106 (4, [l0, l1, l2, l3, l4, l5, l6], [.int i3, .int i2, .int i1, .ref k0], h) Q = (okp h k0 9 = true ∧ Tr sc d 149 (ent0 149 [.ref k0, .int i1, .int i2, .int i3] h) (fun z => Tr sc (d + 1) 106 (7, [l0, l1, l2, l3, l4, l5, l6], z.1.toList ++ [], z.2) Q)) := t_cv (as := [.int i1, .int i2, .int i3]) (r := []) k_106_4 rfl rfl (Nat.le_of_ble_eq_true rfl) (Nat.le_of_ble_eq_true rfl) (Nat.le_of_ble_eq_true rfl)
theorem k_106_7 : lk 106 7 = some (.istore 4, 9, 4, 0, .null) := by decide +kernel
theorem x_106_7 : Tr sc d 106 (7, [l0, l1, l2, l3, l4, l5, l6], [.int i0], h) Q = Tr sc d 106 (9, [l0, l1, l2, cl2 l3, some (.int i0), l5, l6], [], h) Q := t_istore k_106_7 (Nat.le_of_ble_eq_true rfl)
theorem k_106_9 : lk 106 9 = some (.iload 4, 11, 4, 0, .null) := by decide +kernel
theorem x_106_9 : Tr sc d 106 (9, [l0, l1, l2, l3, some (.int x), l5, l6], [], h) Q = Tr sc d 106 (11, [l0, l1, l2, l3, some (.int x), l5, l6], [.int x], h) Q := t_iload k_106_9 rfl
theorem k_106_11 : lk 106 11 = some (.ifCond .eq 6, 14, 17, 0, .null) := by decide +kernel
theorem x_106_11 : Tr sc d 106 (11, [l0, l1, l2, l3, l4, l5, l6], [.int i0], h) Q = if i0 = 0 then Tr sc d 106 (17, [l0, l1, l2, l3, l4, l5, l6], [], h) Q else Tr sc d 106 (14, [l0, l1, l2, l3, l4, l5, l6], [], h) Q := t_if k_106_11 rfl
theorem k_106_14 : lk 106 14 = some (.iload 4, 16, 4, 0, .null) := by decide +kernel
theorem x_106_14 : Tr sc d 106 (14, [l0, l1, l2, l3, some (.int x), l5, l6], [], h) Q = Tr sc d 106 (16, [l0, l1, l2, l3, some (.int x), l5, l6], [.int x], h) Q := t_iload k_106_14 rfl
theorem k_106_16 : lk 106 16 = some (.ireturn, 17, 0, 0, .null) := by decide +kernel
theorem x_106_16 : Tr sc d 106 (16, [l0, l1, l2, l3, l4, l5, l6], [.int i0], h) Q = Q (some (.int i0), h) := t_ret k_106_16 (by rw [r_106]; rfl)
theorem k_106_17 : lk 106 17 = some (.aload_n 0, 18, 0, 0, .null) := by decide +kernel
theorem x_106_17 : Tr sc d 106 (17, [some (.ref xk), l1, l2, l3, l4, l5, l6], [], h) Q = Tr sc d 106 (18, [some (.ref xk), l1, l2, l3, l4, l5, l6], [.ref xk], h) Q := t_aload_n k_106_17 rfl
theorem k_106_18 : lk 106 18 = some (.getfield 11, 21, 9, 0, .null) := by decide +kernel
theorem x_106_18 : Tr sc d 106 (18, [l0, l1, l2, l3, l4, l5, l6], [.ref k0], h) Q = (okp h k0 9 = true ∧ ∃ q, hR h k0 0 = some q ∧ Tr sc d 106 (21, [l0, l1, l2, l3, l4, l5, l6], [.ref q], h) Q) := t_getr k_106_18
theorem k_106_21 : lk 106 21 = some (.iload_n 3, 22, 3, 0, .null) := by decide +kernel
theorem x_106_21 : Tr sc d 106 (21, [l0, l1, l2, some (.int x), l4, l5, l6], [.ref k0], h) Q = Tr sc d 106 (22, [l0, l1, l2, some (.int x), l4, l5, l6], [.int x, .ref k0], h) Q := t_iload_n k_106_21 rfl
theorem k_106_22 : lk 106 22 = some (.aaload, 23, 0, 0, .null) := by decide +kernel
theorem x_106_22 : Tr sc d 106 (22, [l0, l1, l2, l3, l4, l5, l6], [.int i1, .ref k0], h) Q = (((okp h k0 14 || okp h k0 15) && inb i1 (LN k0)) = true ∧ ∃ q, hR h k0 i1.toNatClampNeg = some q ∧ Tr sc d 106 (23, [l0, l1, l2, l3, l4, l5, l6], [.ref q], h) Q) := t_aald k_106_22
theorem k_106_23 : lk 106 23 = some (.astore 5, 25, 5, 0, .null) := by decide +kernel
theorem x_106_23 : Tr sc d 106 (23, [l0, l1, l2, l3, l4, l5, l6], [.ref k0], h) Q = Tr sc d 106 (25, [l0, l1, l2, l3, cl2 l4, some (.ref k0), l6], [], h) Q := t_astore k_106_23 (Nat.le_of_ble_eq_true rfl)
theorem k_106_25 : lk 106 25 = some (.iconst 0, 26, 0, 0, .int 0) := by decide +kernel
theorem x_106_25 : Tr sc d 106 (25, [l0, l1, l2, l3, l4, l5, l6], [], h) Q = Tr sc d 106 (26, [l0, l1, l2, l3, l4, l5, l6], [.int 0], h) Q := t_go k_106_25 rfl
theorem k_106_26 : lk 106 26 = some (.istore 6, 28, 6, 0, .null) := by decide +kernel
theorem x_106_26 : Tr sc d 106 (26, [l0, l1, l2, l3, l4, l5, l6], [.int i0], h) Q = Tr sc d 106 (28, [l0, l1, l2, l3, l4, cl2 l5, some (.int i0)], [], h) Q := t_istore k_106_26 (Nat.le_of_ble_eq_true rfl)
theorem k_106_28 : lk 106 28 = some (.iload 6, 30, 6, 0, .null) := by decide +kernel
theorem x_106_28 : Tr sc d 106 (28, [l0, l1, l2, l3, l4, l5, some (.int x)], [], h) Q = Tr sc d 106 (30, [l0, l1, l2, l3, l4, l5, some (.int x)], [.int x], h) Q := t_iload k_106_28 rfl
theorem k_106_30 : lk 106 30 = some (.aload 5, 32, 5, 0, .null) := by decide +kernel
theorem x_106_30 : Tr sc d 106 (30, [l0, l1, l2, l3, l4, some (.ref xk), l6], [.int i0], h) Q = Tr sc d 106 (32, [l0, l1, l2, l3, l4, some (.ref xk), l6], [.ref xk, .int i0], h) Q := t_aload k_106_30 rfl
theorem k_106_32 : lk 106 32 = some (.getfield 135, 35, 5, 1, .int 0) := by decide +kernel
theorem x_106_32 : Tr sc d 106 (32, [l0, l1, l2, l3, l4, l5, l6], [.ref k1, .int i0], h) Q = (okp h k1 5 = true ∧ Tr sc d 106 (35, [l0, l1, l2, l3, l4, l5, l6], [.int (hI h k1 1), .int i0], h) Q) := t_gd k_106_32 rfl
theorem k_106_35 : lk 106 35 = some (.if_icmp .ge 40, 38, 75, 0, .null) := by decide +kernel
theorem x_106_35 : Tr sc d 106 (35, [l0, l1, l2, l3, l4, l5, l6], [.int i1, .int i0], h) Q = if i1 ≤ i0 then Tr sc d 106 (75, [l0, l1, l2, l3, l4, l5, l6], [], h) Q else Tr sc d 106 (38, [l0, l1, l2, l3, l4, l5, l6], [], h) Q := t_if k_106_35 rfl
theorem k_106_38 : lk 106 38 = some (.aload 5, 40, 5, 0, .null) := by decide +kernel
theorem x_106_38 : Tr sc d 106 (38, [l0, l1, l2, l3, l4, some (.ref xk), l6], [], h) Q = Tr sc d 106 (40, [l0, l1, l2, l3, l4, some (.ref xk), l6], [.ref xk], h) Q := t_aload k_106_38 rfl
theorem k_106_40 : lk 106 40 = some (.getfield 132, 43, 5, 0, .null) := by decide +kernel
theorem x_106_40 : Tr sc d 106 (40, [l0, l1, l2, l3, l4, l5, l6], [.ref k0], h) Q = (okp h k0 5 = true ∧ ∃ q, hR h k0 0 = some q ∧ Tr sc d 106 (43, [l0, l1, l2, l3, l4, l5, l6], [.ref q], h) Q) := t_getr k_106_40
theorem k_106_43 : lk 106 43 = some (.iload 6, 45, 6, 0, .null) := by decide +kernel
theorem x_106_43 : Tr sc d 106 (43, [l0, l1, l2, l3, l4, l5, some (.int x)], [.ref k0], h) Q = Tr sc d 106 (45, [l0, l1, l2, l3, l4, l5, some (.int x)], [.int x, .ref k0], h) Q := t_iload k_106_43 rfl
theorem k_106_45 : lk 106 45 = some (.iaload, 46, 0, 0, .null) := by decide +kernel
theorem x_106_45 : Tr sc d 106 (45, [l0, l1, l2, l3, l4, l5, l6], [.int i1, .ref k0], h) Q = (iOk sc h k0 i1 ∧ Tr sc d 106 (46, [l0, l1, l2, l3, l4, l5, l6], [.int (iRd sc h k0 i1)], h) Q) := t_iald k_106_45
theorem k_106_46 : lk 106 46 = some (.iconst 1, 47, 0, 0, .int 1) := by decide +kernel
theorem x_106_46 : Tr sc d 106 (46, [l0, l1, l2, l3, l4, l5, l6], [.int i0], h) Q = Tr sc d 106 (47, [l0, l1, l2, l3, l4, l5, l6], [.int 1, .int i0], h) Q := t_go k_106_46 rfl
theorem k_106_47 : lk 106 47 = some (.if_icmp .lt 16, 50, 63, 0, .null) := by decide +kernel
theorem x_106_47 : Tr sc d 106 (47, [l0, l1, l2, l3, l4, l5, l6], [.int i1, .int i0], h) Q = if i0 < i1 then Tr sc d 106 (63, [l0, l1, l2, l3, l4, l5, l6], [], h) Q else Tr sc d 106 (50, [l0, l1, l2, l3, l4, l5, l6], [], h) Q := t_if k_106_47 rfl
theorem k_106_50 : lk 106 50 = some (.aload 5, 52, 5, 0, .null) := by decide +kernel
theorem x_106_50 : Tr sc d 106 (50, [l0, l1, l2, l3, l4, some (.ref xk), l6], [], h) Q = Tr sc d 106 (52, [l0, l1, l2, l3, l4, some (.ref xk), l6], [.ref xk], h) Q := t_aload k_106_50 rfl
theorem k_106_52 : lk 106 52 = some (.getfield 132, 55, 5, 0, .null) := by decide +kernel
theorem x_106_52 : Tr sc d 106 (52, [l0, l1, l2, l3, l4, l5, l6], [.ref k0], h) Q = (okp h k0 5 = true ∧ ∃ q, hR h k0 0 = some q ∧ Tr sc d 106 (55, [l0, l1, l2, l3, l4, l5, l6], [.ref q], h) Q) := t_getr k_106_52
theorem k_106_55 : lk 106 55 = some (.iload 6, 57, 6, 0, .null) := by decide +kernel
theorem x_106_55 : Tr sc d 106 (55, [l0, l1, l2, l3, l4, l5, some (.int x)], [.ref k0], h) Q = Tr sc d 106 (57, [l0, l1, l2, l3, l4, l5, some (.int x)], [.int x, .ref k0], h) Q := t_iload k_106_55 rfl
theorem k_106_57 : lk 106 57 = some (.iaload, 58, 0, 0, .null) := by decide +kernel
theorem x_106_57 : Tr sc d 106 (57, [l0, l1, l2, l3, l4, l5, l6], [.int i1, .ref k0], h) Q = (iOk sc h k0 i1 ∧ Tr sc d 106 (58, [l0, l1, l2, l3, l4, l5, l6], [.int (iRd sc h k0 i1)], h) Q) := t_iald k_106_57
theorem k_106_58 : lk 106 58 = some (.bipush 99, 60, 0, 0, .int 99) := by decide +kernel
theorem x_106_58 : Tr sc d 106 (58, [l0, l1, l2, l3, l4, l5, l6], [.int i0], h) Q = Tr sc d 106 (60, [l0, l1, l2, l3, l4, l5, l6], [.int 99, .int i0], h) Q := t_go k_106_58 rfl
theorem k_106_60 : lk 106 60 = some (.if_icmp .le 9, 63, 69, 0, .null) := by decide +kernel
theorem x_106_60 : Tr sc d 106 (60, [l0, l1, l2, l3, l4, l5, l6], [.int i1, .int i0], h) Q = if i0 ≤ i1 then Tr sc d 106 (69, [l0, l1, l2, l3, l4, l5, l6], [], h) Q else Tr sc d 106 (63, [l0, l1, l2, l3, l4, l5, l6], [], h) Q := t_if k_106_60 rfl
theorem k_106_63 : lk 106 63 = some (.aload_n 0, 64, 0, 0, .null) := by decide +kernel
theorem x_106_63 : Tr sc d 106 (63, [some (.ref xk), l1, l2, l3, l4, l5, l6], [], h) Q = Tr sc d 106 (64, [some (.ref xk), l1, l2, l3, l4, l5, l6], [.ref xk], h) Q := t_aload_n k_106_63 rfl
theorem k_106_64 : lk 106 64 = some (.iconst 3, 65, 0, 0, .int 3) := by decide +kernel
theorem x_106_64 : Tr sc d 106 (64, [l0, l1, l2, l3, l4, l5, l6], [.ref k0], h) Q = Tr sc d 106 (65, [l0, l1, l2, l3, l4, l5, l6], [.int 3, .ref k0], h) Q := t_go k_106_64 rfl
theorem k_106_65 : lk 106 65 = some (.invokevirtual 118, 68, 145, 1, .null) := by decide +kernel
theorem x_106_65 : Tr sc (d + 1) 106 (65, [l0, l1, l2, l3, l4, l5, l6], [.int i1, .ref k0], h) Q = (okp h k0 9 = true ∧ Tr sc d 145 (ent0 145 [.ref k0, .int i1] h) (fun z => Tr sc (d + 1) 106 (68, [l0, l1, l2, l3, l4, l5, l6], z.1.toList ++ [], z.2) Q)) := t_cv (as := [.int i1]) (r := []) k_106_65 rfl rfl (Nat.le_of_ble_eq_true rfl) (Nat.le_of_ble_eq_true rfl) (Nat.le_of_ble_eq_true rfl)
theorem k_106_68 : lk 106 68 = some (.ireturn, 69, 0, 0, .null) := by decide +kernel
theorem x_106_68 : Tr sc d 106 (68, [l0, l1, l2, l3, l4, l5, l6], [.int i0], h) Q = Q (some (.int i0), h) := t_ret k_106_68 (by rw [r_106]; rfl)
theorem k_106_69 : lk 106 69 = some (.iinc 6 1, 72, 6, 0, .int 1) := by decide +kernel
theorem x_106_69 : Tr sc d 106 (69, [l0, l1, l2, l3, l4, l5, some (.int x)], [], h) Q = Tr sc d 106 (72, [l0, l1, l2, l3, l4, cl2 l5, some (.int (x + 1))], [], h) Q := t_inc k_106_69 rfl (Nat.le_of_ble_eq_true rfl)
theorem k_106_72 : lk 106 72 = some (.goto (-44), 75, 28, 0, .null) := by decide +kernel
theorem x_106_72 : Tr sc d 106 (72, [l0, l1, l2, l3, l4, l5, l6], [], h) Q = Tr sc d 106 (28, [l0, l1, l2, l3, l4, l5, l6], [], h) Q := t_go k_106_72 rfl
theorem k_106_75 : lk 106 75 = some (.aload_n 0, 76, 0, 0, .null) := by decide +kernel
theorem x_106_75 : Tr sc d 106 (75, [some (.ref xk), l1, l2, l3, l4, l5, l6], [], h) Q = Tr sc d 106 (76, [some (.ref xk), l1, l2, l3, l4, l5, l6], [.ref xk], h) Q := t_aload_n k_106_75 rfl
theorem k_106_76 : lk 106 76 = some (.getfield 20, 79, 9, 2, .null) := by decide +kernel
theorem x_106_76 : Tr sc d 106 (76, [l0, l1, l2, l3, l4, l5, l6], [.ref k0], h) Q = (okp h k0 9 = true ∧ ∃ q, hR h k0 2 = some q ∧ Tr sc d 106 (79, [l0, l1, l2, l3, l4, l5, l6], [.ref q], h) Q) := t_getr k_106_76
theorem k_106_79 : lk 106 79 = some (.iload_n 1, 80, 1, 0, .null) := by decide +kernel
theorem x_106_79 : Tr sc d 106 (79, [l0, some (.int x), l2, l3, l4, l5, l6], [.ref k0], h) Q = Tr sc d 106 (80, [l0, some (.int x), l2, l3, l4, l5, l6], [.int x, .ref k0], h) Q := t_iload_n k_106_79 rfl
theorem k_106_80 : lk 106 80 = some (.aaload, 81, 0, 0, .null) := by decide +kernel
theorem x_106_80 : Tr sc d 106 (80, [l0, l1, l2, l3, l4, l5, l6], [.int i1, .ref k0], h) Q = (((okp h k0 14 || okp h k0 15) && inb i1 (LN k0)) = true ∧ ∃ q, hR h k0 i1.toNatClampNeg = some q ∧ Tr sc d 106 (81, [l0, l1, l2, l3, l4, l5, l6], [.ref q], h) Q) := t_aald k_106_80
theorem k_106_81 : lk 106 81 = some (.aload_n 0, 82, 0, 0, .null) := by decide +kernel
theorem x_106_81 : Tr sc d 106 (81, [some (.ref xk), l1, l2, l3, l4, l5, l6], [.ref k0], h) Q = Tr sc d 106 (82, [some (.ref xk), l1, l2, l3, l4, l5, l6], [.ref xk, .ref k0], h) Q := t_aload_n k_106_81 rfl
theorem k_106_82 : lk 106 82 = some (.getfield 20, 85, 9, 2, .null) := by decide +kernel
theorem x_106_82 : Tr sc d 106 (82, [l0, l1, l2, l3, l4, l5, l6], [.ref k1, .ref k0], h) Q = (okp h k1 9 = true ∧ ∃ q, hR h k1 2 = some q ∧ Tr sc d 106 (85, [l0, l1, l2, l3, l4, l5, l6], [.ref q, .ref k0], h) Q) := t_getr k_106_82
theorem k_106_85 : lk 106 85 = some (.iload_n 2, 86, 2, 0, .null) := by decide +kernel
theorem x_106_85 : Tr sc d 106 (85, [l0, l1, some (.int x), l3, l4, l5, l6], [.ref k1, .ref k0], h) Q = Tr sc d 106 (86, [l0, l1, some (.int x), l3, l4, l5, l6], [.int x, .ref k1, .ref k0], h) Q := t_iload_n k_106_85 rfl
theorem k_106_86 : lk 106 86 = some (.aaload, 87, 0, 0, .null) := by decide +kernel
theorem x_106_86 : Tr sc d 106 (86, [l0, l1, l2, l3, l4, l5, l6], [.int i2, .ref k1, .ref k0], h) Q = (((okp h k1 14 || okp h k1 15) && inb i2 (LN k1)) = true ∧ ∃ q, hR h k1 i2.toNatClampNeg = some q ∧ Tr sc d 106 (87, [l0, l1, l2, l3, l4, l5, l6], [.ref q, .ref k0], h) Q) := t_aald k_106_86
theorem k_106_87 : lk 106 87 = some (.invokevirtual 169, 90, 53, 1, .null) := by decide +kernel
theorem x_106_87 : Tr sc (d + 1) 106 (87, [l0, l1, l2, l3, l4, l5, l6], [.ref k1, .ref k0], h) Q = (okp h k0 6 = true ∧ Tr sc d 53 (ent0 53 [.ref k0, .ref k1] h) (fun z => Tr sc (d + 1) 106 (90, [l0, l1, l2, l3, l4, l5, l6], z.1.toList ++ [], z.2) Q)) := t_cv (as := [.ref k1]) (r := []) k_106_87 rfl rfl (Nat.le_of_ble_eq_true rfl) (Nat.le_of_ble_eq_true rfl) (Nat.le_of_ble_eq_true rfl)
theorem k_106_90 : lk 106 90 = some (.aload_n 0, 91, 0, 0, .null) := by decide +kernel
theorem x_106_90 : Tr sc d 106 (90, [some (.ref xk), l1, l2, l3, l4, l5, l6], [], h) Q = Tr sc d 106 (91, [some (.ref xk), l1, l2, l3, l4, l5, l6], [.ref xk], h) Q := t_aload_n k_106_90 rfl
theorem k_106_91 : lk 106 91 = some (.getfield 20, 94, 9, 2, .null) := by decide +kernel
theorem x_106_91 : Tr sc d 106 (91, [l0, l1, l2, l3, l4, l5, l6], [.ref k0], h) Q = (okp h k0 9 = true ∧ ∃ q, hR h k0 2 = some q ∧ Tr sc d 106 (94, [l0, l1, l2, l3, l4, l5, l6], [.ref q], h) Q) := t_getr k_106_91
theorem k_106_94 : lk 106 94 = some (.iload_n 1, 95, 1, 0, .null) := by decide +kernel
theorem x_106_94 : Tr sc d 106 (94, [l0, some (.int x), l2, l3, l4, l5, l6], [.ref k0], h) Q = Tr sc d 106 (95, [l0, some (.int x), l2, l3, l4, l5, l6], [.int x, .ref k0], h) Q := t_iload_n k_106_94 rfl
theorem k_106_95 : lk 106 95 = some (.aaload, 96, 0, 0, .null) := by decide +kernel
theorem x_106_95 : Tr sc d 106 (95, [l0, l1, l2, l3, l4, l5, l6], [.int i1, .ref k0], h) Q = (((okp h k0 14 || okp h k0 15) && inb i1 (LN k0)) = true ∧ ∃ q, hR h k0 i1.toNatClampNeg = some q ∧ Tr sc d 106 (96, [l0, l1, l2, l3, l4, l5, l6], [.ref q], h) Q) := t_aald k_106_95
theorem k_106_96 : lk 106 96 = some (.iconst 3, 97, 0, 0, .int 3) := by decide +kernel
theorem x_106_96 : Tr sc d 106 (96, [l0, l1, l2, l3, l4, l5, l6], [.ref k0], h) Q = Tr sc d 106 (97, [l0, l1, l2, l3, l4, l5, l6], [.int 3, .ref k0], h) Q := t_go k_106_96 rfl
theorem k_106_97 : lk 106 97 = some (.aload 5, 99, 5, 0, .null) := by decide +kernel
theorem x_106_97 : Tr sc d 106 (97, [l0, l1, l2, l3, l4, some (.ref xk), l6], [.int i1, .ref k0], h) Q = Tr sc d 106 (99, [l0, l1, l2, l3, l4, some (.ref xk), l6], [.ref xk, .int i1, .ref k0], h) Q := t_aload k_106_97 rfl
theorem k_106_99 : lk 106 99 = some (.invokevirtual 173, 102, 54, 2, .null) := by decide +kernel
theorem x_106_99 : Tr sc (d + 1) 106 (99, [l0, l1, l2, l3, l4, l5, l6], [.ref k2, .int i1, .ref k0], h) Q = (okp h k0 6 = true ∧ Tr sc d 54 (ent0 54 [.ref k0, .int i1, .ref k2] h) (fun z => Tr sc (d + 1) 106 (102, [l0, l1, l2, l3, l4, l5, l6], z.1.toList ++ [], z.2) Q)) := t_cv (as := [.int i1, .ref k2]) (r := []) k_106_99 rfl rfl (Nat.le_of_ble_eq_true rfl) (Nat.le_of_ble_eq_true rfl) (Nat.le_of_ble_eq_true rfl)
theorem k_106_102 : lk 106 102 = some (.aload_n 0, 103, 0, 0, .null) := by decide +kernel
theorem x_106_102 : Tr sc d 106 (102, [some (.ref xk), l1, l2, l3, l4, l5, l6], [], h) Q = Tr sc d 106 (103, [some (.ref xk), l1, l2, l3, l4, l5, l6], [.ref xk], h) Q := t_aload_n k_106_102 rfl
theorem k_106_103 : lk 106 103 = some (.getfield 20, 106, 9, 2, .null) := by decide +kernel
theorem x_106_103 : Tr sc d 106 (103, [l0, l1, l2, l3, l4, l5, l6], [.ref k0], h) Q = (okp h k0 9 = true ∧ ∃ q, hR h k0 2 = some q ∧ Tr sc d 106 (106, [l0, l1, l2, l3, l4, l5, l6], [.ref q], h) Q) := t_getr k_106_103
theorem k_106_106 : lk 106 106 = some (.iload_n 1, 107, 1, 0, .null) := by decide +kernel
theorem x_106_106 : Tr sc d 106 (106, [l0, some (.int x), l2, l3, l4, l5, l6], [.ref k0], h) Q = Tr sc d 106 (107, [l0, some (.int x), l2, l3, l4, l5, l6], [.int x, .ref k0], h) Q := t_iload_n k_106_106 rfl
theorem k_106_107 : lk 106 107 = some (.aaload, 108, 0, 0, .null) := by decide +kernel
theorem x_106_107 : Tr sc d 106 (107, [l0, l1, l2, l3, l4, l5, l6], [.int i1, .ref k0], h) Q = (((okp h k0 14 || okp h k0 15) && inb i1 (LN k0)) = true ∧ ∃ q, hR h k0 i1.toNatClampNeg = some q ∧ Tr sc d 106 (108, [l0, l1, l2, l3, l4, l5, l6], [.ref q], h) Q) := t_aald k_106_107
theorem k_106_108 : lk 106 108 = some (.invokevirtual 177, 111, 57, 0, .null) := by decide +kernel
theorem x_106_108 : Tr sc (d + 1) 106 (108, [l0, l1, l2, l3, l4, l5, l6], [.ref k0], h) Q = (okp h k0 6 = true ∧ Tr sc d 57 (ent0 57 [.ref k0] h) (fun z => Tr sc (d + 1) 106 (111, [l0, l1, l2, l3, l4, l5, l6], z.1.toList ++ [], z.2) Q)) := t_cv (as := []) (r := []) k_106_108 rfl rfl (Nat.le_of_ble_eq_true rfl) (Nat.le_of_ble_eq_true rfl) (Nat.le_of_ble_eq_true rfl)
theorem k_106_111 : lk 106 111 = some (.ireturn, 112, 0, 0, .null) := by decide +kernel
theorem x_106_111 : Tr sc d 106 (111, [l0, l1, l2, l3, l4, l5, l6], [.int i0], h) Q = Q (some (.int i0), h) := t_ret k_106_111 (by rw [r_106]; rfl)
theorem e_106 : Tr sc d 106 (ent0 106 [.ref k0, .int i1, .int i2, .int i3] h) Q = Tr sc d 106 (0, [some (.ref k0), some (.int i1), some (.int i2), some (.int i3), none, none, none], [], h) Q := by
  have e : mL 106 = 7 := by decide +kernel
  unfold ent0
  rw [e]
  rfl
theorem r_107 : mR 107 = some .int := by decide +kernel
theorem k_107_0 : lk 107 0 = some (.aload_n 0, 1, 0, 0, .null) := by decide +kernel
theorem x_107_0 : Tr sc d 107 (0, [some (.ref xk), l1, l2, l3, l4, l5, l6], [], h) Q = Tr sc d 107 (1, [some (.ref xk), l1, l2, l3, l4, l5, l6], [.ref xk], h) Q := t_aload_n k_107_0 rfl
theorem k_107_1 : lk 107 1 = some (.iload_n 1, 2, 1, 0, .null) := by decide +kernel
theorem x_107_1 : Tr sc d 107 (1, [l0, some (.int x), l2, l3, l4, l5, l6], [.ref k0], h) Q = Tr sc d 107 (2, [l0, some (.int x), l2, l3, l4, l5, l6], [.int x, .ref k0], h) Q := t_iload_n k_107_1 rfl
theorem k_107_2 : lk 107 2 = some (.iload_n 2, 3, 2, 0, .null) := by decide +kernel
theorem x_107_2 : Tr sc d 107 (2, [l0, l1, some (.int x), l3, l4, l5, l6], [.int i1, .ref k0], h) Q = Tr sc d 107 (3, [l0, l1, some (.int x), l3, l4, l5, l6], [.int x, .int i1, .ref k0], h) Q := t_iload_n k_107_2 rfl
theorem k_107_3 : lk 107 3 = some (.iload_n 3, 4, 3, 0, .null) := by decide +kernel
theorem x_107_3 : Tr sc d 107 (3, [l0, l1, l2, some (.int x), l4, l5, l6], [.int i2, .int i1, .ref k0], h) Q = Tr sc d 107 (4, [l0, l1, l2, some (.int x), l4, l5, l6], [.int x, .int i2, .int i1, .ref k0], h) Q := t_iload_n k_107_3 rfl
theorem k_107_4 : lk 107 4 = some (.invokevirtual 165, 7, 149, 3, .null) := by decide +kernel
theorem x_107_4 : Tr sc (d + 1) 107 (4, [l0, l1, l2, l3, l4, l5, l6], [.int i3, .int i2, .int i1, .ref k0], h) Q = (okp h k0 9 = true ∧ Tr sc d 149 (ent0 149 [.ref k0, .int i1, .int i2, .int i3] h) (fun z => Tr sc (d + 1) 107 (7, [l0, l1, l2, l3, l4, l5, l6], z.1.toList ++ [], z.2) Q)) := t_cv (as := [.int i1, .int i2, .int i3]) (r := []) k_107_4 rfl rfl (Nat.le_of_ble_eq_true rfl) (Nat.le_of_ble_eq_true rfl) (Nat.le_of_ble_eq_true rfl)
theorem k_107_7 : lk 107 7 = some (.istore 4, 9, 4, 0, .null) := by decide +kernel
theorem x_107_7 : Tr sc d 107 (7, [l0, l1, l2, l3, l4, l5, l6], [.int i0], h) Q = Tr sc d 107 (9, [l0, l1, l2, cl2 l3, some (.int i0), l5, l6], [], h) Q := t_istore k_107_7 (Nat.le_of_ble_eq_true rfl)
theorem k_107_9 : lk 107 9 = some (.iload 4, 11, 4, 0, .null) := by decide +kernel
theorem x_107_9 : Tr sc d 107 (9, [l0, l1, l2, l3, some (.int x), l5, l6], [], h) Q = Tr sc d 107 (11, [l0, l1, l2, l3, some (.int x), l5, l6], [.int x], h) Q := t_iload k_107_9 rfl
theorem k_107_11 : lk 107 11 = some (.ifCond .eq 6, 14, 17, 0, .null) := by decide +kernel
theorem x_107_11 : Tr sc d 107 (11, [l0, l1, l2, l3, l4, l5, l6], [.int i0], h) Q = if i0 = 0 then Tr sc d 107 (17, [l0, l1, l2, l3, l4, l5, l6], [], h) Q else Tr sc d 107 (14, [l0, l1, l2, l3, l4, l5, l6], [], h) Q := t_if k_107_11 rfl
theorem k_107_14 : lk 107 14 = some (.iload 4, 16, 4, 0, .null) := by decide +kernel
theorem x_107_14 : Tr sc d 107 (14, [l0, l1, l2, l3, some (.int x), l5, l6], [], h) Q = Tr sc d 107 (16, [l0, l1, l2, l3, some (.int x), l5, l6], [.int x], h) Q := t_iload k_107_14 rfl
theorem k_107_16 : lk 107 16 = some (.ireturn, 17, 0, 0, .null) := by decide +kernel
theorem x_107_16 : Tr sc d 107 (16, [l0, l1, l2, l3, l4, l5, l6], [.int i0], h) Q = Q (some (.int i0), h) := t_ret k_107_16 (by rw [r_107]; rfl)
theorem k_107_17 : lk 107 17 = some (.aload_n 0, 18, 0, 0, .null) := by decide +kernel
theorem x_107_17 : Tr sc d 107 (17, [some (.ref xk), l1, l2, l3, l4, l5, l6], [], h) Q = Tr sc d 107 (18, [some (.ref xk), l1, l2, l3, l4, l5, l6], [.ref xk], h) Q := t_aload_n k_107_17 rfl
theorem k_107_18 : lk 107 18 = some (.getfield 11, 21, 9, 0, .null) := by decide +kernel
theorem x_107_18 : Tr sc d 107 (18, [l0, l1, l2, l3, l4, l5, l6], [.ref k0], h) Q = (okp h k0 9 = true ∧ ∃ q, hR h k0 0 = some q ∧ Tr sc d 107 (21, [l0, l1, l2, l3, l4, l5, l6], [.ref q], h) Q) := t_getr k_107_18
theorem k_107_21 : lk 107 21 = some (.iload_n 3, 22, 3, 0, .null) := by decide +kernel
theorem x_107_21 : Tr sc d 107 (21, [l0, l1, l2, some (.int x), l4, l5, l6], [.ref k0], h) Q = Tr sc d 107 (22, [l0, l1, l2, some (.int x), l4, l5, l6], [.int x, .ref k0], h) Q := t_iload_n k_107_21 rfl
theorem k_107_22 : lk 107 22 = some (.aaload, 23, 0, 0, .null) := by decide +kernel
theorem x_107_22 : Tr sc d 107 (22, [l0, l1, l2, l3, l4, l5, l6], [.int i1, .ref k0], h) Q = (((okp h k0 14 || okp h k0 15) && inb i1 (LN k0)) = true ∧ ∃ q, hR h k0 i1.toNatClampNeg = some q ∧ Tr sc d 107 (23, [l0, l1, l2, l3, l4, l5, l6], [.ref q], h) Q) := t_aald k_107_22
theorem k_107_23 : lk 107 23 = some (.astore 5, 25, 5, 0, .null) := by decide +kernel
theorem x_107_23 : Tr sc d 107 (23, [l0, l1, l2, l3, l4, l5, l6], [.ref k0], h) Q = Tr sc d 107 (25, [l0, l1, l2, l3, cl2 l4, some (.ref k0), l6], [], h) Q := t_astore k_107_23 (Nat.le_of_ble_eq_true rfl)
theorem k_107_25 : lk 107 25 = some (.iconst 0, 26, 0, 0, .int 0) := by decide +kernel
theorem x_107_25 : Tr sc d 107 (25, [l0, l1, l2, l3, l4, l5, l6], [], h) Q = Tr sc d 107 (26, [l0, l1, l2, l3, l4, l5, l6], [.int 0], h) Q := t_go k_107_25 rfl
theorem k_107_26 : lk 107 26 = some (.istore 6, 28, 6, 0, .null) := by decide +kernel
theorem x_107_26 : Tr sc d 107 (26, [l0, l1, l2, l3, l4, l5, l6], [.int i0], h) Q = Tr sc d 107 (28, [l0, l1, l2, l3, l4, cl2 l5, some (.int i0)], [], h) Q := t_istore k_107_26 (Nat.le_of_ble_eq_true rfl)
theorem k_107_28 : lk 107 28 = some (.iload 6, 30, 6, 0, .null) := by decide +kernel
theorem x_107_28 : Tr sc d 107 (28, [l0, l1, l2, l3, l4, l5, some (.int x)], [], h) Q = Tr sc d 107 (30, [l0, l1, l2, l3, l4, l5, some (.int x)], [.int x], h) Q := t_iload k_107_28 rfl
theorem k_107_30 : lk 107 30 = some (.aload 5, 32, 5, 0, .null) := by decide +kernel
theorem x_107_30 : Tr sc d 107 (30, [l0, l1, l2, l3, l4, some (.ref xk), l6], [.int i0], h) Q = Tr sc d 107 (32, [l0, l1, l2, l3, l4, some (.ref xk), l6], [.ref xk, .int i0], h) Q := t_aload k_107_30 rfl
theorem k_107_32 : lk 107 32 = some (.getfield 135, 35, 5, 1, .int 0) := by decide +kernel
theorem x_107_32 : Tr sc d 107 (32, [l0, l1, l2, l3, l4, l5, l6], [.ref k1, .int i0], h) Q = (okp h k1 5 = true ∧ Tr sc d 107 (35, [l0, l1, l2, l3, l4, l5, l6], [.int (hI h k1 1), .int i0], h) Q) := t_gd k_107_32 rfl
theorem k_107_35 : lk 107 35 = some (.if_icmp .ge 48, 38, 83, 0, .null) := by decide +kernel
theorem x_107_35 : Tr sc d 107 (35, [l0, l1, l2, l3, l4, l5, l6], [.int i1, .int i0], h) Q = if i1 ≤ i0 then Tr sc d 107 (83, [l0, l1, l2, l3, l4, l5, l6], [], h) Q else Tr sc d 107 (38, [l0, l1, l2, l3, l4, l5, l6], [], h) Q := t_if k_107_35 rfl
theorem k_107_38 : lk 107 38 = some (.aload 5, 40, 5, 0, .null) := by decide +kernel
theorem x_107_38 : Tr sc d 107 (38, [l0, l1, l2, l3, l4, some (.ref xk), l6], [], h) Q = Tr sc d 107 (40, [l0, l1, l2, l3, l4, some (.ref xk), l6], [.ref xk], h) Q := t_aload k_107_38 rfl
theorem k_107_40 : lk 107 40 = some (.getfield 132, 43, 5, 0, .null) := by decide +kernel
theorem x_107_40 : Tr sc d 107 (40, [l0, l1, l2, l3, l4, l5, l6], [.ref k0], h) Q = (okp h k0 5 = true ∧ ∃ q, hR h k0 0 = some q ∧ Tr sc d 107 (43, [l0, l1, l2, l3, l4, l5, l6], [.ref q], h) Q) := t_getr k_107_40
theorem k_107_43 : lk 107 43 = some (.iload 6, 45, 6, 0, .null) := by decide +kernel
theorem x_107_43 : Tr sc d 107 (43, [l0, l1, l2, l3, l4, l5, some (.int x)], [.ref k0], h) Q = Tr sc d 107 (45, [l0, l1, l2, l3, l4, l5, some (.int x)], [.int x, .ref k0], h) Q := t_iload k_107_43 rfl
theorem k_107_45 : lk 107 45 = some (.iaload, 46, 0, 0, .null) := by decide +kernel
theorem x_107_45 : Tr sc d 107 (45, [l0, l1, l2, l3, l4, l5, l6], [.int i1, .ref k0], h) Q = (iOk sc h k0 i1 ∧ Tr sc d 107 (46, [l0, l1, l2, l3, l4, l5, l6], [.int (iRd sc h k0 i1)], h) Q) := t_iald k_107_45
theorem k_107_46 : lk 107 46 = some (.ifCond .lt 25, 49, 71, 0, .null) := by decide +kernel
theorem x_107_46 : Tr sc d 107 (46, [l0, l1, l2, l3, l4, l5, l6], [.int i0], h) Q = if i0 < 0 then Tr sc d 107 (71, [l0, l1, l2, l3, l4, l5, l6], [], h) Q else Tr sc d 107 (49, [l0, l1, l2, l3, l4, l5, l6], [], h) Q := t_if k_107_46 rfl
theorem k_107_49 : lk 107 49 = some (.aload 5, 51, 5, 0, .null) := by decide +kernel
theorem x_107_49 : Tr sc d 107 (49, [l0, l1, l2, l3, l4, some (.ref xk), l6], [], h) Q = Tr sc d 107 (51, [l0, l1, l2, l3, l4, some (.ref xk), l6], [.ref xk], h) Q := t_aload k_107_49 rfl
theorem k_107_51 : lk 107 51 = some (.getfield 132, 54, 5, 0, .null) := by decide +kernel
theorem x_107_51 : Tr sc d 107 (51, [l0, l1, l2, l3, l4, l5, l6], [.ref k0], h) Q = (okp h k0 5 = true ∧ ∃ q, hR h k0 0 = some q ∧ Tr sc d 107 (54, [l0, l1, l2, l3, l4, l5, l6], [.ref q], h) Q) := t_getr k_107_51
theorem k_107_54 : lk 107 54 = some (.iload 6, 56, 6, 0, .null) := by decide +kernel
theorem x_107_54 : Tr sc d 107 (54, [l0, l1, l2, l3, l4, l5, some (.int x)], [.ref k0], h) Q = Tr sc d 107 (56, [l0, l1, l2, l3, l4, l5, some (.int x)], [.int x, .ref k0], h) Q := t_iload k_107_54 rfl
theorem k_107_56 : lk 107 56 = some (.iaload, 57, 0, 0, .null) := by decide +kernel
theorem x_107_56 : Tr sc d 107 (56, [l0, l1, l2, l3, l4, l5, l6], [.int i1, .ref k0], h) Q = (iOk sc h k0 i1 ∧ Tr sc d 107 (57, [l0, l1, l2, l3, l4, l5, l6], [.int (iRd sc h k0 i1)], h) Q) := t_iald k_107_56
theorem k_107_57 : lk 107 57 = some (.iconst 1, 58, 0, 0, .int 1) := by decide +kernel
theorem x_107_57 : Tr sc d 107 (57, [l0, l1, l2, l3, l4, l5, l6], [.int i0], h) Q = Tr sc d 107 (58, [l0, l1, l2, l3, l4, l5, l6], [.int 1, .int i0], h) Q := t_go k_107_57 rfl
theorem k_107_58 : lk 107 58 = some (.aload_n 0, 59, 0, 0, .null) := by decide +kernel
theorem x_107_58 : Tr sc d 107 (58, [some (.ref xk), l1, l2, l3, l4, l5, l6], [.int i1, .int i0], h) Q = Tr sc d 107 (59, [some (.ref xk), l1, l2, l3, l4, l5, l6], [.ref xk, .int i1, .int i0], h) Q := t_aload_n k_107_58 rfl
theorem k_107_59 : lk 107 59 = some (.getfield 20, 62, 9, 2, .null) := by decide +kernel
theorem x_107_59 : Tr sc d 107 (59, [l0, l1, l2, l3, l4, l5, l6], [.ref k2, .int i1, .int i0], h) Q = (okp h k2 9 = true ∧ ∃ q, hR h k2 2 = some q ∧ Tr sc d 107 (62, [l0, l1, l2, l3, l4, l5, l6], [.ref q, .int i1, .int i0], h) Q) := t_getr k_107_59
theorem k_107_62 : lk 107 62 = some (.iload_n 2, 63, 2, 0, .null) := by decide +kernel
theorem x_107_62 : Tr sc d 107 (62, [l0, l1, some (.int x), l3, l4, l5, l6], [.ref k2, .int i1, .int i0], h) Q = Tr sc d 107 (63, [l0, l1, some (.int x), l3, l4, l5, l6], [.int x, .ref k2, .int i1, .int i0], h) Q := t_iload_n k_107_62 rfl
theorem k_107_63 : lk 107 63 = some (.aaload, 64, 0, 0, .null) := by decide +kernel
theorem x_107_63 : Tr sc d 107 (63, [l0, l1, l2, l3, l4, l5, l6], [.int i3, .ref k2, .int i1, .int i0], h) Q = (((okp h k2 14 || okp h k2 15) && inb i3 (LN k2)) = true ∧ ∃ q, hR h k2 i3.toNatClampNeg = some q ∧ Tr sc d 107 (64, [l0, l1, l2, l3, l4, l5, l6], [.ref q, .int i1, .int i0], h) Q) := t_aald k_107_63
theorem k_107_64 : lk 107 64 = some (.getfield 181, 67, 6, 8, .int 0) := by decide +kernel
theorem x_107_64 : Tr sc d 107 (64, [l0, l1, l2, l3, l4, l5, l6], [.ref k2, .int i1, .int i0], h) Q = (okp h k2 6 = true ∧ Tr sc d 107 (67, [l0, l1, l2, l3, l4, l5, l6], [.int (hI h k2 8), .int i1, .int i0], h) Q) := t_gd k_107_64 rfl
theorem k_107_67 : lk 107 67 = some (.ishl, 68, 0, 0, .null) := by decide +kernel
theorem x_107_67 : Tr sc d 107 (67, [l0, l1, l2, l3, l4, l5, l6], [.int i2, .int i1, .int i0], h) Q = Tr sc d 107 (68, [l0, l1, l2, l3, l4, l5, l6], [.int (i1 <<< (i2 &&& 31)), .int i0], h) Q := t_go k_107_67 rfl
theorem k_107_68 : lk 107 68 = some (.if_icmp .lt 9, 71, 77, 0, .null) := by decide +kernel
theorem x_107_68 : Tr sc d 107 (68, [l0, l1, l2, l3, l4, l5, l6], [.int i1, .int i0], h) Q = if i0 < i1 then Tr sc d 107 (77, [l0, l1, l2, l3, l4, l5, l6], [], h) Q else Tr sc d 107 (71, [l0, l1, l2, l3, l4, l5, l6], [], h) Q := t_if k_107_68 rfl
theorem k_107_71 : lk 107 71 = some (.aload_n 0, 72, 0, 0, .null) := by decide +kernel
theorem x_107_71 : Tr sc d 107 (71, [some (.ref xk), l1, l2, l3, l4, l5, l6], [], h) Q = Tr sc d 107 (72, [some (.ref xk), l1, l2, l3, l4, l5, l6], [.ref xk], h) Q := t_aload_n k_107_71 rfl
theorem k_107_72 : lk 107 72 = some (.iconst 3, 73, 0, 0, .int 3) := by decide +kernel
theorem x_107_72 : Tr sc d 107 (72, [l0, l1, l2, l3, l4, l5, l6], [.ref k0], h) Q = Tr sc d 107 (73, [l0, l1, l2, l3, l4, l5, l6], [.int 3, .ref k0], h) Q := t_go k_107_72 rfl
theorem k_107_73 : lk 107 73 = some (.invokevirtual 118, 76, 145, 1, .null) := by decide +kernel
theorem x_107_73 : Tr sc (d + 1) 107 (73, [l0, l1, l2, l3, l4, l5, l6], [.int i1, .ref k0], h) Q = (okp h k0 9 = true ∧ Tr sc d 145 (ent0 145 [.ref k0, .int i1] h) (fun z => Tr sc (d + 1) 107 (76, [l0, l1, l2, l3, l4, l5, l6], z.1.toList ++ [], z.2) Q)) := t_cv (as := [.int i1]) (r := []) k_107_73 rfl rfl (Nat.le_of_ble_eq_true rfl) (Nat.le_of_ble_eq_true rfl) (Nat.le_of_ble_eq_true rfl)
theorem k_107_76 : lk 107 76 = some (.ireturn, 77, 0, 0, .null) := by decide +kernel
theorem x_107_76 : Tr sc d 107 (76, [l0, l1, l2, l3, l4, l5, l6], [.int i0], h) Q = Q (some (.int i0), h) := t_ret k_107_76 (by rw [r_107]; rfl)
theorem k_107_77 : lk 107 77 = some (.iinc 6 1, 80, 6, 0, .int 1) := by decide +kernel
theorem x_107_77 : Tr sc d 107 (77, [l0, l1, l2, l3, l4, l5, some (.int x)], [], h) Q = Tr sc d 107 (80, [l0, l1, l2, l3, l4, cl2 l5, some (.int (x + 1))], [], h) Q := t_inc k_107_77 rfl (Nat.le_of_ble_eq_true rfl)
theorem k_107_80 : lk 107 80 = some (.goto (-52), 83, 28, 0, .null) := by decide +kernel
theorem x_107_80 : Tr sc d 107 (80, [l0, l1, l2, l3, l4, l5, l6], [], h) Q = Tr sc d 107 (28, [l0, l1, l2, l3, l4, l5, l6], [], h) Q := t_go k_107_80 rfl
theorem k_107_83 : lk 107 83 = some (.aload_n 0, 84, 0, 0, .null) := by decide +kernel
theorem x_107_83 : Tr sc d 107 (83, [some (.ref xk), l1, l2, l3, l4, l5, l6], [], h) Q = Tr sc d 107 (84, [some (.ref xk), l1, l2, l3, l4, l5, l6], [.ref xk], h) Q := t_aload_n k_107_83 rfl
theorem k_107_84 : lk 107 84 = some (.getfield 20, 87, 9, 2, .null) := by decide +kernel
theorem x_107_84 : Tr sc d 107 (84, [l0, l1, l2, l3, l4, l5, l6], [.ref k0], h) Q = (okp h k0 9 = true ∧ ∃ q, hR h k0 2 = some q ∧ Tr sc d 107 (87, [l0, l1, l2, l3, l4, l5, l6], [.ref q], h) Q) := t_getr k_107_84
theorem k_107_87 : lk 107 87 = some (.iload_n 1, 88, 1, 0, .null) := by decide +kernel
theorem x_107_87 : Tr sc d 107 (87, [l0, some (.int x), l2, l3, l4, l5, l6], [.ref k0], h) Q = Tr sc d 107 (88, [l0, some (.int x), l2, l3, l4, l5, l6], [.int x, .ref k0], h) Q := t_iload_n k_107_87 rfl
theorem k_107_88 : lk 107 88 = some (.aaload, 89, 0, 0, .null) := by decide +kernel
theorem x_107_88 : Tr sc d 107 (88, [l0, l1, l2, l3, l4, l5, l6], [.int i1, .ref k0], h) Q = (((okp h k0 14 || okp h k0 15) && inb i1 (LN k0)) = true ∧ ∃ q, hR h k0 i1.toNatClampNeg = some q ∧ Tr sc d 107 (89, [l0, l1, l2, l3, l4, l5, l6], [.ref q], h) Q) := t_aald k_107_88
theorem k_107_89 : lk 107 89 = some (.aload_n 0, 90, 0, 0, .null) := by decide +kernel
theorem x_107_89 : Tr sc d 107 (89, [some (.ref xk), l1, l2, l3, l4, l5, l6], [.ref k0], h) Q = Tr sc d 107 (90, [some (.ref xk), l1, l2, l3, l4, l5, l6], [.ref xk, .ref k0], h) Q := t_aload_n k_107_89 rfl
theorem k_107_90 : lk 107 90 = some (.getfield 20, 93, 9, 2, .null) := by decide +kernel
theorem x_107_90 : Tr sc d 107 (90, [l0, l1, l2, l3, l4, l5, l6], [.ref k1, .ref k0], h) Q = (okp h k1 9 = true ∧ ∃ q, hR h k1 2 = some q ∧ Tr sc d 107 (93, [l0, l1, l2, l3, l4, l5, l6], [.ref q, .ref k0], h) Q) := t_getr k_107_90
theorem k_107_93 : lk 107 93 = some (.iload_n 2, 94, 2, 0, .null) := by decide +kernel
theorem x_107_93 : Tr sc d 107 (93, [l0, l1, some (.int x), l3, l4, l5, l6], [.ref k1, .ref k0], h) Q = Tr sc d 107 (94, [l0, l1, some (.int x), l3, l4, l5, l6], [.int x, .ref k1, .ref k0], h) Q := t_iload_n k_107_93 rfl
theorem k_107_94 : lk 107 94 = some (.aaload, 95, 0, 0, .null) := by decide +kernel
theorem x_107_94 : Tr sc d 107 (94, [l0, l1, l2, l3, l4, l5, l6], [.int i2, .ref k1, .ref k0], h) Q = (((okp h k1 14 || okp h k1 15) && inb i2 (LN k1)) = true ∧ ∃ q, hR h k1 i2.toNatClampNeg = some q ∧ Tr sc d 107 (95, [l0, l1, l2, l3, l4, l5, l6], [.ref q, .ref k0], h) Q) := t_aald k_107_94
theorem k_107_95 : lk 107 95 = some (.invokevirtual 169, 98, 53, 1, .null) := by decide +kernel
theorem x_107_95 : Tr sc (d + 1) 107 (95, [l0, l1, l2, l3, l4, l5, l6], [.ref k1, .ref k0], h) Q = (okp h k0 6 = true ∧ Tr sc d 53 (ent0 53 [.ref k0, .ref k1] h) (fun z => Tr sc (d + 1) 107 (98, [l0, l1, l2, l3, l4, l5, l6], z.1.toList ++ [], z.2) Q)) := t_cv (as := [.ref k1]) (r := []) k_107_95 rfl rfl (Nat.le_of_ble_eq_true rfl) (Nat.le_of_ble_eq_true rfl) (Nat.le_of_ble_eq_true rfl)
theorem k_107_98 : lk 107 98 = some (.aload_n 0, 99, 0, 0, .null) := by decide +kernel
theorem x_107_98 : Tr sc d 107 (98, [some (.ref xk), l1, l2, l3, l4, l5, l6], [], h) Q = Tr sc d 107 (99, [some (.ref xk), l1, l2, l3, l4, l5, l6], [.ref xk], h) Q := t_aload_n k_107_98 rfl
theorem k_107_99 : lk 107 99 = some (.getfield 20, 102, 9, 2, .null) := by decide +kernel
theorem x_107_99 : Tr sc d 107 (99, [l0, l1, l2, l3, l4, l5, l6], [.ref k0], h) Q = (okp h k0 9 = true ∧ ∃ q, hR h k0 2 = some q ∧ Tr sc d 107 (102, [l0, l1, l2, l3, l4, l5, l6], [.ref q], h) Q) := t_getr k_107_99
theorem k_107_102 : lk 107 102 = some (.iload_n 1, 103, 1, 0, .null) := by decide +kernel
theorem x_107_102 : Tr sc d 107 (102, [l0, some (.int x), l2, l3, l4, l5, l6], [.ref k0], h) Q = Tr sc d 107 (103, [l0, some (.int x), l2, l3, l4, l5, l6], [.int x, .ref k0], h) Q := t_iload_n k_107_102 rfl
theorem k_107_103 : lk 107 103 = some (.aaload, 104, 0, 0, .null) := by decide +kernel
theorem x_107_103 : Tr sc d 107 (103, [l0, l1, l2, l3, l4, l5, l6], [.int i1, .ref k0], h) Q = (((okp h k0 14 || okp h k0 15) && inb i1 (LN k0)) = true ∧ ∃ q, hR h k0 i1.toNatClampNeg = some q ∧ Tr sc d 107 (104, [l0, l1, l2, l3, l4, l5, l6], [.ref q], h) Q) := t_aald k_107_103
theorem k_107_104 : lk 107 104 = some (.iconst 4, 105, 0, 0, .int 4) := by decide +kernel
theorem x_107_104 : Tr sc d 107 (104, [l0, l1, l2, l3, l4, l5, l6], [.ref k0], h) Q = Tr sc d 107 (105, [l0, l1, l2, l3, l4, l5, l6], [.int 4, .ref k0], h) Q := t_go k_107_104 rfl
theorem k_107_105 : lk 107 105 = some (.aload 5, 107, 5, 0, .null) := by decide +kernel
theorem x_107_105 : Tr sc d 107 (105, [l0, l1, l2, l3, l4, some (.ref xk), l6], [.int i1, .ref k0], h) Q = Tr sc d 107 (107, [l0, l1, l2, l3, l4, some (.ref xk), l6], [.ref xk, .int i1, .ref k0], h) Q := t_aload k_107_105 rfl
theorem k_107_107 : lk 107 107 = some (.invokevirtual 173, 110, 54, 2, .null) := by decide +kernel
theorem x_107_107 : Tr sc (d + 1) 107 (107, [l0, l1, l2, l3, l4, l5, l6], [.ref k2, .int i1, .ref k0], h) Q = (okp h k0 6 = true ∧ Tr sc d 54 (ent0 54 [.ref k0, .int i1, .ref k2] h) (fun z => Tr sc (d + 1) 107 (110, [l0, l1, l2, l3, l4, l5, l6], z.1.toList ++ [], z.2) Q)) := t_cv (as := [.int i1, .ref k2]) (r := []) k_107_107 rfl rfl (Nat.le_of_ble_eq_true rfl) (Nat.le_of_ble_eq_true rfl) (Nat.le_of_ble_eq_true rfl)
theorem k_107_110 : lk 107 110 = some (.aload_n 0, 111, 0, 0, .null) := by decide +kernel
theorem x_107_110 : Tr sc d 107 (110, [some (.ref xk), l1, l2, l3, l4, l5, l6], [], h) Q = Tr sc d 107 (111, [some (.ref xk), l1, l2, l3, l4, l5, l6], [.ref xk], h) Q := t_aload_n k_107_110 rfl
theorem k_107_111 : lk 107 111 = some (.getfield 20, 114, 9, 2, .null) := by decide +kernel
theorem x_107_111 : Tr sc d 107 (111, [l0, l1, l2, l3, l4, l5, l6], [.ref k0], h) Q = (okp h k0 9 = true ∧ ∃ q, hR h k0 2 = some q ∧ Tr sc d 107 (114, [l0, l1, l2, l3, l4, l5, l6], [.ref q], h) Q) := t_getr k_107_111
theorem k_107_114 : lk 107 114 = some (.iload_n 1, 115, 1, 0, .null) := by decide +kernel
theorem x_107_114 : Tr sc d 107 (114, [l0, some (.int x), l2, l3, l4, l5, l6], [.ref k0], h) Q = Tr sc d 107 (115, [l0, some (.int x), l2, l3, l4, l5, l6], [.int x, .ref k0], h) Q := t_iload_n k_107_114 rfl
theorem k_107_115 : lk 107 115 = some (.aaload, 116, 0, 0, .null) := by decide +kernel
theorem x_107_115 : Tr sc d 107 (115, [l0, l1, l2, l3, l4, l5, l6], [.int i1, .ref k0], h) Q = (((okp h k0 14 || okp h k0 15) && inb i1 (LN k0)) = true ∧ ∃ q, hR h k0 i1.toNatClampNeg = some q ∧ Tr sc d 107 (116, [l0, l1, l2, l3, l4, l5, l6], [.ref q], h) Q) := t_aald k_107_115
theorem k_107_116 : lk 107 116 = some (.invokevirtual 184, 119, 59, 0, .null) := by decide +kernel
theorem x_107_116 : Tr sc (d + 1) 107 (116, [l0, l1, l2, l3, l4, l5, l6], [.ref k0], h) Q = (okp h k0 6 = true ∧ Tr sc d 59 (ent0 59 [.ref k0] h) (fun z => Tr sc (d + 1) 107 (119, [l0, l1, l2, l3, l4, l5, l6], z.1.toList ++ [], z.2) Q)) := t_cv (as := []) (r := []) k_107_116 rfl rfl (Nat.le_of_ble_eq_true rfl) (Nat.le_of_ble_eq_true rfl) (Nat.le_of_ble_eq_true rfl)
theorem k_107_119 : lk 107 119 = some (.ireturn, 120, 0, 0, .null) := by decide +kernel
theorem x_107_119 : Tr sc d 107 (119, [l0, l1, l2, l3, l4, l5, l6], [.int i0], h) Q = Q (some (.int i0), h) := t_ret k_107_119 (by rw [r_107]; rfl)
theorem e_107 : Tr sc d 107 (ent0 107 [.ref k0, .int i1, .int i2, .int i3] h) Q = Tr sc d 107 (0, [some (.ref k0), some (.int i1), some (.int i2), some (.int i3), none, none, none], [], h) Q := by
  have e : mL 107 = 7 := by decide +kernel
  unfold ent0
  rw [e]
  rfl
theorem r_108 : mR 108 = some .int := by decide +kernel
theorem k_108_0 : lk 108 0 = some (.iload_n 1, 1, 1, 0, .null) := by decide +kernel
theorem x_108_0 : Tr sc d 108 (0, [l0, some (.int x), l2, l3, l4, l5, l6], [], h) Q = Tr sc d 108 (1, [l0, some (.int x), l2, l3, l4, l5, l6], [.int x], h) Q := t_iload_n k_108_0 rfl
theorem k_108_1 : lk 108 1 = some (.invokestatic 159, 4, 143, 1, .null) := by decide +kernel
theorem x_108_1 : Tr sc (d + 1) 108 (1, [l0, l1, l2, l3, l4, l5, l6], [.int i0], h) Q = Tr sc d 143 (ent0 143 [.int i0] h) (fun z => Tr sc (d + 1) 108 (4, [l0, l1, l2, l3, l4, l5, l6], z.1.toList ++ [], z.2) Q) := t_cs (as := [.int i0]) (r := []) k_108_1 (by decide) rfl rfl (Nat.le_of_ble_eq_true rfl) (Nat.le_of_ble_eq_true rfl)
theorem k_108_4 : lk 108 4 = some (.ifCond .eq 10, 7, 14, 0, .null) := by decide +kernel
theorem x_108_4 : Tr sc d 108 (4, [l0, l1, l2, l3, l4, l5, l6], [.int i0], h) Q = if i0 = 0 then Tr sc d 108 (14, [l0, l1, l2, l3, l4, l5, l6], [], h) Q else Tr sc d 108 (7, [l0, l1, l2, l3, l4, l5, l6], [], h) Q := t_if k_108_4 rfl
theorem k_108_7 : lk 108 7 = some (.iload_n 2, 8, 2, 0, .null) := by decide +kernel
theorem x_108_7 : Tr sc d 108 (7, [l0, l1, some (.int x), l3, l4, l5, l6], [], h) Q = Tr sc d 108 (8, [l0, l1, some (.int x), l3, l4, l5, l6], [.int x], h) Q := t_iload_n k_108_7 rfl
theorem k_108_8 : lk 108 8 = some (.invokestatic 114, 11, 141, 1, .null) := by decide +kernel
theorem x_108_8 : Tr sc (d + 1) 108 (8, [l0, l1, l2, l3, l4, l5, l6], [.int i0], h) Q = Tr sc d 141 (ent0 141 [.int i0] h) (fun z => Tr sc (d + 1) 108 (11, [l0, l1, l2, l3, l4, l5, l6], z.1.toList ++ [], z.2) Q) := t_cs (as := [.int i0]) (r := []) k_108_8 (by decide) rfl rfl (Nat.le_of_ble_eq_true rfl) (Nat.le_of_ble_eq_true rfl)
theorem k_108_11 : lk 108 11 = some (.ifCond .ne 5, 14, 16, 0, .null) := by decide +kernel
theorem x_108_11 : Tr sc d 108 (11, [l0, l1, l2, l3, l4, l5, l6], [.int i0], h) Q = if i0 = 0 then Tr sc d 108 (14, [l0, l1, l2, l3, l4, l5, l6], [], h) Q else Tr sc d 108 (16, [l0, l1, l2, l3, l4, l5, l6], [], h) Q := t_if k_108_11 rfl
theorem k_108_14 : lk 108 14 = some (.iconst (-1), 15, 0, 0, .int (-1)) := by decide +kernel
theorem x_108_14 : Tr sc d 108 (14, [l0, l1, l2, l3, l4, l5, l6], [], h) Q = Tr sc d 108 (15, [l0, l1, l2, l3, l4, l5, l6], [.int (-1)], h) Q := t_go k_108_14 rfl
theorem k_108_15 : lk 108 15 = some (.ireturn, 16, 0, 0, .null) := by decide +kernel
theorem x_108_15 : Tr sc d 108 (15, [l0, l1, l2, l3, l4, l5, l6], [.int i0], h) Q = Q (some (.int i0), h) := t_ret k_108_15 (by rw [r_108]; rfl)
theorem k_108_16 : lk 108 16 = some (.aload_n 0, 17, 0, 0, .null) := by decide +kernel
theorem x_108_16 : Tr sc d 108 (16, [some (.ref xk), l1, l2, l3, l4, l5, l6], [], h) Q = Tr sc d 108 (17, [some (.ref xk), l1, l2, l3, l4, l5, l6], [.ref xk], h) Q := t_aload_n k_108_16 rfl
theorem k_108_17 : lk 108 17 = some (.getfield 11, 20, 9, 0, .null) := by decide +kernel
theorem x_108_17 : Tr sc d 108 (17, [l0, l1, l2, l3, l4, l5, l6], [.ref k0], h) Q = (okp h k0 9 = true ∧ ∃ q, hR h k0 0 = some q ∧ Tr sc d 108 (20, [l0, l1, l2, l3, l4, l5, l6], [.ref q], h) Q) := t_getr k_108_17
theorem k_108_20 : lk 108 20 = some (.iload_n 2, 21, 2, 0, .null) := by decide +kernel
theorem x_108_20 : Tr sc d 108 (20, [l0, l1, some (.int x), l3, l4, l5, l6], [.ref k0], h) Q = Tr sc d 108 (21, [l0, l1, some (.int x), l3, l4, l5, l6], [.int x, .ref k0], h) Q := t_iload_n k_108_20 rfl
theorem k_108_21 : lk 108 21 = some (.aaload, 22, 0, 0, .null) := by decide +kernel
theorem x_108_21 : Tr sc d 108 (21, [l0, l1, l2, l3, l4, l5, l6], [.int i1, .ref k0], h) Q = (((okp h k0 14 || okp h k0 15) && inb i1 (LN k0)) = true ∧ ∃ q, hR h k0 i1.toNatClampNeg = some q ∧ Tr sc d 108 (22, [l0, l1, l2, l3, l4, l5, l6], [.ref q], h) Q) := t_aald k_108_21
theorem k_108_22 : lk 108 22 = some (.invokevirtual 125, 25, 42, 0, .null) := by decide +kernel
theorem x_108_22 : Tr sc (d + 1) 108 (22, [l0, l1, l2, l3, l4, l5, l6], [.ref k0], h) Q = (okp h k0 5 = true ∧ Tr sc d 42 (ent0 42 [.ref k0] h) (fun z => Tr sc (d + 1) 108 (25, [l0, l1, l2, l3, l4, l5, l6], z.1.toList ++ [], z.2) Q)) := t_cv (as := []) (r := []) k_108_22 rfl rfl (Nat.le_of_ble_eq_true rfl) (Nat.le_of_ble_eq_true rfl) (Nat.le_of_ble_eq_true rfl)
theorem k_108_25 : lk 108 25 = some (.ifCond .eq 9, 28, 34, 0, .null) := by decide +kernel
theorem x_108_25 : Tr sc d 108 (25, [l0, l1, l2, l3, l4, l5, l6], [.int i0], h) Q = if i0 = 0 then Tr sc d 108 (34, [l0, l1, l2, l3, l4, l5, l6], [], h) Q else Tr sc d 108 (28, [l0, l1, l2, l3, l4, l5, l6], [], h) Q := t_if k_108_25 rfl
theorem k_108_28 : lk 108 28 = some (.aload_n 0, 29, 0, 0, .null) := by decide +kernel
theorem x_108_28 : Tr sc d 108 (28, [some (.ref xk), l1, l2, l3, l4, l5, l6], [], h) Q = Tr sc d 108 (29, [some (.ref xk), l1, l2, l3, l4, l5, l6], [.ref xk], h) Q := t_aload_n k_108_28 rfl
theorem k_108_29 : lk 108 29 = some (.iconst 1, 30, 0, 0, .int 1) := by decide +kernel
theorem x_108_29 : Tr sc d 108 (29, [l0, l1, l2, l3, l4, l5, l6], [.ref k0], h) Q = Tr sc d 108 (30, [l0, l1, l2, l3, l4, l5, l6], [.int 1, .ref k0], h) Q := t_go k_108_29 rfl
theorem k_108_30 : lk 108 30 = some (.invokevirtual 118, 33, 145, 1, .null) := by decide +kernel
theorem x_108_30 : Tr sc (d + 1) 108 (30, [l0, l1, l2, l3, l4, l5, l6], [.int i1, .ref k0], h) Q = (okp h k0 9 = true ∧ Tr sc d 145 (ent0 145 [.ref k0, .int i1] h) (fun z => Tr sc (d + 1) 108 (33, [l0, l1, l2, l3, l4, l5, l6], z.1.toList ++ [], z.2) Q)) := t_cv (as := [.int i1]) (r := []) k_108_30 rfl rfl (Nat.le_of_ble_eq_true rfl) (Nat.le_of_ble_eq_true rfl) (Nat.le_of_ble_eq_true rfl)
theorem k_108_33 : lk 108 33 = some (.ireturn, 34, 0, 0, .null) := by decide +kernel
theorem x_108_33 : Tr sc d 108 (33, [l0, l1, l2, l3, l4, l5, l6], [.int i0], h) Q = Q (some (.int i0), h) := t_ret k_108_33 (by rw [r_108]; rfl)
theorem k_108_34 : lk 108 34 = some (.aload_n 0, 35, 0, 0, .null) := by decide +kernel
theorem x_108_34 : Tr sc d 108 (34, [some (.ref xk), l1, l2, l3, l4, l5, l6], [], h) Q = Tr sc d 108 (35, [some (.ref xk), l1, l2, l3, l4, l5, l6], [.ref xk], h) Q := t_aload_n k_108_34 rfl
theorem k_108_35 : lk 108 35 = some (.getfield 11, 38, 9, 0, .null) := by decide +kernel
theorem x_108_35 : Tr sc d 108 (35, [l0, l1, l2, l3, l4, l5, l6], [.ref k0], h) Q = (okp h k0 9 = true ∧ ∃ q, hR h k0 0 = some q ∧ Tr sc d 108 (38, [l0, l1, l2, l3, l4, l5, l6], [.ref q], h) Q) := t_getr k_108_35
theorem k_108_38 : lk 108 38 = some (.iload_n 2, 39, 2, 0, .null) := by decide +kernel
theorem x_108_38 : Tr sc d 108 (38, [l0, l1, some (.int x), l3, l4, l5, l6], [.ref k0], h) Q = Tr sc d 108 (39, [l0, l1, some (.int x), l3, l4, l5, l6], [.int x, .ref k0], h) Q := t_iload_n k_108_38 rfl
theorem k_108_39 : lk 108 39 = some (.aaload, 40, 0, 0, .null) := by decide +kernel
theorem x_108_39 : Tr sc d 108 (39, [l0, l1, l2, l3, l4, l5, l6], [.int i1, .ref k0], h) Q = (((okp h k0 14 || okp h k0 15) && inb i1 (LN k0)) = true ∧ ∃ q, hR h k0 i1.toNatClampNeg = some q ∧ Tr sc d 108 (40, [l0, l1, l2, l3, l4, l5, l6], [.ref q], h) Q) := t_aald k_108_39
theorem k_108_40 : lk 108 40 = some (.getfield 135, 43, 5, 1, .int 0) := by decide +kernel
theorem x_108_40 : Tr sc d 108 (40, [l0, l1, l2, l3, l4, l5, l6], [.ref k0], h) Q = (okp h k0 5 = true ∧ Tr sc d 108 (43, [l0, l1, l2, l3, l4, l5, l6], [.int (hI h k0 1)], h) Q) := t_gd k_108_40 rfl
theorem k_108_43 : lk 108 43 = some (.istore_n 3, 44, 3, 0, .null) := by decide +kernel
theorem x_108_43 : Tr sc d 108 (43, [l0, l1, l2, l3, l4, l5, l6], [.int i0], h) Q = Tr sc d 108 (44, [l0, l1, cl2 l2, some (.int i0), l4, l5, l6], [], h) Q := t_istore_n k_108_43 (Nat.le_of_ble_eq_true rfl)
theorem k_108_44 : lk 108 44 = some (.iload_n 3, 45, 3, 0, .null) := by decide +kernel
theorem x_108_44 : Tr sc d 108 (44, [l0, l1, l2, some (.int x), l4, l5, l6], [], h) Q = Tr sc d 108 (45, [l0, l1, l2, some (.int x), l4, l5, l6], [.int x], h) Q := t_iload_n k_108_44 rfl
theorem k_108_45 : lk 108 45 = some (.iconst 2, 46, 0, 0, .int 2) := by decide +kernel
theorem x_108_45 : Tr sc d 108 (45, [l0, l1, l2, l3, l4, l5, l6], [.int i0], h) Q = Tr sc d 108 (46, [l0, l1, l2, l3, l4, l5, l6], [.int 2, .int i0], h) Q := t_go k_108_45 rfl
theorem k_108_46 : lk 108 46 = some (.if_icmp .lt 8, 49, 54, 0, .null) := by decide +kernel
theorem x_108_46 : Tr sc d 108 (46, [l0, l1, l2, l3, l4, l5, l6], [.int i1, .int i0], h) Q = if i0 < i1 then Tr sc d 108 (54, [l0, l1, l2, l3, l4, l5, l6], [], h) Q else Tr sc d 108 (49, [l0, l1, l2, l3, l4, l5, l6], [], h) Q := t_if k_108_46 rfl
theorem k_108_49 : lk 108 49 = some (.iload_n 3, 50, 3, 0, .null) := by decide +kernel
theorem x_108_49 : Tr sc d 108 (49, [l0, l1, l2, some (.int x), l4, l5, l6], [], h) Q = Tr sc d 108 (50, [l0, l1, l2, some (.int x), l4, l5, l6], [.int x], h) Q := t_iload_n k_108_49 rfl
theorem k_108_50 : lk 108 50 = some (.iconst 4, 51, 0, 0, .int 4) := by decide +kernel
theorem x_108_50 : Tr sc d 108 (50, [l0, l1, l2, l3, l4, l5, l6], [.int i0], h) Q = Tr sc d 108 (51, [l0, l1, l2, l3, l4, l5, l6], [.int 4, .int i0], h) Q := t_go k_108_50 rfl
theorem k_108_51 : lk 108 51 = some (.if_icmp .le 9, 54, 60, 0, .null) := by decide +kernel
theorem x_108_51 : Tr sc d 108 (51, [l0, l1, l2, l3, l4, l5, l6], [.int i1, .int i0], h) Q = if i0 ≤ i1 then Tr sc d 108 (60, [l0, l1, l2, l3, l4, l5, l6], [], h) Q else Tr sc d 108 (54, [l0, l1, l2, l3, l4, l5, l6], [], h) Q := t_if k_108_51 rfl
theorem k_108_54 : lk 108 54 = some (.aload_n 0, 55, 0, 0, .null) := by decide +kernel
theorem x_108_54 : Tr sc d 108 (54, [some (.ref xk), l1, l2, l3, l4, l5, l6], [], h) Q = Tr sc d 108 (55, [some (.ref xk), l1, l2, l3, l4, l5, l6], [.ref xk], h) Q := t_aload_n k_108_54 rfl
theorem k_108_55 : lk 108 55 = some (.iconst 5, 56, 0, 0, .int 5) := by decide +kernel
theorem x_108_55 : Tr sc d 108 (55, [l0, l1, l2, l3, l4, l5, l6], [.ref k0], h) Q = Tr sc d 108 (56, [l0, l1, l2, l3, l4, l5, l6], [.int 5, .ref k0], h) Q := t_go k_108_55 rfl
theorem k_108_56 : lk 108 56 = some (.invokevirtual 118, 59, 145, 1, .null) := by decide +kernel
theorem x_108_56 : Tr sc (d + 1) 108 (56, [l0, l1, l2, l3, l4, l5, l6], [.int i1, .ref k0], h) Q = (okp h k0 9 = true ∧ Tr sc d 145 (ent0 145 [.ref k0, .int i1] h) (fun z => Tr sc (d + 1) 108 (59, [l0, l1, l2, l3, l4, l5, l6], z.1.toList ++ [], z.2) Q)) := t_cv (as := [.int i1]) (r := []) k_108_56 rfl rfl (Nat.le_of_ble_eq_true rfl) (Nat.le_of_ble_eq_true rfl) (Nat.le_of_ble_eq_true rfl)
theorem k_108_59 : lk 108 59 = some (.ireturn, 60, 0, 0, .null) := by decide +kernel
theorem x_108_59 : Tr sc d 108 (59, [l0, l1, l2, l3, l4, l5, l6], [.int i0], h) Q = Q (some (.int i0), h) := t_ret k_108_59 (by rw [r_108]; rfl)
theorem k_108_60 : lk 108 60 = some (.iconst 0, 61, 0, 0, .int 0) := by decide +kernel
theorem x_108_60 : Tr sc d 108 (60, [l0, l1, l2, l3, l4, l5, l6], [], h) Q = Tr sc d 108 (61, [l0, l1, l2, l3, l4, l5, l6], [.int 0], h) Q := t_go k_108_60 rfl
theorem k_108_61 : lk 108 61 = some (.istore 4, 63, 4, 0, .null) := by decide +kernel
theorem x_108_61 : Tr sc d 108 (61, [l0, l1, l2, l3, l4, l5, l6], [.int i0], h) Q = Tr sc d 108 (63, [l0, l1, l2, cl2 l3, some (.int i0), l5, l6], [], h) Q := t_istore k_108_61 (Nat.le_of_ble_eq_true rfl)
theorem k_108_63 : lk 108 63 = some (.iconst 0, 64, 0, 0, .int 0) := by decide +kernel
theorem x_108_63 : Tr sc d 108 (63, [l0, l1, l2, l3, l4, l5, l6], [], h) Q = Tr sc d 108 (64, [l0, l1, l2, l3, l4, l5, l6], [.int 0], h) Q := t_go k_108_63 rfl
theorem k_108_64 : lk 108 64 = some (.istore 5, 66, 5, 0, .null) := by decide +kernel
theorem x_108_64 : Tr sc d 108 (64, [l0, l1, l2, l3, l4, l5, l6], [.int i0], h) Q = Tr sc d 108 (66, [l0, l1, l2, l3, cl2 l4, some (.int i0), l6], [], h) Q := t_istore k_108_64 (Nat.le_of_ble_eq_true rfl)
theorem k_108_66 : lk 108 66 = some (.iload 5, 68, 5, 0, .null) := by decide +kernel
theorem x_108_66 : Tr sc d 108 (66, [l0, l1, l2, l3, l4, some (.int x), l6], [], h) Q = Tr sc d 108 (68, [l0, l1, l2, l3, l4, some (.int x), l6], [.int x], h) Q := t_iload k_108_66 rfl
theorem k_108_68 : lk 108 68 = some (.iload_n 3, 69, 3, 0, .null) := by decide +kernel
theorem x_108_68 : Tr sc d 108 (68, [l0, l1, l2, some (.int x), l4, l5, l6], [.int i0], h) Q = Tr sc d 108 (69, [l0, l1, l2, some (.int x), l4, l5, l6], [.int x, .int i0], h) Q := t_iload_n k_108_68 rfl
theorem k_108_69 : lk 108 69 = some (.if_icmp .ge 52, 72, 121, 0, .null) := by decide +kernel
theorem x_108_69 : Tr sc d 108 (69, [l0, l1, l2, l3, l4, l5, l6], [.int i1, .int i0], h) Q = if i1 ≤ i0 then Tr sc d 108 (121, [l0, l1, l2, l3, l4, l5, l6], [], h) Q else Tr sc d 108 (72, [l0, l1, l2, l3, l4, l5, l6], [], h) Q := t_if k_108_69 rfl
theorem k_108_72 : lk 108 72 = some (.aload_n 0, 73, 0, 0, .null) := by decide +kernel
theorem x_108_72 : Tr sc d 108 (72, [some (.ref xk), l1, l2, l3, l4, l5, l6], [], h) Q = Tr sc d 108 (73, [some (.ref xk), l1, l2, l3, l4, l5, l6], [.ref xk], h) Q := t_aload_n k_108_72 rfl
theorem k_108_73 : lk 108 73 = some (.getfield 11, 76, 9, 0, .null) := by decide +kernel
theorem x_108_73 : Tr sc d 108 (73, [l0, l1, l2, l3, l4, l5, l6], [.ref k0], h) Q = (okp h k0 9 = true ∧ ∃ q, hR h k0 0 = some q ∧ Tr sc d 108 (76, [l0, l1, l2, l3, l4, l5, l6], [.ref q], h) Q) := t_getr k_108_73
theorem k_108_76 : lk 108 76 = some (.iload_n 2, 77, 2, 0, .null) := by decide +kernel
theorem x_108_76 : Tr sc d 108 (76, [l0, l1, some (.int x), l3, l4, l5, l6], [.ref k0], h) Q = Tr sc d 108 (77, [l0, l1, some (.int x), l3, l4, l5, l6], [.int x, .ref k0], h) Q := t_iload_n k_108_76 rfl
theorem k_108_77 : lk 108 77 = some (.aaload, 78, 0, 0, .null) := by decide +kernel
theorem x_108_77 : Tr sc d 108 (77, [l0, l1, l2, l3, l4, l5, l6], [.int i1, .ref k0], h) Q = (((okp h k0 14 || okp h k0 15) && inb i1 (LN k0)) = true ∧ ∃ q, hR h k0 i1.toNatClampNeg = some q ∧ Tr sc d 108 (78, [l0, l1, l2, l3, l4, l5, l6], [.ref q], h) Q) := t_aald k_108_77
theorem k_108_78 : lk 108 78 = some (.getfield 132, 81, 5, 0, .null) := by decide +kernel
theorem x_108_78 : Tr sc d 108 (78, [l0, l1, l2, l3, l4, l5, l6], [.ref k0], h) Q = (okp h k0 5 = true ∧ ∃ q, hR h k0 0 = some q ∧ Tr sc d 108 (81, [l0, l1, l2, l3, l4, l5, l6], [.ref q], h) Q) := t_getr k_108_78
theorem k_108_81 : lk 108 81 = some (.iload 5, 83, 5, 0, .null) := by decide +kernel
theorem x_108_81 : Tr sc d 108 (81, [l0, l1, l2, l3, l4, some (.int x), l6], [.ref k0], h) Q = Tr sc d 108 (83, [l0, l1, l2, l3, l4, some (.int x), l6], [.int x, .ref k0], h) Q := t_iload k_108_81 rfl
theorem k_108_83 : lk 108 83 = some (.iaload, 84, 0, 0, .null) := by decide +kernel
theorem x_108_83 : Tr sc d 108 (83, [l0, l1, l2, l3, l4, l5, l6], [.int i1, .ref k0], h) Q = (iOk sc h k0 i1 ∧ Tr sc d 108 (84, [l0, l1, l2, l3, l4, l5, l6], [.int (iRd sc h k0 i1)], h) Q) := t_iald k_108_83
theorem k_108_84 : lk 108 84 = some (.istore 6, 86, 6, 0, .null) := by decide +kernel
theorem x_108_84 : Tr sc d 108 (84, [l0, l1, l2, l3, l4, l5, l6], [.int i0], h) Q = Tr sc d 108 (86, [l0, l1, l2, l3, l4, cl2 l5, some (.int i0)], [], h) Q := t_istore k_108_84 (Nat.le_of_ble_eq_true rfl)
theorem k_108_86 : lk 108 86 = some (.iload 6, 88, 6, 0, .null) := by decide +kernel
theorem x_108_86 : Tr sc d 108 (86, [l0, l1, l2, l3, l4, l5, some (.int x)], [], h) Q = Tr sc d 108 (88, [l0, l1, l2, l3, l4, l5, some (.int x)], [.int x], h) Q := t_iload k_108_86 rfl
theorem k_108_88 : lk 108 88 = some (.ifCond .lt 11, 91, 99, 0, .null) := by decide +kernel
theorem x_108_88 : Tr sc d 108 (88, [l0, l1, l2, l3, l4, l5, l6], [.int i0], h) Q = if i0 < 0 then Tr sc d 108 (99, [l0, l1, l2, l3, l4, l5, l6], [], h) Q else Tr sc d 108 (91, [l0, l1, l2, l3, l4, l5, l6], [], h) Q := t_if k_108_88 rfl
theorem k_108_91 : lk 108 91 = some (.iload 6, 93, 6, 0, .null) := by decide +kernel
theorem x_108_91 : Tr sc d 108 (91, [l0, l1, l2, l3, l4, l5, some (.int x)], [], h) Q = Tr sc d 108 (93, [l0, l1, l2, l3, l4, l5, some (.int x)], [.int x], h) Q := t_iload k_108_91 rfl
theorem k_108_93 : lk 108 93 = some (.iconst 1, 94, 0, 0, .int 1) := by decide +kernel
theorem x_108_93 : Tr sc d 108 (93, [l0, l1, l2, l3, l4, l5, l6], [.int i0], h) Q = Tr sc d 108 (94, [l0, l1, l2, l3, l4, l5, l6], [.int 1, .int i0], h) Q := t_go k_108_93 rfl
theorem k_108_94 : lk 108 94 = some (.iload_n 3, 95, 3, 0, .null) := by decide +kernel
theorem x_108_94 : Tr sc d 108 (94, [l0, l1, l2, some (.int x), l4, l5, l6], [.int i1, .int i0], h) Q = Tr sc d 108 (95, [l0, l1, l2, some (.int x), l4, l5, l6], [.int x, .int i1, .int i0], h) Q := t_iload_n k_108_94 rfl
theorem k_108_95 : lk 108 95 = some (.ishl, 96, 0, 0, .null) := by decide +kernel
theorem x_108_95 : Tr sc d 108 (95, [l0, l1, l2, l3, l4, l5, l6], [.int i2, .int i1, .int i0], h) Q = Tr sc d 108 (96, [l0, l1, l2, l3, l4, l5, l6], [.int (i1 <<< (i2 &&& 31)), .int i0], h) Q := t_go k_108_95 rfl
theorem k_108_96 : lk 108 96 = some (.if_icmp .lt 9, 99, 105, 0, .null) := by decide +kernel
theorem x_108_96 : Tr sc d 108 (96, [l0, l1, l2, l3, l4, l5, l6], [.int i1, .int i0], h) Q = if i0 < i1 then Tr sc d 108 (105, [l0, l1, l2, l3, l4, l5, l6], [], h) Q else Tr sc d 108 (99, [l0, l1, l2, l3, l4, l5, l6], [], h) Q := t_if k_108_96 rfl
theorem k_108_99 : lk 108 99 = some (.aload_n 0, 100, 0, 0, .null) := by decide +kernel
theorem x_108_99 : Tr sc d 108 (99, [some (.ref xk), l1, l2, l3, l4, l5, l6], [], h) Q = Tr sc d 108 (100, [some (.ref xk), l1, l2, l3, l4, l5, l6], [.ref xk], h) Q := t_aload_n k_108_99 rfl
theorem k_108_100 : lk 108 100 = some (.iconst 3, 101, 0, 0, .int 3) := by decide +kernel
theorem x_108_100 : Tr sc d 108 (100, [l0, l1, l2, l3, l4, l5, l6], [.ref k0], h) Q = Tr sc d 108 (101, [l0, l1, l2, l3, l4, l5, l6], [.int 3, .ref k0], h) Q := t_go k_108_100 rfl
theorem k_108_101 : lk 108 101 = some (.invokevirtual 118, 104, 145, 1, .null) := by decide +kernel
theorem x_108_101 : Tr sc (d + 1) 108 (101, [l0, l1, l2, l3, l4, l5, l6], [.int i1, .ref k0], h) Q = (okp h k0 9 = true ∧ Tr sc d 145 (ent0 145 [.ref k0, .int i1] h) (fun z => Tr sc (d + 1) 108 (104, [l0, l1, l2, l3, l4, l5, l6], z.1.toList ++ [], z.2) Q)) := t_cv (as := [.int i1]) (r := []) k_108_101 rfl rfl (Nat.le_of_ble_eq_true rfl) (Nat.le_of_ble_eq_true rfl) (Nat.le_of_ble_eq_true rfl)
theorem k_108_104 : lk 108 104 = some (.ireturn, 105, 0, 0, .null) := by decide +kernel
theorem x_108_104 : Tr sc d 108 (104, [l0, l1, l2, l3, l4, l5, l6], [.int i0], h) Q = Q (some (.int i0), h) := t_ret k_108_104 (by rw [r_108]; rfl)
theorem k_108_105 : lk 108 105 = some (.iload 4, 107, 4, 0, .null) := by decide +kernel
theorem x_108_105 : Tr sc d 108 (105, [l0, l1, l2, l3, some (.int x), l5, l6], [], h) Q = Tr sc d 108 (107, [l0, l1, l2, l3, some (.int x), l5, l6], [.int x], h) Q := t_iload k_108_105 rfl
theorem k_108_107 : lk 108 107 = some (.iload 6, 109, 6, 0, .null) := by decide +kernel
theorem x_108_107 : Tr sc d 108 (107, [l0, l1, l2, l3, l4, l5, some (.int x)], [.int i0], h) Q = Tr sc d 108 (109, [l0, l1, l2, l3, l4, l5, some (.int x)], [.int x, .int i0], h) Q := t_iload k_108_107 rfl
theorem k_108_109 : lk 108 109 = some (.invokestatic 187, 112, 252, 1, .null) := by decide +kernel
theorem x_108_109 : Tr sc (d + 1) 108 (109, [l0, l1, l2, l3, l4, l5, l6], [.int i1, .int i0], h) Q = Tr sc d 252 (ent0 252 [.int i1] h) (fun z => Tr sc (d + 1) 108 (112, [l0, l1, l2, l3, l4, l5, l6], z.1.toList ++ [.int i0], z.2) Q) := t_cs (as := [.int i1]) (r := [.int i0]) k_108_109 (by decide) rfl rfl (Nat.le_of_ble_eq_true rfl) (Nat.le_of_ble_eq_true rfl)
theorem k_108_112 : lk 108 112 = some (.iadd, 113, 0, 0, .null) := by decide +kernel
theorem x_108_112 : Tr sc d 108 (112, [l0, l1, l2, l3, l4, l5, l6], [.int i1, .int i0], h) Q = Tr sc d 108 (113, [l0, l1, l2, l3, l4, l5, l6], [.int (i0 + i1)], h) Q := t_go k_108_112 rfl
theorem k_108_113 : lk 108 113 = some (.istore 4, 115, 4, 0, .null) := by decide +kernel
theorem x_108_113 : Tr sc d 108 (113, [l0, l1, l2, l3, l4, l5, l6], [.int i0], h) Q = Tr sc d 108 (115, [l0, l1, l2, cl2 l3, some (.int i0), l5, l6], [], h) Q := t_istore k_108_113 (Nat.le_of_ble_eq_true rfl)
theorem k_108_115 : lk 108 115 = some (.iinc 5 1, 118, 5, 0, .int 1) := by decide +kernel
theorem x_108_115 : Tr sc d 108 (115, [l0, l1, l2, l3, l4, some (.int x), l6], [], h) Q = Tr sc d 108 (118, [l0, l1, l2, l3, cl2 l4, some (.int (x + 1)), l6], [], h) Q := t_inc k_108_115 rfl (Nat.le_of_ble_eq_true rfl)
theorem k_108_118 : lk 108 118 = some (.goto (-52), 121, 66, 0, .null) := by decide +kernel
theorem x_108_118 : Tr sc d 108 (118, [l0, l1, l2, l3, l4, l5, l6], [], h) Q = Tr sc d 108 (66, [l0, l1, l2, l3, l4, l5, l6], [], h) Q := t_go k_108_118 rfl
theorem k_108_121 : lk 108 121 = some (.iload 4, 123, 4, 0, .null) := by decide +kernel
theorem x_108_121 : Tr sc d 108 (121, [l0, l1, l2, l3, some (.int x), l5, l6], [], h) Q = Tr sc d 108 (123, [l0, l1, l2, l3, some (.int x), l5, l6], [.int x], h) Q := t_iload k_108_121 rfl
theorem k_108_123 : lk 108 123 = some (.ifCond .eq 10, 126, 133, 0, .null) := by decide +kernel
theorem x_108_123 : Tr sc d 108 (123, [l0, l1, l2, l3, l4, l5, l6], [.int i0], h) Q = if i0 = 0 then Tr sc d 108 (133, [l0, l1, l2, l3, l4, l5, l6], [], h) Q else Tr sc d 108 (126, [l0, l1, l2, l3, l4, l5, l6], [], h) Q := t_if k_108_123 rfl
theorem k_108_126 : lk 108 126 = some (.iload 4, 128, 4, 0, .null) := by decide +kernel
theorem x_108_126 : Tr sc d 108 (126, [l0, l1, l2, l3, some (.int x), l5, l6], [], h) Q = Tr sc d 108 (128, [l0, l1, l2, l3, some (.int x), l5, l6], [.int x], h) Q := t_iload k_108_126 rfl
theorem k_108_128 : lk 108 128 = some (.bipush 6, 130, 0, 0, .int 6) := by decide +kernel
theorem x_108_128 : Tr sc d 108 (128, [l0, l1, l2, l3, l4, l5, l6], [.int i0], h) Q = Tr sc d 108 (130, [l0, l1, l2, l3, l4, l5, l6], [.int 6, .int i0], h) Q := t_go k_108_128 rfl
theorem k_108_130 : lk 108 130 = some (.if_icmp .le 9, 133, 139, 0, .null) := by decide +kernel
theorem x_108_130 : Tr sc d 108 (130, [l0, l1, l2, l3, l4, l5, l6], [.int i1, .int i0], h) Q = if i0 ≤ i1 then Tr sc d 108 (139, [l0, l1, l2, l3, l4, l5, l6], [], h) Q else Tr sc d 108 (133, [l0, l1, l2, l3, l4, l5, l6], [], h) Q := t_if k_108_130 rfl
theorem k_108_133 : lk 108 133 = some (.aload_n 0, 134, 0, 0, .null) := by decide +kernel
theorem x_108_133 : Tr sc d 108 (133, [some (.ref xk), l1, l2, l3, l4, l5, l6], [], h) Q = Tr sc d 108 (134, [some (.ref xk), l1, l2, l3, l4, l5, l6], [.ref xk], h) Q := t_aload_n k_108_133 rfl
theorem k_108_134 : lk 108 134 = some (.iconst 3, 135, 0, 0, .int 3) := by decide +kernel
theorem x_108_134 : Tr sc d 108 (134, [l0, l1, l2, l3, l4, l5, l6], [.ref k0], h) Q = Tr sc d 108 (135, [l0, l1, l2, l3, l4, l5, l6], [.int 3, .ref k0], h) Q := t_go k_108_134 rfl
theorem k_108_135 : lk 108 135 = some (.invokevirtual 118, 138, 145, 1, .null) := by decide +kernel
theorem x_108_135 : Tr sc (d + 1) 108 (135, [l0, l1, l2, l3, l4, l5, l6], [.int i1, .ref k0], h) Q = (okp h k0 9 = true ∧ Tr sc d 145 (ent0 145 [.ref k0, .int i1] h) (fun z => Tr sc (d + 1) 108 (138, [l0, l1, l2, l3, l4, l5, l6], z.1.toList ++ [], z.2) Q)) := t_cv (as := [.int i1]) (r := []) k_108_135 rfl rfl (Nat.le_of_ble_eq_true rfl) (Nat.le_of_ble_eq_true rfl) (Nat.le_of_ble_eq_true rfl)
theorem k_108_138 : lk 108 138 = some (.ireturn, 139, 0, 0, .null) := by decide +kernel
theorem x_108_138 : Tr sc d 108 (138, [l0, l1, l2, l3, l4, l5, l6], [.int i0], h) Q = Q (some (.int i0), h) := t_ret k_108_138 (by rw [r_108]; rfl)
theorem k_108_139 : lk 108 139 = some (.aload_n 0, 140, 0, 0, .null) := by decide +kernel
theorem x_108_139 : Tr sc d 108 (139, [some (.ref xk), l1, l2, l3, l4, l5, l6], [], h) Q = Tr sc d 108 (140, [some (.ref xk), l1, l2, l3, l4, l5, l6], [.ref xk], h) Q := t_aload_n k_108_139 rfl
theorem k_108_140 : lk 108 140 = some (.getfield 25, 143, 9, 3, .null) := by decide +kernel
theorem x_108_140 : Tr sc d 108 (140, [l0, l1, l2, l3, l4, l5, l6], [.ref k0], h) Q = (okp h k0 9 = true ∧ ∃ q, hR h k0 3 = some q ∧ Tr sc d 108 (143, [l0, l1, l2, l3, l4, l5, l6], [.ref q], h) Q) := t_getr k_108_140
theorem k_108_143 : lk 108 143 = some (.aload_n 0, 144, 0, 0, .null) := by decide +kernel
theorem x_108_143 : Tr sc d 108 (143, [some (.ref xk), l1, l2, l3, l4, l5, l6], [.ref k0], h) Q = Tr sc d 108 (144, [some (.ref xk), l1, l2, l3, l4, l5, l6], [.ref xk, .ref k0], h) Q := t_aload_n k_108_143 rfl
theorem k_108_144 : lk 108 144 = some (.getfield 11, 147, 9, 0, .null) := by decide +kernel
theorem x_108_144 : Tr sc d 108 (144, [l0, l1, l2, l3, l4, l5, l6], [.ref k1, .ref k0], h) Q = (okp h k1 9 = true ∧ ∃ q, hR h k1 0 = some q ∧ Tr sc d 108 (147, [l0, l1, l2, l3, l4, l5, l6], [.ref q, .ref k0], h) Q) := t_getr k_108_144
theorem k_108_147 : lk 108 147 = some (.iload_n 2, 148, 2, 0, .null) := by decide +kernel
theorem x_108_147 : Tr sc d 108 (147, [l0, l1, some (.int x), l3, l4, l5, l6], [.ref k1, .ref k0], h) Q = Tr sc d 108 (148, [l0, l1, some (.int x), l3, l4, l5, l6], [.int x, .ref k1, .ref k0], h) Q := t_iload_n k_108_147 rfl
theorem k_108_148 : lk 108 148 = some (.aaload, 149, 0, 0, .null) := by decide +kernel
theorem x_108_148 : Tr sc d 108 (148, [l0, l1, l2, l3, l4, l5, l6], [.int i2, .ref k1, .ref k0], h) Q = (((okp h k1 14 || okp h k1 15) && inb i2 (LN k1)) = true ∧ ∃ q, hR h k1 i2.toNatClampNeg = some q ∧ Tr sc d 108 (149, [l0, l1, l2, l3, l4, l5, l6], [.ref q, .ref k0], h) Q) := t_aald k_108_148
theorem k_108_149 : lk 108 149 = some (.invokevirtual 192, 152, 55, 1, .null) := by decide +kernel
theorem x_108_149 : Tr sc (d + 1) 108 (149, [l0, l1, l2, l3, l4, l5, l6], [.ref k1, .ref k0], h) Q = (okp h k0 6 = true ∧ Tr sc d 55 (ent0 55 [.ref k0, .ref k1] h) (fun z => Tr sc (d + 1) 108 (152, [l0, l1, l2, l3, l4, l5, l6], z.1.toList ++ [], z.2) Q)) := t_cv (as := [.ref k1]) (r := []) k_108_149 rfl rfl (Nat.le_of_ble_eq_true rfl) (Nat.le_of_ble_eq_true rfl) (Nat.le_of_ble_eq_true rfl)
theorem k_108_152 : lk 108 152 = some (.aload_n 0, 153, 0, 0, .null) := by decide +kernel
theorem x_108_152 : Tr sc d 108 (152, [some (.ref xk), l1, l2, l3, l4, l5, l6], [], h) Q = Tr sc d 108 (153, [some (.ref xk), l1, l2, l3, l4, l5, l6], [.ref xk], h) Q := t_aload_n k_108_152 rfl
theorem k_108_153 : lk 108 153 = some (.iload_n 1, 154, 1, 0, .null) := by decide +kernel
theorem x_108_153 : Tr sc d 108 (153, [l0, some (.int x), l2, l3, l4, l5, l6], [.ref k0], h) Q = Tr sc d 108 (154, [l0, some (.int x), l2, l3, l4, l5, l6], [.int x, .ref k0], h) Q := t_iload_n k_108_153 rfl
theorem k_108_154 : lk 108 154 = some (.invokevirtual 162, 157, 150, 1, .null) := by decide +kernel
theorem x_108_154 : Tr sc (d + 1) 108 (154, [l0, l1, l2, l3, l4, l5, l6], [.int i1, .ref k0], h) Q = (okp h k0 9 = true ∧ Tr sc d 150 (ent0 150 [.ref k0, .int i1] h) (fun z => Tr sc (d + 1) 108 (157, [l0, l1, l2, l3, l4, l5, l6], z.1.toList ++ [], z.2) Q)) := t_cv (as := [.int i1]) (r := []) k_108_154 rfl rfl (Nat.le_of_ble_eq_true rfl) (Nat.le_of_ble_eq_true rfl) (Nat.le_of_ble_eq_true rfl)
theorem k_108_157 : lk 108 157 = some (.ireturn, 158, 0, 0, .null) := by decide +kernel
theorem x_108_157 : Tr sc d 108 (157, [l0, l1, l2, l3, l4, l5, l6], [.int i0], h) Q = Q (some (.int i0), h) := t_ret k_108_157 (by rw [r_108]; rfl)
theorem e_108 : Tr sc d 108 (ent0 108 [.ref k0, .int i1, .int i2] h) Q = Tr sc d 108 (0, [some (.ref k0), some (.int i1), some (.int i2), none, none, none, none], [], h) Q := by
  have e : mL 108 = 7 := by decide +kernel
  unfold ent0
  rw [e]
  rfl
theorem r_109 : mR 109 = some .int := by decide +kernel
theorem k_109_0 : lk 109 0 = some (.aload_n 0, 1, 0, 0, .null) := by decide +kernel
theorem x_109_0 : Tr sc d 109 (0, [some (.ref xk), l1, l2], [], h) Q = Tr sc d 109 (1, [some (.ref xk), l1, l2], [.ref xk], h) Q := t_aload_n k_109_0 rfl
theorem k_109_1 : lk 109 1 = some (.iload_n 1, 2, 1, 0, .null) := by decide +kernel
theorem x_109_1 : Tr sc d 109 (1, [l0, some (.int x), l2], [.ref k0], h) Q = Tr sc d 109 (2, [l0, some (.int x), l2], [.int x, .ref k0], h) Q := t_iload_n k_109_1 rfl
theorem k_109_2 : lk 109 2 = some (.iconst 1, 3, 0, 0, .int 1) := by decide +kernel
theorem x_109_2 : Tr sc d 109 (2, [l0, l1, l2], [.int i1, .ref k0], h) Q = Tr sc d 109 (3, [l0, l1, l2], [.int 1, .int i1, .ref k0], h) Q := t_go k_109_2 rfl
theorem k_109_3 : lk 109 3 = some (.invokevirtual 196, 6, 146, 2, .null) := by decide +kernel
theorem x_109_3 : Tr sc (d + 1) 109 (3, [l0, l1, l2], [.int i2, .int i1, .ref k0], h) Q = (okp h k0 9 = true ∧ Tr sc d 146 (ent0 146 [.ref k0, .int i1, .int i2] h) (fun z => Tr sc (d + 1) 109 (6, [l0, l1, l2], z.1.toList ++ [], z.2) Q)) := t_cv (as := [.int i1, .int i2]) (r := []) k_109_3 rfl rfl (Nat.le_of_ble_eq_true rfl) (Nat.le_of_ble_eq_true rfl) (Nat.le_of_ble_eq_true rfl)
theorem k_109_6 : lk 109 6 = some (.istore_n 2, 7, 2, 0, .null) := by decide +kernel
theorem x_109_6 : Tr sc d 109 (6, [l0, l1, l2], [.int i0], h) Q = Tr sc d 109 (7, [l0, cl2 l1, some (.int i0)], [], h) Q := t_istore_n k_109_6 (Nat.le_of_ble_eq_true rfl)
theorem k_109_7 : lk 109 7 = some (.iload_n 2, 8, 2, 0, .null) := by decide +kernel
theorem x_109_7 : Tr sc d 109 (7, [l0, l1, some (.int x)], [], h) Q = Tr sc d 109 (8, [l0, l1, some (.int x)], [.int x], h) Q := t_iload_n k_109_7 rfl
theorem k_109_8 : lk 109 8 = some (.ifCond .eq 5, 11, 13, 0, .null) := by decide +kernel
theorem x_109_8 : Tr sc d 109 (8, [l0, l1, l2], [.int i0], h) Q = if i0 = 0 then Tr sc d 109 (13, [l0, l1, l2], [], h) Q else Tr sc d 109 (11, [l0, l1, l2], [], h) Q := t_if k_109_8 rfl
theorem k_109_11 : lk 109 11 = some (.iload_n 2, 12, 2, 0, .null) := by decide +kernel
theorem x_109_11 : Tr sc d 109 (11, [l0, l1, some (.int x)], [], h) Q = Tr sc d 109 (12, [l0, l1, some (.int x)], [.int x], h) Q := t_iload_n k_109_11 rfl
theorem k_109_12 : lk 109 12 = some (.ireturn, 13, 0, 0, .null) := by decide +kernel
theorem x_109_12 : Tr sc d 109 (12, [l0, l1, l2], [.int i0], h) Q = Q (some (.int i0), h) := t_ret k_109_12 (by rw [r_109]; rfl)
theorem k_109_13 : lk 109 13 = some (.aload_n 0, 14, 0, 0, .null) := by decide +kernel
theorem x_109_13 : Tr sc d 109 (13, [some (.ref xk), l1, l2], [], h) Q = Tr sc d 109 (14, [some (.ref xk), l1, l2], [.ref xk], h) Q := t_aload_n k_109_13 rfl
theorem k_109_14 : lk 109 14 = some (.getfield 20, 17, 9, 2, .null) := by decide +kernel
theorem x_109_14 : Tr sc d 109 (14, [l0, l1, l2], [.ref k0], h) Q = (okp h k0 9 = true ∧ ∃ q, hR h k0 2 = some q ∧ Tr sc d 109 (17, [l0, l1, l2], [.ref q], h) Q) := t_getr k_109_14
theorem k_109_17 : lk 109 17 = some (.iload_n 1, 18, 1, 0, .null) := by decide +kernel
theorem x_109_17 : Tr sc d 109 (17, [l0, some (.int x), l2], [.ref k0], h) Q = Tr sc d 109 (18, [l0, some (.int x), l2], [.int x, .ref k0], h) Q := t_iload_n k_109_17 rfl
theorem k_109_18 : lk 109 18 = some (.aaload, 19, 0, 0, .null) := by decide +kernel
theorem x_109_18 : Tr sc d 109 (18, [l0, l1, l2], [.int i1, .ref k0], h) Q = (((okp h k0 14 || okp h k0 15) && inb i1 (LN k0)) = true ∧ ∃ q, hR h k0 i1.toNatClampNeg = some q ∧ Tr sc d 109 (19, [l0, l1, l2], [.ref q], h) Q) := t_aald k_109_18
theorem k_109_19 : lk 109 19 = some (.iconst (-1), 20, 0, 0, .int (-1)) := by decide +kernel
theorem x_109_19 : Tr sc d 109 (19, [l0, l1, l2], [.ref k0], h) Q = Tr sc d 109 (20, [l0, l1, l2], [.int (-1), .ref k0], h) Q := t_go k_109_19 rfl
theorem k_109_20 : lk 109 20 = some (.putfield 200, 23, 6, 6, .int 0) := by decide +kernel
theorem x_109_20 : Tr sc d 109 (20, [l0, l1, l2], [.int i1, .ref k0], h) Q = (okp h k0 6 = true ∧ Tr sc d 109 (23, [l0, l1, l2], [], (sI h k0 6 i1)) Q) := t_gd k_109_20 rfl
theorem k_109_23 : lk 109 23 = some (.iconst 1, 24, 0, 0, .int 1) := by decide +kernel
theorem x_109_23 : Tr sc d 109 (23, [l0, l1, l2], [], h) Q = Tr sc d 109 (24, [l0, l1, l2], [.int 1], h) Q := t_go k_109_23 rfl
theorem k_109_24 : lk 109 24 = some (.ireturn, 25, 0, 0, .null) := by decide +kernel
theorem x_109_24 : Tr sc d 109 (24, [l0, l1, l2], [.int i0], h) Q = Q (some (.int i0), h) := t_ret k_109_24 (by rw [r_109]; rfl)
theorem e_109 : Tr sc d 109 (ent0 109 [.ref k0, .int i1] h) Q = Tr sc d 109 (0, [some (.ref k0), some (.int i1), none], [], h) Q := by
  have e : mL 109 = 3 := by decide +kernel
  unfold ent0
  rw [e]
  rfl
theorem r_110 : mR 110 = some .int := by decide +kernel
theorem k_110_0 : lk 110 0 = some (.aload_n 0, 1, 0, 0, .null) := by decide +kernel
theorem x_110_0 : Tr sc d 110 (0, [some (.ref xk), l1, l2, l3, l4], [], h) Q = Tr sc d 110 (1, [some (.ref xk), l1, l2, l3, l4], [.ref xk], h) Q := t_aload_n k_110_0 rfl
theorem k_110_1 : lk 110 1 = some (.iload_n 1, 2, 1, 0, .null) := by decide +kernel
theorem x_110_1 : Tr sc d 110 (1, [l0, some (.int x), l2, l3, l4], [.ref k0], h) Q = Tr sc d 110 (2, [l0, some (.int x), l2, l3, l4], [.int x, .ref k0], h) Q := t_iload_n k_110_1 rfl
theorem k_110_2 : lk 110 2 = some (.iload_n 2, 3, 2, 0, .null) := by decide +kernel
theorem x_110_2 : Tr sc d 110 (2, [l0, l1, some (.int x), l3, l4], [.int i1, .ref k0], h) Q = Tr sc d 110 (3, [l0, l1, some (.int x), l3, l4], [.int x, .int i1, .ref k0], h) Q := t_iload_n k_110_2 rfl
theorem k_110_3 : lk 110 3 = some (.ifCond .lt 12, 6, 15, 0, .null) := by decide +kernel
theorem x_110_3 : Tr sc d 110 (3, [l0, l1, l2, l3, l4], [.int i2, .int i1, .ref k0], h) Q = if i2 < 0 then Tr sc d 110 (15, [l0, l1, l2, l3, l4], [.int i1, .ref k0], h) Q else Tr sc d 110 (6, [l0, l1, l2, l3, l4], [.int i1, .ref k0], h) Q := t_if k_110_3 rfl
theorem k_110_6 : lk 110 6 = some (.iload_n 2, 7, 2, 0, .null) := by decide +kernel
theorem x_110_6 : Tr sc d 110 (6, [l0, l1, some (.int x), l3, l4], [.int i1, .ref k0], h) Q = Tr sc d 110 (7, [l0, l1, some (.int x), l3, l4], [.int x, .int i1, .ref k0], h) Q := t_iload_n k_110_6 rfl
theorem k_110_7 : lk 110 7 = some (.iconst 2, 8, 0, 0, .int 2) := by decide +kernel
theorem x_110_7 : Tr sc d 110 (7, [l0, l1, l2, l3, l4], [.int i2, .int i1, .ref k0], h) Q = Tr sc d 110 (8, [l0, l1, l2, l3, l4], [.int 2, .int i2, .int i1, .ref k0], h) Q := t_go k_110_7 rfl
theorem k_110_8 : lk 110 8 = some (.if_icmp .gt 7, 11, 15, 0, .null) := by decide +kernel
theorem x_110_8 : Tr sc d 110 (8, [l0, l1, l2, l3, l4], [.int i3, .int i2, .int i1, .ref k0], h) Q = if i3 < i2 then Tr sc d 110 (15, [l0, l1, l2, l3, l4], [.int i1, .ref k0], h) Q else Tr sc d 110 (11, [l0, l1, l2, l3, l4], [.int i1, .ref k0], h) Q := t_if k_110_8 rfl
theorem k_110_11 : lk 110 11 = some (.iconst 1, 12, 0, 0, .int 1) := by decide +kernel
theorem x_110_11 : Tr sc d 110 (11, [l0, l1, l2, l3, l4], [.int i1, .ref k0], h) Q = Tr sc d 110 (12, [l0, l1, l2, l3, l4], [.int 1, .int i1, .ref k0], h) Q := t_go k_110_11 rfl
theorem k_110_12 : lk 110 12 = some (.goto 4, 15, 16, 0, .null) := by decide +kernel
theorem x_110_12 : Tr sc d 110 (12, [l0, l1, l2, l3, l4], [.int i2, .int i1, .ref k0], h) Q = Tr sc d 110 (16, [l0, l1, l2, l3, l4], [.int i2, .int i1, .ref k0], h) Q := t_go k_110_12 rfl
theorem k_110_15 : lk 110 15 = some (.iconst 0, 16, 0, 0, .int 0) := by decide +kernel
theorem x_110_15 : Tr sc d 110 (15, [l0, l1, l2, l3, l4], [.int i1, .ref k0], h) Q = Tr sc d 110 (16, [l0, l1, l2, l3, l4], [.int 0, .int i1, .ref k0], h) Q := t_go k_110_15 rfl
theorem k_110_16 : lk 110 16 = some (.invokevirtual 196, 19, 146, 2, .null) := by decide +kernel
theorem x_110_16 : Tr sc (d + 1) 110 (16, [l0, l1, l2, l3, l4], [.int i2, .int i1, .ref k0], h) Q = (okp h k0 9 = true ∧ Tr sc d 146 (ent0 146 [.ref k0, .int i1, .int i2] h) (fun z => Tr sc (d + 1) 110 (19, [l0, l1, l2, l3, l4], z.1.toList ++ [], z.2) Q)) := t_cv (as := [.int i1, .int i2]) (r := []) k_110_16 rfl rfl (Nat.le_of_ble_eq_true rfl) (Nat.le_of_ble_eq_true rfl) (Nat.le_of_ble_eq_true rfl)
theorem k_110_19 : lk 110 19 = some (.istore_n 3, 20, 3, 0, .null) := by decide +kernel
theorem x_110_19 : Tr sc d 110 (19, [l0, l1, l2, l3, l4], [.int i0], h) Q = Tr sc d 110 (20, [l0, l1, cl2 l2, some (.int i0), l4], [], h) Q := t_istore_n k_110_19 (Nat.le_of_ble_eq_true rfl)
theorem k_110_20 : lk 110 20 = some (.iload_n 3, 21, 3, 0, .null) := by decide +kernel
theorem x_110_20 : Tr sc d 110 (20, [l0, l1, l2, some (.int x), l4], [], h) Q = Tr sc d 110 (21, [l0, l1, l2, some (.int x), l4], [.int x], h) Q := t_iload_n k_110_20 rfl
theorem k_110_21 : lk 110 21 = some (.ifCond .eq 5, 24, 26, 0, .null) := by decide +kernel
theorem x_110_21 : Tr sc d 110 (21, [l0, l1, l2, l3, l4], [.int i0], h) Q = if i0 = 0 then Tr sc d 110 (26, [l0, l1, l2, l3, l4], [], h) Q else Tr sc d 110 (24, [l0, l1, l2, l3, l4], [], h) Q := t_if k_110_21 rfl
theorem k_110_24 : lk 110 24 = some (.iload_n 3, 25, 3, 0, .null) := by decide +kernel
theorem x_110_24 : Tr sc d 110 (24, [l0, l1, l2, some (.int x), l4], [], h) Q = Tr sc d 110 (25, [l0, l1, l2, some (.int x), l4], [.int x], h) Q := t_iload_n k_110_24 rfl
theorem k_110_25 : lk 110 25 = some (.ireturn, 26, 0, 0, .null) := by decide +kernel
theorem x_110_25 : Tr sc d 110 (25, [l0, l1, l2, l3, l4], [.int i0], h) Q = Q (some (.int i0), h) := t_ret k_110_25 (by rw [r_110]; rfl)
theorem k_110_26 : lk 110 26 = some (.aload_n 0, 27, 0, 0, .null) := by decide +kernel
theorem x_110_26 : Tr sc d 110 (26, [some (.ref xk), l1, l2, l3, l4], [], h) Q = Tr sc d 110 (27, [some (.ref xk), l1, l2, l3, l4], [.ref xk], h) Q := t_aload_n k_110_26 rfl
theorem k_110_27 : lk 110 27 = some (.getfield 20, 30, 9, 2, .null) := by decide +kernel
theorem x_110_27 : Tr sc d 110 (27, [l0, l1, l2, l3, l4], [.ref k0], h) Q = (okp h k0 9 = true ∧ ∃ q, hR h k0 2 = some q ∧ Tr sc d 110 (30, [l0, l1, l2, l3, l4], [.ref q], h) Q) := t_getr k_110_27
theorem k_110_30 : lk 110 30 = some (.iload_n 1, 31, 1, 0, .null) := by decide +kernel
theorem x_110_30 : Tr sc d 110 (30, [l0, some (.int x), l2, l3, l4], [.ref k0], h) Q = Tr sc d 110 (31, [l0, some (.int x), l2, l3, l4], [.int x, .ref k0], h) Q := t_iload_n k_110_30 rfl
theorem k_110_31 : lk 110 31 = some (.aaload, 32, 0, 0, .null) := by decide +kernel
theorem x_110_31 : Tr sc d 110 (31, [l0, l1, l2, l3, l4], [.int i1, .ref k0], h) Q = (((okp h k0 14 || okp h k0 15) && inb i1 (LN k0)) = true ∧ ∃ q, hR h k0 i1.toNatClampNeg = some q ∧ Tr sc d 110 (32, [l0, l1, l2, l3, l4], [.ref q], h) Q) := t_aald k_110_31
theorem k_110_32 : lk 110 32 = some (.astore 4, 34, 4, 0, .null) := by decide +kernel
theorem x_110_32 : Tr sc d 110 (32, [l0, l1, l2, l3, l4], [.ref k0], h) Q = Tr sc d 110 (34, [l0, l1, l2, cl2 l3, some (.ref k0)], [], h) Q := t_astore k_110_32 (Nat.le_of_ble_eq_true rfl)
theorem k_110_34 : lk 110 34 = some (.aload_n 0, 35, 0, 0, .null) := by decide +kernel
theorem x_110_34 : Tr sc d 110 (34, [some (.ref xk), l1, l2, l3, l4], [], h) Q = Tr sc d 110 (35, [some (.ref xk), l1, l2, l3, l4], [.ref xk], h) Q := t_aload_n k_110_34 rfl
theorem k_110_35 : lk 110 35 = some (.iload_n 2, 36, 2, 0, .null) := by decide +kernel
theorem x_110_35 : Tr sc d 110 (35, [l0, l1, some (.int x), l3, l4], [.ref k0], h) Q = Tr sc d 110 (36, [l0, l1, some (.int x), l3, l4], [.int x, .ref k0], h) Q := t_iload_n k_110_35 rfl
theorem k_110_36 : lk 110 36 = some (.ifCond .ne 11, 39, 47, 0, .null) := by decide +kernel
theorem x_110_36 : Tr sc d 110 (36, [l0, l1, l2, l3, l4], [.int i1, .ref k0], h) Q = if i1 = 0 then Tr sc d 110 (39, [l0, l1, l2, l3, l4], [.ref k0], h) Q else Tr sc d 110 (47, [l0, l1, l2, l3, l4], [.ref k0], h) Q := t_if k_110_36 rfl
theorem k_110_39 : lk 110 39 = some (.aload 4, 41, 4, 0, .null) := by decide +kernel
theorem x_110_39 : Tr sc d 110 (39, [l0, l1, l2, l3, some (.ref xk)], [.ref k0], h) Q = Tr sc d 110 (41, [l0, l1, l2, l3, some (.ref xk)], [.ref xk, .ref k0], h) Q := t_aload k_110_39 rfl
theorem k_110_41 : lk 110 41 = some (.getfield 200, 44, 6, 6, .int 0) := by decide +kernel
theorem x_110_41 : Tr sc d 110 (41, [l0, l1, l2, l3, l4], [.ref k1, .ref k0], h) Q = (okp h k1 6 = true ∧ Tr sc d 110 (44, [l0, l1, l2, l3, l4], [.int (hI h k1 6), .ref k0], h) Q) := t_gd k_110_41 rfl
theorem k_110_44 : lk 110 44 = some (.goto 21, 47, 65, 0, .null) := by decide +kernel
theorem x_110_44 : Tr sc d 110 (44, [l0, l1, l2, l3, l4], [.int i1, .ref k0], h) Q = Tr sc d 110 (65, [l0, l1, l2, l3, l4], [.int i1, .ref k0], h) Q := t_go k_110_44 rfl
theorem k_110_47 : lk 110 47 = some (.iload_n 2, 48, 2, 0, .null) := by decide +kernel
theorem x_110_47 : Tr sc d 110 (47, [l0, l1, some (.int x), l3, l4], [.ref k0], h) Q = Tr sc d 110 (48, [l0, l1, some (.int x), l3, l4], [.int x, .ref k0], h) Q := t_iload_n k_110_47 rfl
theorem k_110_48 : lk 110 48 = some (.iconst 1, 49, 0, 0, .int 1) := by decide +kernel
theorem x_110_48 : Tr sc d 110 (48, [l0, l1, l2, l3, l4], [.int i1, .ref k0], h) Q = Tr sc d 110 (49, [l0, l1, l2, l3, l4], [.int 1, .int i1, .ref k0], h) Q := t_go k_110_48 rfl
theorem k_110_49 : lk 110 49 = some (.if_icmp .ne 11, 52, 60, 0, .null) := by decide +kernel
theorem x_110_49 : Tr sc d 110 (49, [l0, l1, l2, l3, l4], [.int i2, .int i1, .ref k0], h) Q = if i1 = i2 then Tr sc d 110 (52, [l0, l1, l2, l3, l4], [.ref k0], h) Q else Tr sc d 110 (60, [l0, l1, l2, l3, l4], [.ref k0], h) Q := t_if k_110_49 rfl
theorem k_110_52 : lk 110 52 = some (.aload 4, 54, 4, 0, .null) := by decide +kernel
theorem x_110_52 : Tr sc d 110 (52, [l0, l1, l2, l3, some (.ref xk)], [.ref k0], h) Q = Tr sc d 110 (54, [l0, l1, l2, l3, some (.ref xk)], [.ref xk, .ref k0], h) Q := t_aload k_110_52 rfl
theorem k_110_54 : lk 110 54 = some (.getfield 203, 57, 6, 7, .int 0) := by decide +kernel
theorem x_110_54 : Tr sc d 110 (54, [l0, l1, l2, l3, l4], [.ref k1, .ref k0], h) Q = (okp h k1 6 = true ∧ Tr sc d 110 (57, [l0, l1, l2, l3, l4], [.int (hI h k1 7), .ref k0], h) Q) := t_gd k_110_54 rfl
theorem k_110_57 : lk 110 57 = some (.goto 8, 60, 65, 0, .null) := by decide +kernel
theorem x_110_57 : Tr sc d 110 (57, [l0, l1, l2, l3, l4], [.int i1, .ref k0], h) Q = Tr sc d 110 (65, [l0, l1, l2, l3, l4], [.int i1, .ref k0], h) Q := t_go k_110_57 rfl
theorem k_110_60 : lk 110 60 = some (.aload 4, 62, 4, 0, .null) := by decide +kernel
theorem x_110_60 : Tr sc d 110 (60, [l0, l1, l2, l3, some (.ref xk)], [.ref k0], h) Q = Tr sc d 110 (62, [l0, l1, l2, l3, some (.ref xk)], [.ref xk, .ref k0], h) Q := t_aload k_110_60 rfl
theorem k_110_62 : lk 110 62 = some (.getfield 181, 65, 6, 8, .int 0) := by decide +kernel
theorem x_110_62 : Tr sc d 110 (62, [l0, l1, l2, l3, l4], [.ref k1, .ref k0], h) Q = (okp h k1 6 = true ∧ Tr sc d 110 (65, [l0, l1, l2, l3, l4], [.int (hI h k1 8), .ref k0], h) Q) := t_gd k_110_62 rfl
theorem k_110_65 : lk 110 65 = some (.putfield 98, 68, 9, 15, .int 0) := by decide +kernel
theorem x_110_65 : Tr sc d 110 (65, [l0, l1, l2, l3, l4], [.int i1, .ref k0], h) Q = (okp h k0 9 = true ∧ Tr sc d 110 (68, [l0, l1, l2, l3, l4], [], (sI h k0 15 i1)) Q) := t_gd k_110_65 rfl
theorem k_110_68 : lk 110 68 = some (.iconst 1, 69, 0, 0, .int 1) := by decide +kernel
theorem x_110_68 : Tr sc d 110 (68, [l0, l1, l2, l3, l4], [], h) Q = Tr sc d 110 (69, [l0, l1, l2, l3, l4], [.int 1], h) Q := t_go k_110_68 rfl
theorem k_110_69 : lk 110 69 = some (.ireturn, 70, 0, 0, .null) := by decide +kernel
theorem x_110_69 : Tr sc d 110 (69, [l0, l1, l2, l3, l4], [.int i0], h) Q = Q (some (.int i0), h) := t_ret k_110_69 (by rw [r_110]; rfl)
theorem e_110 : Tr sc d 110 (ent0 110 [.ref k0, .int i1, .int i2] h) Q = Tr sc d 110 (0, [some (.ref k0), some (.int i1), some (.int i2), none, none], [], h) Q := by
  have e : mL 110 = 5 := by decide +kernel
  unfold ent0
  rw [e]
  rfl
theorem r_111 : mR 111 = some .int := by decide +kernel
theorem k_111_0 : lk 111 0 = some (.aload_n 0, 1, 0, 0, .null) := by decide +kernel
theorem x_111_0 : Tr sc d 111 (0, [some (.ref xk), l1, l2, l3, l4, l5], [], h) Q = Tr sc d 111 (1, [some (.ref xk), l1, l2, l3, l4, l5], [.ref xk], h) Q := t_aload_n k_111_0 rfl
theorem k_111_1 : lk 111 1 = some (.iload_n 1, 2, 1, 0, .null) := by decide +kernel
theorem x_111_1 : Tr sc d 111 (1, [l0, some (.int x), l2, l3, l4, l5], [.ref k0], h) Q = Tr sc d 111 (2, [l0, some (.int x), l2, l3, l4, l5], [.int x, .ref k0], h) Q := t_iload_n k_111_1 rfl
theorem k_111_2 : lk 111 2 = some (.iload_n 3, 3, 3, 0, .null) := by decide +kernel
theorem x_111_2 : Tr sc d 111 (2, [l0, l1, l2, some (.int x), l4, l5], [.int i1, .ref k0], h) Q = Tr sc d 111 (3, [l0, l1, l2, some (.int x), l4, l5], [.int x, .int i1, .ref k0], h) Q := t_iload_n k_111_2 rfl
theorem k_111_3 : lk 111 3 = some (.ifCond .lt 12, 6, 15, 0, .null) := by decide +kernel
theorem x_111_3 : Tr sc d 111 (3, [l0, l1, l2, l3, l4, l5], [.int i2, .int i1, .ref k0], h) Q = if i2 < 0 then Tr sc d 111 (15, [l0, l1, l2, l3, l4, l5], [.int i1, .ref k0], h) Q else Tr sc d 111 (6, [l0, l1, l2, l3, l4, l5], [.int i1, .ref k0], h) Q := t_if k_111_3 rfl
theorem k_111_6 : lk 111 6 = some (.iload_n 3, 7, 3, 0, .null) := by decide +kernel
theorem x_111_6 : Tr sc d 111 (6, [l0, l1, l2, some (.int x), l4, l5], [.int i1, .ref k0], h) Q = Tr sc d 111 (7, [l0, l1, l2, some (.int x), l4, l5], [.int x, .int i1, .ref k0], h) Q := t_iload_n k_111_6 rfl
theorem k_111_7 : lk 111 7 = some (.iconst 2, 8, 0, 0, .int 2) := by decide +kernel
theorem x_111_7 : Tr sc d 111 (7, [l0, l1, l2, l3, l4, l5], [.int i2, .int i1, .ref k0], h) Q = Tr sc d 111 (8, [l0, l1, l2, l3, l4, l5], [.int 2, .int i2, .int i1, .ref k0], h) Q := t_go k_111_7 rfl
theorem k_111_8 : lk 111 8 = some (.if_icmp .gt 7, 11, 15, 0, .null) := by decide +kernel
theorem x_111_8 : Tr sc d 111 (8, [l0, l1, l2, l3, l4, l5], [.int i3, .int i2, .int i1, .ref k0], h) Q = if i3 < i2 then Tr sc d 111 (15, [l0, l1, l2, l3, l4, l5], [.int i1, .ref k0], h) Q else Tr sc d 111 (11, [l0, l1, l2, l3, l4, l5], [.int i1, .ref k0], h) Q := t_if k_111_8 rfl
theorem k_111_11 : lk 111 11 = some (.iconst 1, 12, 0, 0, .int 1) := by decide +kernel
theorem x_111_11 : Tr sc d 111 (11, [l0, l1, l2, l3, l4, l5], [.int i1, .ref k0], h) Q = Tr sc d 111 (12, [l0, l1, l2, l3, l4, l5], [.int 1, .int i1, .ref k0], h) Q := t_go k_111_11 rfl
theorem k_111_12 : lk 111 12 = some (.goto 4, 15, 16, 0, .null) := by decide +kernel
theorem x_111_12 : Tr sc d 111 (12, [l0, l1, l2, l3, l4, l5], [.int i2, .int i1, .ref k0], h) Q = Tr sc d 111 (16, [l0, l1, l2, l3, l4, l5], [.int i2, .int i1, .ref k0], h) Q := t_go k_111_12 rfl
theorem k_111_15 : lk 111 15 = some (.iconst 0, 16, 0, 0, .int 0) := by decide +kernel
theorem x_111_15 : Tr sc d 111 (15, [l0, l1, l2, l3, l4, l5], [.int i1, .ref k0], h) Q = Tr sc d 111 (16, [l0, l1, l2, l3, l4, l5], [.int 0, .int i1, .ref k0], h) Q := t_go k_111_15 rfl
theorem k_111_16 : lk 111 16 = some (.invokevirtual 196, 19, 146, 2, .null) := by decide +kernel
theorem x_111_16 : Tr sc (d + 1) 111 (16, [l0, l1, l2, l3, l4, l5], [.int i2, .int i1, .ref k0], h) Q = (okp h k0 9 = true ∧ Tr sc d 146 (ent0 146 [.ref k0, .int i1, .int i2] h) (fun z => Tr sc (d + 1) 111 (19, [l0, l1, l2, l3, l4, l5], z.1.toList ++ [], z.2) Q)) := t_cv (as := [.int i1, .int i2]) (r := []) k_111_16 rfl rfl (Nat.le_of_ble_eq_true rfl) (Nat.le_of_ble_eq_true rfl) (Nat.le_of_ble_eq_true rfl)
theorem k_111_19 : lk 111 19 = some (.istore 4, 21, 4, 0, .null) := by decide +kernel
theorem x_111_19 : Tr sc d 111 (19, [l0, l1, l2, l3, l4, l5], [.int i0], h) Q = Tr sc d 111 (21, [l0, l1, l2, cl2 l3, some (.int i0), l5], [], h) Q := t_istore k_111_19 (Nat.le_of_ble_eq_true rfl)
theorem k_111_21 : lk 111 21 = some (.iload 4, 23, 4, 0, .null) := by decide +kernel
theorem x_111_21 : Tr sc d 111 (21, [l0, l1, l2, l3, some (.int x), l5], [], h) Q = Tr sc d 111 (23, [l0, l1, l2, l3, some (.int x), l5], [.int x], h) Q := t_iload k_111_21 rfl
theorem k_111_23 : lk 111 23 = some (.ifCond .eq 6, 26, 29, 0, .null) := by decide +kernel
theorem x_111_23 : Tr sc d 111 (23, [l0, l1, l2, l3, l4, l5], [.int i0], h) Q = if i0 = 0 then Tr sc d 111 (29, [l0, l1, l2, l3, l4, l5], [], h) Q else Tr sc d 111 (26, [l0, l1, l2, l3, l4, l5], [], h) Q := t_if k_111_23 rfl
theorem k_111_26 : lk 111 26 = some (.iload 4, 28, 4, 0, .null) := by decide +kernel
theorem x_111_26 : Tr sc d 111 (26, [l0, l1, l2, l3, some (.int x), l5], [], h) Q = Tr sc d 111 (28, [l0, l1, l2, l3, some (.int x), l5], [.int x], h) Q := t_iload k_111_26 rfl
theorem k_111_28 : lk 111 28 = some (.ireturn, 29, 0, 0, .null) := by decide +kernel
theorem x_111_28 : Tr sc d 111 (28, [l0, l1, l2, l3, l4, l5], [.int i0], h) Q = Q (some (.int i0), h) := t_ret k_111_28 (by rw [r_111]; rfl)
theorem k_111_29 : lk 111 29 = some (.aload_n 0, 30, 0, 0, .null) := by decide +kernel
theorem x_111_29 : Tr sc d 111 (29, [some (.ref xk), l1, l2, l3, l4, l5], [], h) Q = Tr sc d 111 (30, [some (.ref xk), l1, l2, l3, l4, l5], [.ref xk], h) Q := t_aload_n k_111_29 rfl
theorem k_111_30 : lk 111 30 = some (.getfield 20, 33, 9, 2, .null) := by decide +kernel
theorem x_111_30 : Tr sc d 111 (30, [l0, l1, l2, l3, l4, l5], [.ref k0], h) Q = (okp h k0 9 = true ∧ ∃ q, hR h k0 2 = some q ∧ Tr sc d 111 (33, [l0, l1, l2, l3, l4, l5], [.ref q], h) Q) := t_getr k_111_30
theorem k_111_33 : lk 111 33 = some (.iload_n 1, 34, 1, 0, .null) := by decide +kernel
theorem x_111_33 : Tr sc d 111 (33, [l0, some (.int x), l2, l3, l4, l5], [.ref k0], h) Q = Tr sc d 111 (34, [l0, some (.int x), l2, l3, l4, l5], [.int x, .ref k0], h) Q := t_iload_n k_111_33 rfl
theorem k_111_34 : lk 111 34 = some (.aaload, 35, 0, 0, .null) := by decide +kernel
theorem x_111_34 : Tr sc d 111 (34, [l0, l1, l2, l3, l4, l5], [.int i1, .ref k0], h) Q = (((okp h k0 14 || okp h k0 15) && inb i1 (LN k0)) = true ∧ ∃ q, hR h k0 i1.toNatClampNeg = some q ∧ Tr sc d 111 (35, [l0, l1, l2, l3, l4, l5], [.ref q], h) Q) := t_aald k_111_34
theorem k_111_35 : lk 111 35 = some (.astore 5, 37, 5, 0, .null) := by decide +kernel
theorem x_111_35 : Tr sc d 111 (35, [l0, l1, l2, l3, l4, l5], [.ref k0], h) Q = Tr sc d 111 (37, [l0, l1, l2, l3, cl2 l4, some (.ref k0)], [], h) Q := t_astore k_111_35 (Nat.le_of_ble_eq_true rfl)
theorem k_111_37 : lk 111 37 = some (.aload 5, 39, 5, 0, .null) := by decide +kernel
theorem x_111_37 : Tr sc d 111 (37, [l0, l1, l2, l3, l4, some (.ref xk)], [], h) Q = Tr sc d 111 (39, [l0, l1, l2, l3, l4, some (.ref xk)], [.ref xk], h) Q := t_aload k_111_37 rfl
theorem k_111_39 : lk 111 39 = some (.iload_n 2, 40, 2, 0, .null) := by decide +kernel
theorem x_111_39 : Tr sc d 111 (39, [l0, l1, some (.int x), l3, l4, l5], [.ref k0], h) Q = Tr sc d 111 (40, [l0, l1, some (.int x), l3, l4, l5], [.int x, .ref k0], h) Q := t_iload_n k_111_39 rfl
theorem k_111_40 : lk 111 40 = some (.invokevirtual 206, 43, 50, 1, .null) := by decide +kernel
theorem x_111_40 : Tr sc (d + 1) 111 (40, [l0, l1, l2, l3, l4, l5], [.int i1, .ref k0], h) Q = (okp h k0 6 = true ∧ Tr sc d 50 (ent0 50 [.ref k0, .int i1] h) (fun z => Tr sc (d + 1) 111 (43, [l0, l1, l2, l3, l4, l5], z.1.toList ++ [], z.2) Q)) := t_cv (as := [.int i1]) (r := []) k_111_40 rfl rfl (Nat.le_of_ble_eq_true rfl) (Nat.le_of_ble_eq_true rfl) (Nat.le_of_ble_eq_true rfl)
theorem k_111_43 : lk 111 43 = some (.ifCond .ne 9, 46, 52, 0, .null) := by decide +kernel
theorem x_111_43 : Tr sc d 111 (43, [l0, l1, l2, l3, l4, l5], [.int i0], h) Q = if i0 = 0 then Tr sc d 111 (46, [l0, l1, l2, l3, l4, l5], [], h) Q else Tr sc d 111 (52, [l0, l1, l2, l3, l4, l5], [], h) Q := t_if k_111_43 rfl
theorem k_111_46 : lk 111 46 = some (.aload_n 0, 47, 0, 0, .null) := by decide +kernel
theorem x_111_46 : Tr sc d 111 (46, [some (.ref xk), l1, l2, l3, l4, l5], [], h) Q = Tr sc d 111 (47, [some (.ref xk), l1, l2, l3, l4, l5], [.ref xk], h) Q := t_aload_n k_111_46 rfl
theorem k_111_47 : lk 111 47 = some (.iconst 2, 48, 0, 0, .int 2) := by decide +kernel
theorem x_111_47 : Tr sc d 111 (47, [l0, l1, l2, l3, l4, l5], [.ref k0], h) Q = Tr sc d 111 (48, [l0, l1, l2, l3, l4, l5], [.int 2, .ref k0], h) Q := t_go k_111_47 rfl
theorem k_111_48 : lk 111 48 = some (.invokevirtual 118, 51, 145, 1, .null) := by decide +kernel
theorem x_111_48 : Tr sc (d + 1) 111 (48, [l0, l1, l2, l3, l4, l5], [.int i1, .ref k0], h) Q = (okp h k0 9 = true ∧ Tr sc d 145 (ent0 145 [.ref k0, .int i1] h) (fun z => Tr sc (d + 1) 111 (51, [l0, l1, l2, l3, l4, l5], z.1.toList ++ [], z.2) Q)) := t_cv (as := [.int i1]) (r := []) k_111_48 rfl rfl (Nat.le_of_ble_eq_true rfl) (Nat.le_of_ble_eq_true rfl) (Nat.le_of_ble_eq_true rfl)
theorem k_111_51 : lk 111 51 = some (.ireturn, 52, 0, 0, .null) := by decide +kernel
theorem x_111_51 : Tr sc d 111 (51, [l0, l1, l2, l3, l4, l5], [.int i0], h) Q = Q (some (.int i0), h) := t_ret k_111_51 (by rw [r_111]; rfl)
theorem k_111_52 : lk 111 52 = some (.aload_n 0, 53, 0, 0, .null) := by decide +kernel
theorem x_111_52 : Tr sc d 111 (52, [some (.ref xk), l1, l2, l3, l4, l5], [], h) Q = Tr sc d 111 (53, [some (.ref xk), l1, l2, l3, l4, l5], [.ref xk], h) Q := t_aload_n k_111_52 rfl
theorem k_111_53 : lk 111 53 = some (.iload_n 3, 54, 3, 0, .null) := by decide +kernel
theorem x_111_53 : Tr sc d 111 (53, [l0, l1, l2, some (.int x), l4, l5], [.ref k0], h) Q = Tr sc d 111 (54, [l0, l1, l2, some (.int x), l4, l5], [.int x, .ref k0], h) Q := t_iload_n k_111_53 rfl
theorem k_111_54 : lk 111 54 = some (.ifCond .ne 13, 57, 67, 0, .null) := by decide +kernel
theorem x_111_54 : Tr sc d 111 (54, [l0, l1, l2, l3, l4, l5], [.int i1, .ref k0], h) Q = if i1 = 0 then Tr sc d 111 (57, [l0, l1, l2, l3, l4, l5], [.ref k0], h) Q else Tr sc d 111 (67, [l0, l1, l2, l3, l4, l5], [.ref k0], h) Q := t_if k_111_54 rfl
theorem k_111_57 : lk 111 57 = some (.aload 5, 59, 5, 0, .null) := by decide +kernel
theorem x_111_57 : Tr sc d 111 (57, [l0, l1, l2, l3, l4, some (.ref xk)], [.ref k0], h) Q = Tr sc d 111 (59, [l0, l1, l2, l3, l4, some (.ref xk)], [.ref xk, .ref k0], h) Q := t_aload k_111_57 rfl
theorem k_111_59 : lk 111 59 = some (.getfield 209, 62, 6, 0, .null) := by decide +kernel
theorem x_111_59 : Tr sc d 111 (59, [l0, l1, l2, l3, l4, l5], [.ref k1, .ref k0], h) Q = (okp h k1 6 = true ∧ ∃ q, hR h k1 0 = some q ∧ Tr sc d 111 (62, [l0, l1, l2, l3, l4, l5], [.ref q, .ref k0], h) Q) := t_getr k_111_59
theorem k_111_62 : lk 111 62 = some (.iload_n 2, 63, 2, 0, .null) := by decide +kernel
theorem x_111_62 : Tr sc d 111 (62, [l0, l1, some (.int x), l3, l4, l5], [.ref k1, .ref k0], h) Q = Tr sc d 111 (63, [l0, l1, some (.int x), l3, l4, l5], [.int x, .ref k1, .ref k0], h) Q := t_iload_n k_111_62 rfl
theorem k_111_63 : lk 111 63 = some (.iaload, 64, 0, 0, .null) := by decide +kernel
theorem x_111_63 : Tr sc d 111 (63, [l0, l1, l2, l3, l4, l5], [.int i2, .ref k1, .ref k0], h) Q = (iOk sc h k1 i2 ∧ Tr sc d 111 (64, [l0, l1, l2, l3, l4, l5], [.int (iRd sc h k1 i2), .ref k0], h) Q) := t_iald k_111_63
theorem k_111_64 : lk 111 64 = some (.goto 25, 67, 89, 0, .null) := by decide +kernel
theorem x_111_64 : Tr sc d 111 (64, [l0, l1, l2, l3, l4, l5], [.int i1, .ref k0], h) Q = Tr sc d 111 (89, [l0, l1, l2, l3, l4, l5], [.int i1, .ref k0], h) Q := t_go k_111_64 rfl
theorem k_111_67 : lk 111 67 = some (.iload_n 3, 68, 3, 0, .null) := by decide +kernel
theorem x_111_67 : Tr sc d 111 (67, [l0, l1, l2, some (.int x), l4, l5], [.ref k0], h) Q = Tr sc d 111 (68, [l0, l1, l2, some (.int x), l4, l5], [.int x, .ref k0], h) Q := t_iload_n k_111_67 rfl
theorem k_111_68 : lk 111 68 = some (.iconst 1, 69, 0, 0, .int 1) := by decide +kernel
theorem x_111_68 : Tr sc d 111 (68, [l0, l1, l2, l3, l4, l5], [.int i1, .ref k0], h) Q = Tr sc d 111 (69, [l0, l1, l2, l3, l4, l5], [.int 1, .int i1, .ref k0], h) Q := t_go k_111_68 rfl
theorem k_111_69 : lk 111 69 = some (.if_icmp .ne 13, 72, 82, 0, .null) := by decide +kernel
theorem x_111_69 : Tr sc d 111 (69, [l0, l1, l2, l3, l4, l5], [.int i2, .int i1, .ref k0], h) Q = if i1 = i2 then Tr sc d 111 (72, [l0, l1, l2, l3, l4, l5], [.ref k0], h) Q else Tr sc d 111 (82, [l0, l1, l2, l3, l4, l5], [.ref k0], h) Q := t_if k_111_69 rfl
theorem k_111_72 : lk 111 72 = some (.aload 5, 74, 5, 0, .null) := by decide +kernel
theorem x_111_72 : Tr sc d 111 (72, [l0, l1, l2, l3, l4, some (.ref xk)], [.ref k0], h) Q = Tr sc d 111 (74, [l0, l1, l2, l3, l4, some (.ref xk)], [.ref xk, .ref k0], h) Q := t_aload k_111_72 rfl
theorem k_111_74 : lk 111 74 = some (.getfield 212, 77, 6, 1, .null) := by decide +kernel
theorem x_111_74 : Tr sc d 111 (74, [l0, l1, l2, l3, l4, l5], [.ref k1, .ref k0], h) Q = (okp h k1 6 = true ∧ ∃ q, hR h k1 1 = some q ∧ Tr sc d 111 (77, [l0, l1, l2, l3, l4, l5], [.ref q, .ref k0], h) Q) := t_getr k_111_74
theorem k_111_77 : lk 111 77 = some (.iload_n 2, 78, 2, 0, .null) := by decide +kernel
theorem x_111_77 : Tr sc d 111 (77, [l0, l1, some (.int x), l3, l4, l5], [.ref k1, .ref k0], h) Q = Tr sc d 111 (78, [l0, l1, some (.int x), l3, l4, l5], [.int x, .ref k1, .ref k0], h) Q := t_iload_n k_111_77 rfl
theorem k_111_78 : lk 111 78 = some (.iaload, 79, 0, 0, .null) := by decide +kernel
theorem x_111_78 : Tr sc d 111 (78, [l0, l1, l2, l3, l4, l5], [.int i2, .ref k1, .ref k0], h) Q = (iOk sc h k1 i2 ∧ Tr sc d 111 (79, [l0, l1, l2, l3, l4, l5], [.int (iRd sc h k1 i2), .ref k0], h) Q) := t_iald k_111_78
theorem k_111_79 : lk 111 79 = some (.goto 10, 82, 89, 0, .null) := by decide +kernel
theorem x_111_79 : Tr sc d 111 (79, [l0, l1, l2, l3, l4, l5], [.int i1, .ref k0], h) Q = Tr sc d 111 (89, [l0, l1, l2, l3, l4, l5], [.int i1, .ref k0], h) Q := t_go k_111_79 rfl
theorem k_111_82 : lk 111 82 = some (.aload 5, 84, 5, 0, .null) := by decide +kernel
theorem x_111_82 : Tr sc d 111 (82, [l0, l1, l2, l3, l4, some (.ref xk)], [.ref k0], h) Q = Tr sc d 111 (84, [l0, l1, l2, l3, l4, some (.ref xk)], [.ref xk, .ref k0], h) Q := t_aload k_111_82 rfl
theorem k_111_84 : lk 111 84 = some (.getfield 215, 87, 6, 2, .null) := by decide +kernel
theorem x_111_84 : Tr sc d 111 (84, [l0, l1, l2, l3, l4, l5], [.ref k1, .ref k0], h) Q = (okp h k1 6 = true ∧ ∃ q, hR h k1 2 = some q ∧ Tr sc d 111 (87, [l0, l1, l2, l3, l4, l5], [.ref q, .ref k0], h) Q) := t_getr k_111_84
theorem k_111_87 : lk 111 87 = some (.iload_n 2, 88, 2, 0, .null) := by decide +kernel
theorem x_111_87 : Tr sc d 111 (87, [l0, l1, some (.int x), l3, l4, l5], [.ref k1, .ref k0], h) Q = Tr sc d 111 (88, [l0, l1, some (.int x), l3, l4, l5], [.int x, .ref k1, .ref k0], h) Q := t_iload_n k_111_87 rfl
theorem k_111_88 : lk 111 88 = some (.iaload, 89, 0, 0, .null) := by decide +kernel
theorem x_111_88 : Tr sc d 111 (88, [l0, l1, l2, l3, l4, l5], [.int i2, .ref k1, .ref k0], h) Q = (iOk sc h k1 i2 ∧ Tr sc d 111 (89, [l0, l1, l2, l3, l4, l5], [.int (iRd sc h k1 i2), .ref k0], h) Q) := t_iald k_111_88
theorem k_111_89 : lk 111 89 = some (.putfield 98, 92, 9, 15, .int 0) := by decide +kernel
theorem x_111_89 : Tr sc d 111 (89, [l0, l1, l2, l3, l4, l5], [.int i1, .ref k0], h) Q = (okp h k0 9 = true ∧ Tr sc d 111 (92, [l0, l1, l2, l3, l4, l5], [], (sI h k0 15 i1)) Q) := t_gd k_111_89 rfl
theorem k_111_92 : lk 111 92 = some (.iconst 1, 93, 0, 0, .int 1) := by decide +kernel
theorem x_111_92 : Tr sc d 111 (92, [l0, l1, l2, l3, l4, l5], [], h) Q = Tr sc d 111 (93, [l0, l1, l2, l3, l4, l5], [.int 1], h) Q := t_go k_111_92 rfl
theorem k_111_93 : lk 111 93 = some (.ireturn, 94, 0, 0, .null) := by decide +kernel
theorem x_111_93 : Tr sc d 111 (93, [l0, l1, l2, l3, l4, l5], [.int i0], h) Q = Q (some (.int i0), h) := t_ret k_111_93 (by rw [r_111]; rfl)
theorem e_111 : Tr sc d 111 (ent0 111 [.ref k0, .int i1, .int i2, .int i3] h) Q = Tr sc d 111 (0, [some (.ref k0), some (.int i1), some (.int i2), some (.int i3), none, none], [], h) Q := by
  have e : mL 111 = 6 := by decide +kernel
  unfold ent0
  rw [e]
  rfl
theorem r_112 : mR 112 = some .int := by decide +kernel
theorem k_112_0 : lk 112 0 = some (.aload_n 0, 1, 0, 0, .null) := by decide +kernel
theorem x_112_0 : Tr sc d 112 (0, [some (.ref xk), l1, l2, l3, l4], [], h) Q = Tr sc d 112 (1, [some (.ref xk), l1, l2, l3, l4], [.ref xk], h) Q := t_aload_n k_112_0 rfl
theorem k_112_1 : lk 112 1 = some (.iload_n 1, 2, 1, 0, .null) := by decide +kernel
theorem x_112_1 : Tr sc d 112 (1, [l0, some (.int x), l2, l3, l4], [.ref k0], h) Q = Tr sc d 112 (2, [l0, some (.int x), l2, l3, l4], [.int x, .ref k0], h) Q := t_iload_n k_112_1 rfl
theorem k_112_2 : lk 112 2 = some (.iload_n 2, 3, 2, 0, .null) := by decide +kernel
theorem x_112_2 : Tr sc d 112 (2, [l0, l1, some (.int x), l3, l4], [.int i1, .ref k0], h) Q = Tr sc d 112 (3, [l0, l1, some (.int x), l3, l4], [.int x, .int i1, .ref k0], h) Q := t_iload_n k_112_2 rfl
theorem k_112_3 : lk 112 3 = some (.iconst 1, 4, 0, 0, .int 1) := by decide +kernel
theorem x_112_3 : Tr sc d 112 (3, [l0, l1, l2, l3, l4], [.int i2, .int i1, .ref k0], h) Q = Tr sc d 112 (4, [l0, l1, l2, l3, l4], [.int 1, .int i2, .int i1, .ref k0], h) Q := t_go k_112_3 rfl
theorem k_112_4 : lk 112 4 = some (.if_icmp .lt 12, 7, 16, 0, .null) := by decide +kernel
theorem x_112_4 : Tr sc d 112 (4, [l0, l1, l2, l3, l4], [.int i3, .int i2, .int i1, .ref k0], h) Q = if i2 < i3 then Tr sc d 112 (16, [l0, l1, l2, l3, l4], [.int i1, .ref k0], h) Q else Tr sc d 112 (7, [l0, l1, l2, l3, l4], [.int i1, .ref k0], h) Q := t_if k_112_4 rfl
theorem k_112_7 : lk 112 7 = some (.iload_n 2, 8, 2, 0, .null) := by decide +kernel
theorem x_112_7 : Tr sc d 112 (7, [l0, l1, some (.int x), l3, l4], [.int i1, .ref k0], h) Q = Tr sc d 112 (8, [l0, l1, some (.int x), l3, l4], [.int x, .int i1, .ref k0], h) Q := t_iload_n k_112_7 rfl
theorem k_112_8 : lk 112 8 = some (.iconst 4, 9, 0, 0, .int 4) := by decide +kernel
theorem x_112_8 : Tr sc d 112 (8, [l0, l1, l2, l3, l4], [.int i2, .int i1, .ref k0], h) Q = Tr sc d 112 (9, [l0, l1, l2, l3, l4], [.int 4, .int i2, .int i1, .ref k0], h) Q := t_go k_112_8 rfl
theorem k_112_9 : lk 112 9 = some (.if_icmp .gt 7, 12, 16, 0, .null) := by decide +kernel
theorem x_112_9 : Tr sc d 112 (9, [l0, l1, l2, l3, l4], [.int i3, .int i2, .int i1, .ref k0], h) Q = if i3 < i2 then Tr sc d 112 (16, [l0, l1, l2, l3, l4], [.int i1, .ref k0], h) Q else Tr sc d 112 (12, [l0, l1, l2, l3, l4], [.int i1, .ref k0], h) Q := t_if k_112_9 rfl
theorem k_112_12 : lk 112 12 = some (.iconst 1, 13, 0, 0, .int 1) := by decide +kernel
theorem x_112_12 : Tr sc d 112 (12, [l0, l1, l2, l3, l4], [.int i1, .ref k0], h) Q = Tr sc d 112 (13, [l0, l1, l2, l3, l4], [.int 1, .int i1, .ref k0], h) Q := t_go k_112_12 rfl
theorem k_112_13 : lk 112 13 = some (.goto 4, 16, 17, 0, .null) := by decide +kernel
theorem x_112_13 : Tr sc d 112 (13, [l0, l1, l2, l3, l4], [.int i2, .int i1, .ref k0], h) Q = Tr sc d 112 (17, [l0, l1, l2, l3, l4], [.int i2, .int i1, .ref k0], h) Q := t_go k_112_13 rfl
theorem k_112_16 : lk 112 16 = some (.iconst 0, 17, 0, 0, .int 0) := by decide +kernel
theorem x_112_16 : Tr sc d 112 (16, [l0, l1, l2, l3, l4], [.int i1, .ref k0], h) Q = Tr sc d 112 (17, [l0, l1, l2, l3, l4], [.int 0, .int i1, .ref k0], h) Q := t_go k_112_16 rfl
theorem k_112_17 : lk 112 17 = some (.invokevirtual 196, 20, 146, 2, .null) := by decide +kernel
theorem x_112_17 : Tr sc (d + 1) 112 (17, [l0, l1, l2, l3, l4], [.int i2, .int i1, .ref k0], h) Q = (okp h k0 9 = true ∧ Tr sc d 146 (ent0 146 [.ref k0, .int i1, .int i2] h) (fun z => Tr sc (d + 1) 112 (20, [l0, l1, l2, l3, l4], z.1.toList ++ [], z.2) Q)) := t_cv (as := [.int i1, .int i2]) (r := []) k_112_17 rfl rfl (Nat.le_of_ble_eq_true rfl) (Nat.le_of_ble_eq_true rfl) (Nat.le_of_ble_eq_true rfl)
theorem k_112_20 : lk 112 20 = some (.istore_n 3, 21, 3, 0, .null) := by decide +kernel
theorem x_112_20 : Tr sc d 112 (20, [l0, l1, l2, l3, l4], [.int i0], h) Q = Tr sc d 112 (21, [l0, l1, cl2 l2, some (.int i0), l4], [], h) Q := t_istore_n k_112_20 (Nat.le_of_ble_eq_true rfl)
theorem k_112_21 : lk 112 21 = some (.iload_n 3, 22, 3, 0, .null) := by decide +kernel
theorem x_112_21 : Tr sc d 112 (21, [l0, l1, l2, some (.int x), l4], [], h) Q = Tr sc d 112 (22, [l0, l1, l2, some (.int x), l4], [.int x], h) Q := t_iload_n k_112_21 rfl
theorem k_112_22 : lk 112 22 = some (.ifCond .eq 5, 25, 27, 0, .null) := by decide +kernel
theorem x_112_22 : Tr sc d 112 (22, [l0, l1, l2, l3, l4], [.int i0], h) Q = if i0 = 0 then Tr sc d 112 (27, [l0, l1, l2, l3, l4], [], h) Q else Tr sc d 112 (25, [l0, l1, l2, l3, l4], [], h) Q := t_if k_112_22 rfl
theorem k_112_25 : lk 112 25 = some (.iload_n 3, 26, 3, 0, .null) := by decide +kernel
theorem x_112_25 : Tr sc d 112 (25, [l0, l1, l2, some (.int x), l4], [], h) Q = Tr sc d 112 (26, [l0, l1, l2, some (.int x), l4], [.int x], h) Q := t_iload_n k_112_25 rfl
theorem k_112_26 : lk 112 26 = some (.ireturn, 27, 0, 0, .null) := by decide +kernel
theorem x_112_26 : Tr sc d 112 (26, [l0, l1, l2, l3, l4], [.int i0], h) Q = Q (some (.int i0), h) := t_ret k_112_26 (by rw [r_112]; rfl)
theorem k_112_27 : lk 112 27 = some (.aload_n 0, 28, 0, 0, .null) := by decide +kernel
theorem x_112_27 : Tr sc d 112 (27, [some (.ref xk), l1, l2, l3, l4], [], h) Q = Tr sc d 112 (28, [some (.ref xk), l1, l2, l3, l4], [.ref xk], h) Q := t_aload_n k_112_27 rfl
theorem k_112_28 : lk 112 28 = some (.getfield 20, 31, 9, 2, .null) := by decide +kernel
theorem x_112_28 : Tr sc d 112 (28, [l0, l1, l2, l3, l4], [.ref k0], h) Q = (okp h k0 9 = true ∧ ∃ q, hR h k0 2 = some q ∧ Tr sc d 112 (31, [l0, l1, l2, l3, l4], [.ref q], h) Q) := t_getr k_112_28
theorem k_112_31 : lk 112 31 = some (.iload_n 1, 32, 1, 0, .null) := by decide +kernel
theorem x_112_31 : Tr sc d 112 (31, [l0, some (.int x), l2, l3, l4], [.ref k0], h) Q = Tr sc d 112 (32, [l0, some (.int x), l2, l3, l4], [.int x, .ref k0], h) Q := t_iload_n k_112_31 rfl
theorem k_112_32 : lk 112 32 = some (.aaload, 33, 0, 0, .null) := by decide +kernel
theorem x_112_32 : Tr sc d 112 (32, [l0, l1, l2, l3, l4], [.int i1, .ref k0], h) Q = (((okp h k0 14 || okp h k0 15) && inb i1 (LN k0)) = true ∧ ∃ q, hR h k0 i1.toNatClampNeg = some q ∧ Tr sc d 112 (33, [l0, l1, l2, l3, l4], [.ref q], h) Q) := t_aald k_112_32
theorem k_112_33 : lk 112 33 = some (.astore 4, 35, 4, 0, .null) := by decide +kernel
theorem x_112_33 : Tr sc d 112 (33, [l0, l1, l2, l3, l4], [.ref k0], h) Q = Tr sc d 112 (35, [l0, l1, l2, cl2 l3, some (.ref k0)], [], h) Q := t_astore k_112_33 (Nat.le_of_ble_eq_true rfl)
theorem k_112_35 : lk 112 35 = some (.iload_n 2, 36, 2, 0, .null) := by decide +kernel
theorem x_112_35 : Tr sc d 112 (35, [l0, l1, some (.int x), l3, l4], [], h) Q = Tr sc d 112 (36, [l0, l1, some (.int x), l3, l4], [.int x], h) Q := t_iload_n k_112_35 rfl
theorem k_112_36 : lk 112 36 = some (.iconst 1, 37, 0, 0, .int 1) := by decide +kernel
theorem x_112_36 : Tr sc d 112 (36, [l0, l1, l2, l3, l4], [.int i0], h) Q = Tr sc d 112 (37, [l0, l1, l2, l3, l4], [.int 1, .int i0], h) Q := t_go k_112_36 rfl
theorem k_112_37 : lk 112 37 = some (.if_icmp .ne 17, 40, 54, 0, .null) := by decide +kernel
theorem x_112_37 : Tr sc d 112 (37, [l0, l1, l2, l3, l4], [.int i1, .int i0], h) Q = if i0 = i1 then Tr sc d 112 (40, [l0, l1, l2, l3, l4], [], h) Q else Tr sc d 112 (54, [l0, l1, l2, l3, l4], [], h) Q := t_if k_112_37 rfl
theorem k_112_40 : lk 112 40 = some (.aload 4, 42, 4, 0, .null) := by decide +kernel
theorem x_112_40 : Tr sc d 112 (40, [l0, l1, l2, l3, some (.ref xk)], [], h) Q = Tr sc d 112 (42, [l0, l1, l2, l3, some (.ref xk)], [.ref xk], h) Q := t_aload k_112_40 rfl
theorem k_112_42 : lk 112 42 = some (.invokevirtual 218, 45, 49, 0, .null) := by decide +kernel
theorem x_112_42 : Tr sc (d + 1) 112 (42, [l0, l1, l2, l3, l4], [.ref k0], h) Q = (okp h k0 6 = true ∧ Tr sc d 49 (ent0 49 [.ref k0] h) (fun z => Tr sc (d + 1) 112 (45, [l0, l1, l2, l3, l4], z.1.toList ++ [], z.2) Q)) := t_cv (as := []) (r := []) k_112_42 rfl rfl (Nat.le_of_ble_eq_true rfl) (Nat.le_of_ble_eq_true rfl) (Nat.le_of_ble_eq_true rfl)
theorem k_112_45 : lk 112 45 = some (.ifCond .eq 9, 48, 54, 0, .null) := by decide +kernel
theorem x_112_45 : Tr sc d 112 (45, [l0, l1, l2, l3, l4], [.int i0], h) Q = if i0 = 0 then Tr sc d 112 (54, [l0, l1, l2, l3, l4], [], h) Q else Tr sc d 112 (48, [l0, l1, l2, l3, l4], [], h) Q := t_if k_112_45 rfl
theorem k_112_48 : lk 112 48 = some (.aload 4, 50, 4, 0, .null) := by decide +kernel
theorem x_112_48 : Tr sc d 112 (48, [l0, l1, l2, l3, some (.ref xk)], [], h) Q = Tr sc d 112 (50, [l0, l1, l2, l3, some (.ref xk)], [.ref xk], h) Q := t_aload k_112_48 rfl
theorem k_112_50 : lk 112 50 = some (.invokevirtual 221, 53, 64, 0, .null) := by decide +kernel
theorem x_112_50 : Tr sc (d + 1) 112 (50, [l0, l1, l2, l3, l4], [.ref k0], h) Q = (okp h k0 6 = true ∧ Tr sc d 64 (ent0 64 [.ref k0] h) (fun z => Tr sc (d + 1) 112 (53, [l0, l1, l2, l3, l4], z.1.toList ++ [], z.2) Q)) := t_cv (as := []) (r := []) k_112_50 rfl rfl (Nat.le_of_ble_eq_true rfl) (Nat.le_of_ble_eq_true rfl) (Nat.le_of_ble_eq_true rfl)
theorem k_112_53 : lk 112 53 = some (.ireturn, 54, 0, 0, .null) := by decide +kernel
theorem x_112_53 : Tr sc d 112 (53, [l0, l1, l2, l3, l4], [.int i0], h) Q = Q (some (.int i0), h) := t_ret k_112_53 (by rw [r_112]; rfl)
theorem k_112_54 : lk 112 54 = some (.iload_n 2, 55, 2, 0, .null) := by decide +kernel
theorem x_112_54 : Tr sc d 112 (54, [l0, l1, some (.int x), l3, l4], [], h) Q = Tr sc d 112 (55, [l0, l1, some (.int x), l3, l4], [.int x], h) Q := t_iload_n k_112_54 rfl
theorem k_112_55 : lk 112 55 = some (.aload 4, 57, 4, 0, .null) := by decide +kernel
theorem x_112_55 : Tr sc d 112 (55, [l0, l1, l2, l3, some (.ref xk)], [.int i0], h) Q = Tr sc d 112 (57, [l0, l1, l2, l3, some (.ref xk)], [.ref xk, .int i0], h) Q := t_aload k_112_55 rfl
theorem k_112_57 : lk 112 57 = some (.getfield 200, 60, 6, 6, .int 0) := by decide +kernel
theorem x_112_57 : Tr sc d 112 (57, [l0, l1, l2, l3, l4], [.ref k1, .int i0], h) Q = (okp h k1 6 = true ∧ Tr sc d 112 (60, [l0, l1, l2, l3, l4], [.int (hI h k1 6), .int i0], h) Q) := t_gd k_112_57 rfl
theorem k_112_60 : lk 112 60 = some (.if_icmp .eq 9, 63, 69, 0, .null) := by decide +kernel
theorem x_112_60 : Tr sc d 112 (60, [l0, l1, l2, l3, l4], [.int i1, .int i0], h) Q = if i0 = i1 then Tr sc d 112 (69, [l0, l1, l2, l3, l4], [], h) Q else Tr sc d 112 (63, [l0, l1, l2, l3, l4], [], h) Q := t_if k_112_60 rfl
theorem k_112_63 : lk 112 63 = some (.aload_n 0, 64, 0, 0, .null) := by decide +kernel
theorem x_112_63 : Tr sc d 112 (63, [some (.ref xk), l1, l2, l3, l4], [], h) Q = Tr sc d 112 (64, [some (.ref xk), l1, l2, l3, l4], [.ref xk], h) Q := t_aload_n k_112_63 rfl
theorem k_112_64 : lk 112 64 = some (.iconst 3, 65, 0, 0, .int 3) := by decide +kernel
theorem x_112_64 : Tr sc d 112 (64, [l0, l1, l2, l3, l4], [.ref k0], h) Q = Tr sc d 112 (65, [l0, l1, l2, l3, l4], [.int 3, .ref k0], h) Q := t_go k_112_64 rfl
theorem k_112_65 : lk 112 65 = some (.invokevirtual 118, 68, 145, 1, .null) := by decide +kernel
theorem x_112_65 : Tr sc (d + 1) 112 (65, [l0, l1, l2, l3, l4], [.int i1, .ref k0], h) Q = (okp h k0 9 = true ∧ Tr sc d 145 (ent0 145 [.ref k0, .int i1] h) (fun z => Tr sc (d + 1) 112 (68, [l0, l1, l2, l3, l4], z.1.toList ++ [], z.2) Q)) := t_cv (as := [.int i1]) (r := []) k_112_65 rfl rfl (Nat.le_of_ble_eq_true rfl) (Nat.le_of_ble_eq_true rfl) (Nat.le_of_ble_eq_true rfl)
theorem k_112_68 : lk 112 68 = some (.ireturn, 69, 0, 0, .null) := by decide +kernel
theorem x_112_68 : Tr sc d 112 (68, [l0, l1, l2, l3, l4], [.int i0], h) Q = Q (some (.int i0), h) := t_ret k_112_68 (by rw [r_112]; rfl)
theorem k_112_69 : lk 112 69 = some (.iload_n 2, 70, 2, 0, .null) := by decide +kernel
theorem x_112_69 : Tr sc d 112 (69, [l0, l1, some (.int x), l3, l4], [], h) Q = Tr sc d 112 (70, [l0, l1, some (.int x), l3, l4], [.int x], h) Q := t_iload_n k_112_69 rfl
theorem k_112_70 : lk 112 70 = some (.iconst 2, 71, 0, 0, .int 2) := by decide +kernel
theorem x_112_70 : Tr sc d 112 (70, [l0, l1, l2, l3, l4], [.int i0], h) Q = Tr sc d 112 (71, [l0, l1, l2, l3, l4], [.int 2, .int i0], h) Q := t_go k_112_70 rfl
theorem k_112_71 : lk 112 71 = some (.if_icmp .ne 11, 74, 82, 0, .null) := by decide +kernel
theorem x_112_71 : Tr sc d 112 (71, [l0, l1, l2, l3, l4], [.int i1, .int i0], h) Q = if i0 = i1 then Tr sc d 112 (74, [l0, l1, l2, l3, l4], [], h) Q else Tr sc d 112 (82, [l0, l1, l2, l3, l4], [], h) Q := t_if k_112_71 rfl
theorem k_112_74 : lk 112 74 = some (.aload 4, 76, 4, 0, .null) := by decide +kernel
theorem x_112_74 : Tr sc d 112 (74, [l0, l1, l2, l3, some (.ref xk)], [], h) Q = Tr sc d 112 (76, [l0, l1, l2, l3, some (.ref xk)], [.ref xk], h) Q := t_aload k_112_74 rfl
theorem k_112_76 : lk 112 76 = some (.getfield 181, 79, 6, 8, .int 0) := by decide +kernel
theorem x_112_76 : Tr sc d 112 (76, [l0, l1, l2, l3, l4], [.ref k0], h) Q = (okp h k0 6 = true ∧ Tr sc d 112 (79, [l0, l1, l2, l3, l4], [.int (hI h k0 8)], h) Q) := t_gd k_112_76 rfl
theorem k_112_79 : lk 112 79 = some (.goto 21, 82, 100, 0, .null) := by decide +kernel
theorem x_112_79 : Tr sc d 112 (79, [l0, l1, l2, l3, l4], [.int i0], h) Q = Tr sc d 112 (100, [l0, l1, l2, l3, l4], [.int i0], h) Q := t_go k_112_79 rfl
theorem k_112_82 : lk 112 82 = some (.iload_n 2, 83, 2, 0, .null) := by decide +kernel
theorem x_112_82 : Tr sc d 112 (82, [l0, l1, some (.int x), l3, l4], [], h) Q = Tr sc d 112 (83, [l0, l1, some (.int x), l3, l4], [.int x], h) Q := t_iload_n k_112_82 rfl
theorem k_112_83 : lk 112 83 = some (.iconst 3, 84, 0, 0, .int 3) := by decide +kernel
theorem x_112_83 : Tr sc d 112 (83, [l0, l1, l2, l3, l4], [.int i0], h) Q = Tr sc d 112 (84, [l0, l1, l2, l3, l4], [.int 3, .int i0], h) Q := t_go k_112_83 rfl
theorem k_112_84 : lk 112 84 = some (.if_icmp .ne 11, 87, 95, 0, .null) := by decide +kernel
theorem x_112_84 : Tr sc d 112 (84, [l0, l1, l2, l3, l4], [.int i1, .int i0], h) Q = if i0 = i1 then Tr sc d 112 (87, [l0, l1, l2, l3, l4], [], h) Q else Tr sc d 112 (95, [l0, l1, l2, l3, l4], [], h) Q := t_if k_112_84 rfl
theorem k_112_87 : lk 112 87 = some (.aload 4, 89, 4, 0, .null) := by decide +kernel
theorem x_112_87 : Tr sc d 112 (87, [l0, l1, l2, l3, some (.ref xk)], [], h) Q = Tr sc d 112 (89, [l0, l1, l2, l3, some (.ref xk)], [.ref xk], h) Q := t_aload k_112_87 rfl
theorem k_112_89 : lk 112 89 = some (.invokevirtual 177, 92, 57, 0, .null) := by decide +kernel
theorem x_112_89 : Tr sc (d + 1) 112 (89, [l0, l1, l2, l3, l4], [.ref k0], h) Q = (okp h k0 6 = true ∧ Tr sc d 57 (ent0 57 [.ref k0] h) (fun z => Tr sc (d + 1) 112 (92, [l0, l1, l2, l3, l4], z.1.toList ++ [], z.2) Q)) := t_cv (as := []) (r := []) k_112_89 rfl rfl (Nat.le_of_ble_eq_true rfl) (Nat.le_of_ble_eq_true rfl) (Nat.le_of_ble_eq_true rfl)
theorem k_112_92 : lk 112 92 = some (.goto 8, 95, 100, 0, .null) := by decide +kernel
theorem x_112_92 : Tr sc d 112 (92, [l0, l1, l2, l3, l4], [.int i0], h) Q = Tr sc d 112 (100, [l0, l1, l2, l3, l4], [.int i0], h) Q := t_go k_112_92 rfl
theorem k_112_95 : lk 112 95 = some (.aload 4, 97, 4, 0, .null) := by decide +kernel
theorem x_112_95 : Tr sc d 112 (95, [l0, l1, l2, l3, some (.ref xk)], [], h) Q = Tr sc d 112 (97, [l0, l1, l2, l3, some (.ref xk)], [.ref xk], h) Q := t_aload k_112_95 rfl
theorem k_112_97 : lk 112 97 = some (.invokevirtual 184, 100, 59, 0, .null) := by decide +kernel
theorem x_112_97 : Tr sc (d + 1) 112 (97, [l0, l1, l2, l3, l4], [.ref k0], h) Q = (okp h k0 6 = true ∧ Tr sc d 59 (ent0 59 [.ref k0] h) (fun z => Tr sc (d + 1) 112 (100, [l0, l1, l2, l3, l4], z.1.toList ++ [], z.2) Q)) := t_cv (as := []) (r := []) k_112_97 rfl rfl (Nat.le_of_ble_eq_true rfl) (Nat.le_of_ble_eq_true rfl) (Nat.le_of_ble_eq_true rfl)
theorem k_112_100 : lk 112 100 = some (.ireturn, 101, 0, 0, .null) := by decide +kernel
theorem x_112_100 : Tr sc d 112 (100, [l0, l1, l2, l3, l4], [.int i0], h) Q = Q (some (.int i0), h) := t_ret k_112_100 (by rw [r_112]; rfl)
theorem e_112 : Tr sc d 112 (ent0 112 [.ref k0, .int i1, .int i2] h) Q = Tr sc d 112 (0, [some (.ref k0), some (.int i1), some (.int i2), none, none], [], h) Q := by
  have e : mL 112 = 5 := by decide +kernel
  unfold ent0
  rw [e]
  rfl
theorem r_113 : mR 113 = some .int := by decide +kernel
theorem k_113_0 : lk 113 0 = some (.aload_n 0, 1, 0, 0, .null) := by decide +kernel
theorem x_113_0 : Tr sc d 113 (0, [some (.ref xk), l1, l2, l3, l4, l5], [], h) Q = Tr sc d 113 (1, [some (.ref xk), l1, l2, l3, l4, l5], [.ref xk], h) Q := t_aload_n k_113_0 rfl
theorem k_113_1 : lk 113 1 = some (.iload_n 1, 2, 1, 0, .null) := by decide +kernel
theorem x_113_1 : Tr sc d 113 (1, [l0, some (.int x), l2, l3, l4, l5], [.ref k0], h) Q = Tr sc d 113 (2, [l0, some (.int x), l2, l3, l4, l5], [.int x, .ref k0], h) Q := t_iload_n k_113_1 rfl
theorem k_113_2 : lk 113 2 = some (.iload_n 2, 3, 2, 0, .null) := by decide +kernel
theorem x_113_2 : Tr sc d 113 (2, [l0, l1, some (.int x), l3, l4, l5], [.int i1, .ref k0], h) Q = Tr sc d 113 (3, [l0, l1, some (.int x), l3, l4, l5], [.int x, .int i1, .ref k0], h) Q := t_iload_n k_113_2 rfl
theorem k_113_3 : lk 113 3 = some (.iload_n 3, 4, 3, 0, .null) := by decide +kernel
theorem x_113_3 : Tr sc d 113 (3, [l0, l1, l2, some (.int x), l4, l5], [.int i2, .int i1, .ref k0], h) Q = Tr sc d 113 (4, [l0, l1, l2, some (.int x), l4, l5], [.int x, .int i2, .int i1, .ref k0], h) Q := t_iload_n k_113_3 rfl
theorem k_113_4 : lk 113 4 = some (.iload_n 3, 5, 3, 0, .null) := by decide +kernel
theorem x_113_4 : Tr sc d 113 (4, [l0, l1, l2, some (.int x), l4, l5], [.int i3, .int i2, .int i1, .ref k0], h) Q = Tr sc d 113 (5, [l0, l1, l2, some (.int x), l4, l5], [.int x, .int i3, .int i2, .int i1, .ref k0], h) Q := t_iload_n k_113_4 rfl
theorem k_113_5 : lk 113 5 = some (.ifCond .lt 13, 8, 18, 0, .null) := by decide +kernel
theorem x_113_5 : Tr sc d 113 (5, [l0, l1, l2, l3, l4, l5], [.int i4, .int i3, .int i2, .int i1, .ref k0], h) Q = if i4 < 0 then Tr sc d 113 (18, [l0, l1, l2, l3, l4, l5], [.int i3, .int i2, .int i1, .ref k0], h) Q else Tr sc d 113 (8, [l0, l1, l2, l3, l4, l5], [.int i3, .int i2, .int i1, .ref k0], h) Q := t_if k_113_5 rfl
theorem k_113_8 : lk 113 8 = some (.iload_n 3, 9, 3, 0, .null) := by decide +kernel
theorem x_113_8 : Tr sc d 113 (8, [l0, l1, l2, some (.int x), l4, l5], [.int i3, .int i2, .int i1, .ref k0], h) Q = Tr sc d 113 (9, [l0, l1, l2, some (.int x), l4, l5], [.int x, .int i3, .int i2, .int i1, .ref k0], h) Q := t_iload_n k_113_8 rfl
theorem k_113_9 : lk 113 9 = some (.bipush 8, 11, 0, 0, .int 8) := by decide +kernel
theorem x_113_9 : Tr sc d 113 (9, [l0, l1, l2, l3, l4, l5], [.int i4, .int i3, .int i2, .int i1, .ref k0], h) Q = Tr sc d 113 (11, [l0, l1, l2, l3, l4, l5], [.int 8, .int i4, .int i3, .int i2, .int i1, .ref k0], h) Q := t_go k_113_9 rfl
theorem k_113_11 : lk 113 11 = some (.if_icmp .gt 7, 14, 18, 0, .null) := by decide +kernel
theorem x_113_11 : Tr sc d 113 (11, [l0, l1, l2, l3, l4, l5], [.int i5, .int i4, .int i3, .int i2, .int i1, .ref k0], h) Q = if i5 < i4 then Tr sc d 113 (18, [l0, l1, l2, l3, l4, l5], [.int i3, .int i2, .int i1, .ref k0], h) Q else Tr sc d 113 (14, [l0, l1, l2, l3, l4, l5], [.int i3, .int i2, .int i1, .ref k0], h) Q := t_if k_113_11 rfl
theorem k_113_14 : lk 113 14 = some (.iconst 1, 15, 0, 0, .int 1) := by decide +kernel
theorem x_113_14 : Tr sc d 113 (14, [l0, l1, l2, l3, l4, l5], [.int i3, .int i2, .int i1, .ref k0], h) Q = Tr sc d 113 (15, [l0, l1, l2, l3, l4, l5], [.int 1, .int i3, .int i2, .int i1, .ref k0], h) Q := t_go k_113_14 rfl
theorem k_113_15 : lk 113 15 = some (.goto 4, 18, 19, 0, .null) := by decide +kernel
theorem x_113_15 : Tr sc d 113 (15, [l0, l1, l2, l3, l4, l5], [.int i4, .int i3, .int i2, .int i1, .ref k0], h) Q = Tr sc d 113 (19, [l0, l1, l2, l3, l4, l5], [.int i4, .int i3, .int i2, .int i1, .ref k0], h) Q := t_go k_113_15 rfl
theorem k_113_18 : lk 113 18 = some (.iconst 0, 19, 0, 0, .int 0) := by decide +kernel
theorem x_113_18 : Tr sc d 113 (18, [l0, l1, l2, l3, l4, l5], [.int i3, .int i2, .int i1, .ref k0], h) Q = Tr sc d 113 (19, [l0, l1, l2, l3, l4, l5], [.int 0, .int i3, .int i2, .int i1, .ref k0], h) Q := t_go k_113_18 rfl
theorem k_113_19 : lk 113 19 = some (.invokevirtual 224, 22, 148, 4, .null) := by decide +kernel
theorem x_113_19 : Tr sc (d + 1) 113 (19, [l0, l1, l2, l3, l4, l5], [.int i4, .int i3, .int i2, .int i1, .ref k0], h) Q = (okp h k0 9 = true ∧ Tr sc d 148 (ent0 148 [.ref k0, .int i1, .int i2, .int i3, .int i4] h) (fun z => Tr sc (d + 1) 113 (22, [l0, l1, l2, l3, l4, l5], z.1.toList ++ [], z.2) Q)) := t_cv (as := [.int i1, .int i2, .int i3, .int i4]) (r := []) k_113_19 rfl rfl (Nat.le_of_ble_eq_true rfl) (Nat.le_of_ble_eq_true rfl) (Nat.le_of_ble_eq_true rfl)
theorem k_113_22 : lk 113 22 = some (.istore 5, 24, 5, 0, .null) := by decide +kernel
theorem x_113_22 : Tr sc d 113 (22, [l0, l1, l2, l3, l4, l5], [.int i0], h) Q = Tr sc d 113 (24, [l0, l1, l2, l3, cl2 l4, some (.int i0)], [], h) Q := t_istore k_113_22 (Nat.le_of_ble_eq_true rfl)
theorem k_113_24 : lk 113 24 = some (.iload 5, 26, 5, 0, .null) := by decide +kernel
theorem x_113_24 : Tr sc d 113 (24, [l0, l1, l2, l3, l4, some (.int x)], [], h) Q = Tr sc d 113 (26, [l0, l1, l2, l3, l4, some (.int x)], [.int x], h) Q := t_iload k_113_24 rfl
theorem k_113_26 : lk 113 26 = some (.ifCond .eq 6, 29, 32, 0, .null) := by decide +kernel
theorem x_113_26 : Tr sc d 113 (26, [l0, l1, l2, l3, l4, l5], [.int i0], h) Q = if i0 = 0 then Tr sc d 113 (32, [l0, l1, l2, l3, l4, l5], [], h) Q else Tr sc d 113 (29, [l0, l1, l2, l3, l4, l5], [], h) Q := t_if k_113_26 rfl
theorem k_113_29 : lk 113 29 = some (.iload 5, 31, 5, 0, .null) := by decide +kernel
theorem x_113_29 : Tr sc d 113 (29, [l0, l1, l2, l3, l4, some (.int x)], [], h) Q = Tr sc d 113 (31, [l0, l1, l2, l3, l4, some (.int x)], [.int x], h) Q := t_iload k_113_29 rfl
theorem k_113_31 : lk 113 31 = some (.ireturn, 32, 0, 0, .null) := by decide +kernel
theorem x_113_31 : Tr sc d 113 (31, [l0, l1, l2, l3, l4, l5], [.int i0], h) Q = Q (some (.int i0), h) := t_ret k_113_31 (by rw [r_113]; rfl)
theorem k_113_32 : lk 113 32 = some (.aload_n 0, 33, 0, 0, .null) := by decide +kernel
theorem x_113_32 : Tr sc d 113 (32, [some (.ref xk), l1, l2, l3, l4, l5], [], h) Q = Tr sc d 113 (33, [some (.ref xk), l1, l2, l3, l4, l5], [.ref xk], h) Q := t_aload_n k_113_32 rfl
theorem k_113_33 : lk 113 33 = some (.getfield 39, 36, 9, 5, .null) := by decide +kernel
theorem x_113_33 : Tr sc d 113 (33, [l0, l1, l2, l3, l4, l5], [.ref k0], h) Q = (okp h k0 9 = true ∧ ∃ q, hR h k0 5 = some q ∧ Tr sc d 113 (36, [l0, l1, l2, l3, l4, l5], [.ref q], h) Q) := t_getr k_113_33
theorem k_113_36 : lk 113 36 = some (.aload_n 0, 37, 0, 0, .null) := by decide +kernel
theorem x_113_36 : Tr sc d 113 (36, [some (.ref xk), l1, l2, l3, l4, l5], [.ref k0], h) Q = Tr sc d 113 (37, [some (.ref xk), l1, l2, l3, l4, l5], [.ref xk, .ref k0], h) Q := t_aload_n k_113_36 rfl
theorem k_113_37 : lk 113 37 = some (.getfield 20, 40, 9, 2, .null) := by decide +kernel
theorem x_113_37 : Tr sc d 113 (37, [l0, l1, l2, l3, l4, l5], [.ref k1, .ref k0], h) Q = (okp h k1 9 = true ∧ ∃ q, hR h k1 2 = some q ∧ Tr sc d 113 (40, [l0, l1, l2, l3, l4, l5], [.ref q, .ref k0], h) Q) := t_getr k_113_37
theorem k_113_40 : lk 113 40 = some (.iload_n 1, 41, 1, 0, .null) := by decide +kernel
theorem x_113_40 : Tr sc d 113 (40, [l0, some (.int x), l2, l3, l4, l5], [.ref k1, .ref k0], h) Q = Tr sc d 113 (41, [l0, some (.int x), l2, l3, l4, l5], [.int x, .ref k1, .ref k0], h) Q := t_iload_n k_113_40 rfl
theorem k_113_41 : lk 113 41 = some (.aaload, 42, 0, 0, .null) := by decide +kernel
theorem x_113_41 : Tr sc d 113 (41, [l0, l1, l2, l3, l4, l5], [.int i2, .ref k1, .ref k0], h) Q = (((okp h k1 14 || okp h k1 15) && inb i2 (LN k1)) = true ∧ ∃ q, hR h k1 i2.toNatClampNeg = some q ∧ Tr sc d 113 (42, [l0, l1, l2, l3, l4, l5], [.ref q, .ref k0], h) Q) := t_aald k_113_41
theorem k_113_42 : lk 113 42 = some (.aload_n 0, 43, 0, 0, .null) := by decide +kernel
theorem x_113_42 : Tr sc d 113 (42, [some (.ref xk), l1, l2, l3, l4, l5], [.ref k1, .ref k0], h) Q = Tr sc d 113 (43, [some (.ref xk), l1, l2, l3, l4, l5], [.ref xk, .ref k1, .ref k0], h) Q := t_aload_n k_113_42 rfl
theorem k_113_43 : lk 113 43 = some (.getfield 11, 46, 9, 0, .null) := by decide +kernel
theorem x_113_43 : Tr sc d 113 (43, [l0, l1, l2, l3, l4, l5], [.ref k2, .ref k1, .ref k0], h) Q = (okp h k2 9 = true ∧ ∃ q, hR h k2 0 = some q ∧ Tr sc d 113 (46, [l0, l1, l2, l3, l4, l5], [.ref q, .ref k1, .ref k0], h) Q) := t_getr k_113_43
theorem k_113_46 : lk 113 46 = some (.iload_n 2, 47, 2, 0, .null) := by decide +kernel
theorem x_113_46 : Tr sc d 113 (46, [l0, l1, some (.int x), l3, l4, l5], [.ref k2, .ref k1, .ref k0], h) Q = Tr sc d 113 (47, [l0, l1, some (.int x), l3, l4, l5], [.int x, .ref k2, .ref k1, .ref k0], h) Q := t_iload_n k_113_46 rfl
theorem k_113_47 : lk 113 47 = some (.aaload, 48, 0, 0, .null) := by decide +kernel
theorem x_113_47 : Tr sc d 113 (47, [l0, l1, l2, l3, l4, l5], [.int i3, .ref k2, .ref k1, .ref k0], h) Q = (((okp h k2 14 || okp h k2 15) && inb i3 (LN k2)) = true ∧ ∃ q, hR h k2 i3.toNatClampNeg = some q ∧ Tr sc d 113 (48, [l0, l1, l2, l3, l4, l5], [.ref q, .ref k1, .ref k0], h) Q) := t_aald k_113_47
theorem k_113_48 : lk 113 48 = some (.iconst 0, 49, 0, 0, .int 0) := by decide +kernel
theorem x_113_48 : Tr sc d 113 (48, [l0, l1, l2, l3, l4, l5], [.ref k2, .ref k1, .ref k0], h) Q = Tr sc d 113 (49, [l0, l1, l2, l3, l4, l5], [.int 0, .ref k2, .ref k1, .ref k0], h) Q := t_go k_113_48 rfl
theorem k_113_49 : lk 113 49 = some (.iload_n 3, 50, 3, 0, .null) := by decide +kernel
theorem x_113_49 : Tr sc d 113 (49, [l0, l1, l2, some (.int x), l4, l5], [.int i3, .ref k2, .ref k1, .ref k0], h) Q = Tr sc d 113 (50, [l0, l1, l2, some (.int x), l4, l5], [.int x, .int i3, .ref k2, .ref k1, .ref k0], h) Q := t_iload_n k_113_49 rfl
theorem k_113_50 : lk 113 50 = some (.invokevirtual 228, 53, 1, 4, .null) := by decide +kernel
theorem x_113_50 : Tr sc (d + 1) 113 (50, [l0, l1, l2, l3, l4, l5], [.int i4, .int i3, .ref k2, .ref k1, .ref k0], h) Q = (okp h k0 0 = true ∧ Tr sc d 1 (ent0 1 [.ref k0, .ref k1, .ref k2, .int i3, .int i4] h) (fun z => Tr sc (d + 1) 113 (53, [l0, l1, l2, l3, l4, l5], z.1.toList ++ [], z.2) Q)) := t_cv (as := [.ref k1, .ref k2, .int i3, .int i4]) (r := []) k_113_50 rfl rfl (Nat.le_of_ble_eq_true rfl) (Nat.le_of_ble_eq_true rfl) (Nat.le_of_ble_eq_true rfl)
theorem k_113_53 : lk 113 53 = some (.aload_n 0, 54, 0, 0, .null) := by decide +kernel
theorem x_113_53 : Tr sc d 113 (53, [some (.ref xk), l1, l2, l3, l4, l5], [], h) Q = Tr sc d 113 (54, [some (.ref xk), l1, l2, l3, l4, l5], [.ref xk], h) Q := t_aload_n k_113_53 rfl
theorem k_113_54 : lk 113 54 = some (.iload 4, 56, 4, 0, .null) := by decide +kernel
theorem x_113_54 : Tr sc d 113 (54, [l0, l1, l2, l3, some (.int x), l5], [.ref k0], h) Q = Tr sc d 113 (56, [l0, l1, l2, l3, some (.int x), l5], [.int x, .ref k0], h) Q := t_iload k_113_54 rfl
theorem k_113_56 : lk 113 56 = some (.ifCond .eq 13, 59, 69, 0, .null) := by decide +kernel
theorem x_113_56 : Tr sc d 113 (56, [l0, l1, l2, l3, l4, l5], [.int i1, .ref k0], h) Q = if i1 = 0 then Tr sc d 113 (69, [l0, l1, l2, l3, l4, l5], [.ref k0], h) Q else Tr sc d 113 (59, [l0, l1, l2, l3, l4, l5], [.ref k0], h) Q := t_if k_113_56 rfl
theorem k_113_59 : lk 113 59 = some (.aload_n 0, 60, 0, 0, .null) := by decide +kernel
theorem x_113_59 : Tr sc d 113 (59, [some (.ref xk), l1, l2, l3, l4, l5], [.ref k0], h) Q = Tr sc d 113 (60, [some (.ref xk), l1, l2, l3, l4, l5], [.ref xk, .ref k0], h) Q := t_aload_n k_113_59 rfl
theorem k_113_60 : lk 113 60 = some (.getfield 39, 63, 9, 5, .null) := by decide +kernel
theorem x_113_60 : Tr sc d 113 (60, [l0, l1, l2, l3, l4, l5], [.ref k1, .ref k0], h) Q = (okp h k1 9 = true ∧ ∃ q, hR h k1 5 = some q ∧ Tr sc d 113 (63, [l0, l1, l2, l3, l4, l5], [.ref q, .ref k0], h) Q) := t_getr k_113_60
theorem k_113_63 : lk 113 63 = some (.getfield 232, 66, 0, 5, .long 0) := by decide +kernel
theorem x_113_63 : Tr sc d 113 (63, [l0, l1, l2, l3, l4, l5], [.ref k1, .ref k0], h) Q = (okp h k1 0 = true ∧ Tr sc d 113 (66, [l0, l1, l2, l3, l4, l5], [.long (hL h k1 5), .ref k0], h) Q) := t_gd k_113_63 rfl
theorem k_113_66 : lk 113 66 = some (.goto 10, 69, 76, 0, .null) := by decide +kernel
theorem x_113_66 : Tr sc d 113 (66, [l0, l1, l2, l3, l4, l5], [.long j1, .ref k0], h) Q = Tr sc d 113 (76, [l0, l1, l2, l3, l4, l5], [.long j1, .ref k0], h) Q := t_go k_113_66 rfl
theorem k_113_69 : lk 113 69 = some (.aload_n 0, 70, 0, 0, .null) := by decide +kernel
theorem x_113_69 : Tr sc d 113 (69, [some (.ref xk), l1, l2, l3, l4, l5], [.ref k0], h) Q = Tr sc d 113 (70, [some (.ref xk), l1, l2, l3, l4, l5], [.ref xk, .ref k0], h) Q := t_aload_n k_113_69 rfl
theorem k_113_70 : lk 113 70 = some (.getfield 39, 73, 9, 5, .null) := by decide +kernel
theorem x_113_70 : Tr sc d 113 (70, [l0, l1, l2, l3, l4, l5], [.ref k1, .ref k0], h) Q = (okp h k1 9 = true ∧ ∃ q, hR h k1 5 = some q ∧ Tr sc d 113 (73, [l0, l1, l2, l3, l4, l5], [.ref q, .ref k0], h) Q) := t_getr k_113_70
theorem k_113_73 : lk 113 73 = some (.getfield 235, 76, 0, 4, .long 0) := by decide +kernel
theorem x_113_73 : Tr sc d 113 (73, [l0, l1, l2, l3, l4, l5], [.ref k1, .ref k0], h) Q = (okp h k1 0 = true ∧ Tr sc d 113 (76, [l0, l1, l2, l3, l4, l5], [.long (hL h k1 4), .ref k0], h) Q) := t_gd k_113_73 rfl
theorem k_113_76 : lk 113 76 = some (.l2i, 77, 0, 0, .null) := by decide +kernel
theorem x_113_76 : Tr sc d 113 (76, [l0, l1, l2, l3, l4, l5], [.long j1, .ref k0], h) Q = Tr sc d 113 (77, [l0, l1, l2, l3, l4, l5], [.int j1.toInt32, .ref k0], h) Q := t_go k_113_76 rfl
theorem k_113_77 : lk 113 77 = some (.putfield 98, 80, 9, 15, .int 0) := by decide +kernel
theorem x_113_77 : Tr sc d 113 (77, [l0, l1, l2, l3, l4, l5], [.int i1, .ref k0], h) Q = (okp h k0 9 = true ∧ Tr sc d 113 (80, [l0, l1, l2, l3, l4, l5], [], (sI h k0 15 i1)) Q) := t_gd k_113_77 rfl
theorem k_113_80 : lk 113 80 = some (.iconst 1, 81, 0, 0, .int 1) := by decide +kernel
theorem x_113_80 : Tr sc d 113 (80, [l0, l1, l2, l3, l4, l5], [], h) Q = Tr sc d 113 (81, [l0, l1, l2, l3, l4, l5], [.int 1], h) Q := t_go k_113_80 rfl
theorem k_113_81 : lk 113 81 = some (.ireturn, 82, 0, 0, .null) := by decide +kernel
theorem x_113_81 : Tr sc d 113 (81, [l0, l1, l2, l3, l4, l5], [.int i0], h) Q = Q (some (.int i0), h) := t_ret k_113_81 (by rw [r_113]; rfl)
theorem e_113 : Tr sc d 113 (ent0 113 [.ref k0, .int i1, .int i2, .int i3, .int i4] h) Q = Tr sc d 113 (0, [some (.ref k0), some (.int i1), some (.int i2), some (.int i3), some (.int i4), none], [], h) Q := by
  have e : mL 113 = 6 := by decide +kernel
  unfold ent0
  rw [e]
  rfl
theorem r_114 : mR 114 = some .int := by decide +kernel
theorem k_114_0 : lk 114 0 = some (.iload_n 3, 1, 3, 0, .null) := by decide +kernel
theorem x_114_0 : Tr sc d 114 (0, [l0, l1, l2, some (.int x), l4, l5, l6, l7, l8, l9, l10, l11, l12, l13], [], h) Q = Tr sc d 114 (1, [l0, l1, l2, some (.int x), l4, l5, l6, l7, l8, l9, l10, l11, l12, l13], [.int x], h) Q := t_iload_n k_114_0 rfl
theorem k_114_1 : lk 114 1 = some (.ifCond .lt 26, 4, 27, 0, .null) := by decide +kernel
theorem x_114_1 : Tr sc d 114 (1, [l0, l1, l2, l3, l4, l5, l6, l7, l8, l9, l10, l11, l12, l13], [.int i0], h) Q = if i0 < 0 then Tr sc d 114 (27, [l0, l1, l2, l3, l4, l5, l6, l7, l8, l9, l10, l11, l12, l13], [], h) Q else Tr sc d 114 (4, [l0, l1, l2, l3, l4, l5, l6, l7, l8, l9, l10, l11, l12, l13], [], h) Q := t_if k_114_1 rfl
theorem k_114_4 : lk 114 4 = some (.iload_n 3, 5, 3, 0, .null) := by decide +kernel
theorem x_114_4 : Tr sc d 114 (4, [l0, l1, l2, some (.int x), l4, l5, l6, l7, l8, l9, l10, l11, l12, l13], [], h) Q = Tr sc d 114 (5, [l0, l1, l2, some (.int x), l4, l5, l6, l7, l8, l9, l10, l11, l12, l13], [.int x], h) Q := t_iload_n k_114_4 rfl
theorem k_114_5 : lk 114 5 = some (.bipush 6, 7, 0, 0, .int 6) := by decide +kernel
theorem x_114_5 : Tr sc d 114 (5, [l0, l1, l2, l3, l4, l5, l6, l7, l8, l9, l10, l11, l12, l13], [.int i0], h) Q = Tr sc d 114 (7, [l0, l1, l2, l3, l4, l5, l6, l7, l8, l9, l10, l11, l12, l13], [.int 6, .int i0], h) Q := t_go k_114_5 rfl
theorem k_114_7 : lk 114 7 = some (.if_icmp .gt 20, 10, 27, 0, .null) := by decide +kernel
theorem x_114_7 : Tr sc d 114 (7, [l0, l1, l2, l3, l4, l5, l6, l7, l8, l9, l10, l11, l12, l13], [.int i1, .int i0], h) Q = if i1 < i0 then Tr sc d 114 (27, [l0, l1, l2, l3, l4, l5, l6, l7, l8, l9, l10, l11, l12, l13], [], h) Q else Tr sc d 114 (10, [l0, l1, l2, l3, l4, l5, l6, l7, l8, l9, l10, l11, l12, l13], [], h) Q := t_if k_114_7 rfl
theorem k_114_10 : lk 114 10 = some (.iload 4, 12, 4, 0, .null) := by decide +kernel
theorem x_114_10 : Tr sc d 114 (10, [l0, l1, l2, l3, some (.int x), l5, l6, l7, l8, l9, l10, l11, l12, l13], [], h) Q = Tr sc d 114 (12, [l0, l1, l2, l3, some (.int x), l5, l6, l7, l8, l9, l10, l11, l12, l13], [.int x], h) Q := t_iload k_114_10 rfl
theorem k_114_12 : lk 114 12 = some (.iconst 1, 13, 0, 0, .int 1) := by decide +kernel
theorem x_114_12 : Tr sc d 114 (12, [l0, l1, l2, l3, l4, l5, l6, l7, l8, l9, l10, l11, l12, l13], [.int i0], h) Q = Tr sc d 114 (13, [l0, l1, l2, l3, l4, l5, l6, l7, l8, l9, l10, l11, l12, l13], [.int 1, .int i0], h) Q := t_go k_114_12 rfl
theorem k_114_13 : lk 114 13 = some (.if_icmp .lt 14, 16, 27, 0, .null) := by decide +kernel
theorem x_114_13 : Tr sc d 114 (13, [l0, l1, l2, l3, l4, l5, l6, l7, l8, l9, l10, l11, l12, l13], [.int i1, .int i0], h) Q = if i0 < i1 then Tr sc d 114 (27, [l0, l1, l2, l3, l4, l5, l6, l7, l8, l9, l10, l11, l12, l13], [], h) Q else Tr sc d 114 (16, [l0, l1, l2, l3, l4, l5, l6, l7, l8, l9, l10, l11, l12, l13], [], h) Q := t_if k_114_13 rfl
theorem k_114_16 : lk 114 16 = some (.iload 4, 18, 4, 0, .null) := by decide +kernel
theorem x_114_16 : Tr sc d 114 (16, [l0, l1, l2, l3, some (.int x), l5, l6, l7, l8, l9, l10, l11, l12, l13], [], h) Q = Tr sc d 114 (18, [l0, l1, l2, l3, some (.int x), l5, l6, l7, l8, l9, l10, l11, l12, l13], [.int x], h) Q := t_iload k_114_16 rfl
theorem k_114_18 : lk 114 18 = some (.bipush 6, 20, 0, 0, .int 6) := by decide +kernel
theorem x_114_18 : Tr sc d 114 (18, [l0, l1, l2, l3, l4, l5, l6, l7, l8, l9, l10, l11, l12, l13], [.int i0], h) Q = Tr sc d 114 (20, [l0, l1, l2, l3, l4, l5, l6, l7, l8, l9, l10, l11, l12, l13], [.int 6, .int i0], h) Q := t_go k_114_18 rfl
theorem k_114_20 : lk 114 20 = some (.if_icmp .gt 7, 23, 27, 0, .null) := by decide +kernel
theorem x_114_20 : Tr sc d 114 (20, [l0, l1, l2, l3, l4, l5, l6, l7, l8, l9, l10, l11, l12, l13], [.int i1, .int i0], h) Q = if i1 < i0 then Tr sc d 114 (27, [l0, l1, l2, l3, l4, l5, l6, l7, l8, l9, l10, l11, l12, l13], [], h) Q else Tr sc d 114 (23, [l0, l1, l2, l3, l4, l5, l6, l7, l8, l9, l10, l11, l12, l13], [], h) Q := t_if k_114_20 rfl
theorem k_114_23 : lk 114 23 = some (.iconst 1, 24, 0, 0, .int 1) := by decide +kernel
theorem x_114_23 : Tr sc d 114 (23, [l0, l1, l2, l3, l4, l5, l6, l7, l8, l9, l10, l11, l12, l13], [], h) Q = Tr sc d 114 (24, [l0, l1, l2, l3, l4, l5, l6, l7, l8, l9, l10, l11, l12, l13], [.int 1], h) Q := t_go k_114_23 rfl
theorem k_114_24 : lk 114 24 = some (.goto 4, 27, 28, 0, .null) := by decide +kernel
theorem x_114_24 : Tr sc d 114 (24, [l0, l1, l2, l3, l4, l5, l6, l7, l8, l9, l10, l11, l12, l13], [.int i0], h) Q = Tr sc d 114 (28, [l0, l1, l2, l3, l4, l5, l6, l7, l8, l9, l10, l11, l12, l13], [.int i0], h) Q := t_go k_114_24 rfl
theorem k_114_27 : lk 114 27 = some (.iconst 0, 28, 0, 0, .int 0) := by decide +kernel
theorem x_114_27 : Tr sc d 114 (27, [l0, l1, l2, l3, l4, l5, l6, l7, l8, l9, l10, l11, l12, l13], [], h) Q = Tr sc d 114 (28, [l0, l1, l2, l3, l4, l5, l6, l7, l8, l9, l10, l11, l12, l13], [.int 0], h) Q := t_go k_114_27 rfl
theorem k_114_28 : lk 114 28 = some (.istore 6, 30, 6, 0, .null) := by decide +kernel
theorem x_114_28 : Tr sc d 114 (28, [l0, l1, l2, l3, l4, l5, l6, l7, l8, l9, l10, l11, l12, l13], [.int i0], h) Q = Tr sc d 114 (30, [l0, l1, l2, l3, l4, cl2 l5, some (.int i0), l7, l8, l9, l10, l11, l12, l13], [], h) Q := t_istore k_114_28 (Nat.le_of_ble_eq_true rfl)
theorem k_114_30 : lk 114 30 = some (.aload_n 0, 31, 0, 0, .null) := by decide +kernel
theorem x_114_30 : Tr sc d 114 (30, [some (.ref xk), l1, l2, l3, l4, l5, l6, l7, l8, l9, l10, l11, l12, l13], [], h) Q = Tr sc d 114 (31, [some (.ref xk), l1, l2, l3, l4, l5, l6, l7, l8, l9, l10, l11, l12, l13], [.ref xk], h) Q := t_aload_n k_114_30 rfl
theorem k_114_31 : lk 114 31 = some (.iload_n 1, 32, 1, 0, .null) := by decide +kernel
theorem x_114_31 : Tr sc d 114 (31, [l0, some (.int x), l2, l3, l4, l5, l6, l7, l8, l9, l10, l11, l12, l13], [.ref k0], h) Q = Tr sc d 114 (32, [l0, some (.int x), l2, l3, l4, l5, l6, l7, l8, l9, l10, l11, l12, l13], [.int x, .ref k0], h) Q := t_iload_n k_114_31 rfl
theorem k_114_32 : lk 114 32 = some (.iload_n 2, 33, 2, 0, .null) := by decide +kernel
theorem x_114_32 : Tr sc d 114 (32, [l0, l1, some (.int x), l3, l4, l5, l6, l7, l8, l9, l10, l11, l12, l13], [.int i1, .ref k0], h) Q = Tr sc d 114 (33, [l0, l1, some (.int x), l3, l4, l5, l6, l7, l8, l9, l10, l11, l12, l13], [.int x, .int i1, .ref k0], h) Q := t_iload_n k_114_32 rfl
theorem k_114_33 : lk 114 33 = some (.iload 6, 35, 6, 0, .null) := by decide +kernel
theorem x_114_33 : Tr sc d 114 (33, [l0, l1, l2, l3, l4, l5, some (.int x), l7, l8, l9, l10, l11, l12, l13], [.int i2, .int i1, .ref k0], h) Q = Tr sc d 114 (35, [l0, l1, l2, l3, l4, l5, some (.int x), l7, l8, l9, l10, l11, l12, l13], [.int x, .int i2, .int i1, .ref k0], h) Q := t_iload k_114_33 rfl
theorem k_114_35 : lk 114 35 = some (.ifCond .eq 10, 38, 45, 0, .null) := by decide +kernel
theorem x_114_35 : Tr sc d 114 (35, [l0, l1, l2, l3, l4, l5, l6, l7, l8, l9, l10, l11, l12, l13], [.int i3, .int i2, .int i1, .ref k0], h) Q = if i3 = 0 then Tr sc d 114 (45, [l0, l1, l2, l3, l4, l5, l6, l7, l8, l9, l10, l11, l12, l13], [.int i2, .int i1, .ref k0], h) Q else Tr sc d 114 (38, [l0, l1, l2, l3, l4, l5, l6, l7, l8, l9, l10, l11, l12, l13], [.int i2, .int i1, .ref k0], h) Q := t_if k_114_35 rfl
theorem k_114_38 : lk 114 38 = some (.iload_n 3, 39, 3, 0, .null) := by decide +kernel
theorem x_114_38 : Tr sc d 114 (38, [l0, l1, l2, some (.int x), l4, l5, l6, l7, l8, l9, l10, l11, l12, l13], [.int i2, .int i1, .ref k0], h) Q = Tr sc d 114 (39, [l0, l1, l2, some (.int x), l4, l5, l6, l7, l8, l9, l10, l11, l12, l13], [.int x, .int i2, .int i1, .ref k0], h) Q := t_iload_n k_114_38 rfl
theorem k_114_39 : lk 114 39 = some (.iload 4, 41, 4, 0, .null) := by decide +kernel
theorem x_114_39 : Tr sc d 114 (39, [l0, l1, l2, l3, some (.int x), l5, l6, l7, l8, l9, l10, l11, l12, l13], [.int i3, .int i2, .int i1, .ref k0], h) Q = Tr sc d 114 (41, [l0, l1, l2, l3, some (.int x), l5, l6, l7, l8, l9, l10, l11, l12, l13], [.int x, .int i3, .int i2, .int i1, .ref k0], h) Q := t_iload k_114_39 rfl
theorem k_114_41 : lk 114 41 = some (.iadd, 42, 0, 0, .null) := by decide +kernel
theorem x_114_41 : Tr sc d 114 (41, [l0, l1, l2, l3, l4, l5, l6, l7, l8, l9, l10, l11, l12, l13], [.int i4, .int i3, .int i2, .int i1, .ref k0], h) Q = Tr sc d 114 (42, [l0, l1, l2, l3, l4, l5, l6, l7, l8, l9, l10, l11, l12, l13], [.int (i3 + i4), .int i2, .int i1, .ref k0], h) Q := t_go k_114_41 rfl
theorem k_114_42 : lk 114 42 = some (.goto 4, 45, 46, 0, .null) := by decide +kernel
theorem x_114_42 : Tr sc d 114 (42, [l0, l1, l2, l3, l4, l5, l6, l7, l8, l9, l10, l11, l12, l13], [.int i3, .int i2, .int i1, .ref k0], h) Q = Tr sc d 114 (46, [l0, l1, l2, l3, l4, l5, l6, l7, l8, l9, l10, l11, l12, l13], [.int i3, .int i2, .int i1, .ref k0], h) Q := t_go k_114_42 rfl
theorem k_114_45 : lk 114 45 = some (.iconst 0, 46, 0, 0, .int 0) := by decide +kernel
theorem x_114_45 : Tr sc d 114 (45, [l0, l1, l2, l3, l4, l5, l6, l7, l8, l9, l10, l11, l12, l13], [.int i2, .int i1, .ref k0], h) Q = Tr sc d 114 (46, [l0, l1, l2, l3, l4, l5, l6, l7, l8, l9, l10, l11, l12, l13], [.int 0, .int i2, .int i1, .ref k0], h) Q := t_go k_114_45 rfl
theorem k_114_46 : lk 114 46 = some (.iload 6, 48, 6, 0, .null) := by decide +kernel
theorem x_114_46 : Tr sc d 114 (46, [l0, l1, l2, l3, l4, l5, some (.int x), l7, l8, l9, l10, l11, l12, l13], [.int i3, .int i2, .int i1, .ref k0], h) Q = Tr sc d 114 (48, [l0, l1, l2, l3, l4, l5, some (.int x), l7, l8, l9, l10, l11, l12, l13], [.int x, .int i3, .int i2, .int i1, .ref k0], h) Q := t_iload k_114_46 rfl
theorem k_114_48 : lk 114 48 = some (.invokevirtual 224, 51, 148, 4, .null) := by decide +kernel
theorem x_114_48 : Tr sc (d + 1) 114 (48, [l0, l1, l2, l3, l4, l5, l6, l7, l8, l9, l10, l11, l12, l13], [.int i4, .int i3, .int i2, .int i1, .ref k0], h) Q = (okp h k0 9 = true ∧ Tr sc d 148 (ent0 148 [.ref k0, .int i1, .int i2, .int i3, .int i4] h) (fun z => Tr sc (d + 1) 114 (51, [l0, l1, l2, l3, l4, l5, l6, l7, l8, l9, l10, l11, l12, l13], z.1.toList ++ [], z.2) Q)) := t_cv (as := [.int i1, .int i2, .int i3, .int i4]) (r := []) k_114_48 rfl rfl (Nat.le_of_ble_eq_true rfl) (Nat.le_of_ble_eq_true rfl) (Nat.le_of_ble_eq_true rfl)
theorem k_114_51 : lk 114 51 = some (.istore 7, 53, 7, 0, .null) := by decide +kernel
theorem x_114_51 : Tr sc d 114 (51, [l0, l1, l2, l3, l4, l5, l6, l7, l8, l9, l10, l11, l12, l13], [.int i0], h) Q = Tr sc d 114 (53, [l0, l1, l2, l3, l4, l5, cl2 l6, some (.int i0), l8, l9, l10, l11, l12, l13], [], h) Q := t_istore k_114_51 (Nat.le_of_ble_eq_true rfl)
theorem k_114_53 : lk 114 53 = some (.iload 7, 55, 7, 0, .null) := by decide +kernel
theorem x_114_53 : Tr sc d 114 (53, [l0, l1, l2, l3, l4, l5, l6, some (.int x), l8, l9, l10, l11, l12, l13], [], h) Q = Tr sc d 114 (55, [l0, l1, l2, l3, l4, l5, l6, some (.int x), l8, l9, l10, l11, l12, l13], [.int x], h) Q := t_iload k_114_53 rfl
theorem k_114_55 : lk 114 55 = some (.ifCond .eq 6, 58, 61, 0, .null) := by decide +kernel
theorem x_114_55 : Tr sc d 114 (55, [l0, l1, l2, l3, l4, l5, l6, l7, l8, l9, l10, l11, l12, l13], [.int i0], h) Q = if i0 = 0 then Tr sc d 114 (61, [l0, l1, l2, l3, l4, l5, l6, l7, l8, l9, l10, l11, l12, l13], [], h) Q else Tr sc d 114 (58, [l0, l1, l2, l3, l4, l5, l6, l7, l8, l9, l10, l11, l12, l13], [], h) Q := t_if k_114_55 rfl
theorem k_114_58 : lk 114 58 = some (.iload 7, 60, 7, 0, .null) := by decide +kernel
theorem x_114_58 : Tr sc d 114 (58, [l0, l1, l2, l3, l4, l5, l6, some (.int x), l8, l9, l10, l11, l12, l13], [], h) Q = Tr sc d 114 (60, [l0, l1, l2, l3, l4, l5, l6, some (.int x), l8, l9, l10, l11, l12, l13], [.int x], h) Q := t_iload k_114_58 rfl
theorem k_114_60 : lk 114 60 = some (.ireturn, 61, 0, 0, .null) := by decide +kernel
theorem x_114_60 : Tr sc d 114 (60, [l0, l1, l2, l3, l4, l5, l6, l7, l8, l9, l10, l11, l12, l13], [.int i0], h) Q = Q (some (.int i0), h) := t_ret k_114_60 (by rw [r_114]; rfl)
theorem k_114_61 : lk 114 61 = some (.aload_n 0, 62, 0, 0, .null) := by decide +kernel
theorem x_114_61 : Tr sc d 114 (61, [some (.ref xk), l1, l2, l3, l4, l5, l6, l7, l8, l9, l10, l11, l12, l13], [], h) Q = Tr sc d 114 (62, [some (.ref xk), l1, l2, l3, l4, l5, l6, l7, l8, l9, l10, l11, l12, l13], [.ref xk], h) Q := t_aload_n k_114_61 rfl
theorem k_114_62 : lk 114 62 = some (.getfield 39, 65, 9, 5, .null) := by decide +kernel
theorem x_114_62 : Tr sc d 114 (62, [l0, l1, l2, l3, l4, l5, l6, l7, l8, l9, l10, l11, l12, l13], [.ref k0], h) Q = (okp h k0 9 = true ∧ ∃ q, hR h k0 5 = some q ∧ Tr sc d 114 (65, [l0, l1, l2, l3, l4, l5, l6, l7, l8, l9, l10, l11, l12, l13], [.ref q], h) Q) := t_getr k_114_62
theorem k_114_65 : lk 114 65 = some (.aload_n 0, 66, 0, 0, .null) := by decide +kernel
theorem x_114_65 : Tr sc d 114 (65, [some (.ref xk), l1, l2, l3, l4, l5, l6, l7, l8, l9, l10, l11, l12, l13], [.ref k0], h) Q = Tr sc d 114 (66, [some (.ref xk), l1, l2, l3, l4, l5, l6, l7, l8, l9, l10, l11, l12, l13], [.ref xk, .ref k0], h) Q := t_aload_n k_114_65 rfl
theorem k_114_66 : lk 114 66 = some (.getfield 20, 69, 9, 2, .null) := by decide +kernel
theorem x_114_66 : Tr sc d 114 (66, [l0, l1, l2, l3, l4, l5, l6, l7, l8, l9, l10, l11, l12, l13], [.ref k1, .ref k0], h) Q = (okp h k1 9 = true ∧ ∃ q, hR h k1 2 = some q ∧ Tr sc d 114 (69, [l0, l1, l2, l3, l4, l5, l6, l7, l8, l9, l10, l11, l12, l13], [.ref q, .ref k0], h) Q) := t_getr k_114_66
theorem k_114_69 : lk 114 69 = some (.iload_n 1, 70, 1, 0, .null) := by decide +kernel
theorem x_114_69 : Tr sc d 114 (69, [l0, some (.int x), l2, l3, l4, l5, l6, l7, l8, l9, l10, l11, l12, l13], [.ref k1, .ref k0], h) Q = Tr sc d 114 (70, [l0, some (.int x), l2, l3, l4, l5, l6, l7, l8, l9, l10, l11, l12, l13], [.int x, .ref k1, .ref k0], h) Q := t_iload_n k_114_69 rfl
theorem k_114_70 : lk 114 70 = some (.aaload, 71, 0, 0, .null) := by decide +kernel
theorem x_114_70 : Tr sc d 114 (70, [l0, l1, l2, l3, l4, l5, l6, l7, l8, l9, l10, l11, l12, l13], [.int i2, .ref k1, .ref k0], h) Q = (((okp h k1 14 || okp h k1 15) && inb i2 (LN k1)) = true ∧ ∃ q, hR h k1 i2.toNatClampNeg = some q ∧ Tr sc d 114 (71, [l0, l1, l2, l3, l4, l5, l6, l7, l8, l9, l10, l11, l12, l13], [.ref q, .ref k0], h) Q) := t_aald k_114_70
theorem k_114_71 : lk 114 71 = some (.aload_n 0, 72, 0, 0, .null) := by decide +kernel
theorem x_114_71 : Tr sc d 114 (71, [some (.ref xk), l1, l2, l3, l4, l5, l6, l7, l8, l9, l10, l11, l12, l13], [.ref k1, .ref k0], h) Q = Tr sc d 114 (72, [some (.ref xk), l1, l2, l3, l4, l5, l6, l7, l8, l9, l10, l11, l12, l13], [.ref xk, .ref k1, .ref k0], h) Q := t_aload_n k_114_71 rfl
theorem k_114_72 : lk 114 72 = some (.getfield 11, 75, 9, 0, .null) := by decide +kernel
theorem x_114_72 : Tr sc d 114 (72, [l0, l1, l2, l3, l4, l5, l6, l7, l8, l9, l10, l11, l12, l13], [.ref k2, .ref k1, .ref k0], h) Q = (okp h k2 9 = true ∧ ∃ q, hR h k2 0 = some q ∧ Tr sc d 114 (75, [l0, l1, l2, l3, l4, l5, l6, l7, l8, l9, l10, l11, l12, l13], [.ref q, .ref k1, .ref k0], h) Q) := t_getr k_114_72
theorem k_114_75 : lk 114 75 = some (.iload_n 2, 76, 2, 0, .null) := by decide +kernel
theorem x_114_75 : Tr sc d 114 (75, [l0, l1, some (.int x), l3, l4, l5, l6, l7, l8, l9, l10, l11, l12, l13], [.ref k2, .ref k1, .ref k0], h) Q = Tr sc d 114 (76, [l0, l1, some (.int x), l3, l4, l5, l6, l7, l8, l9, l10, l11, l12, l13], [.int x, .ref k2, .ref k1, .ref k0], h) Q := t_iload_n k_114_75 rfl
theorem k_114_76 : lk 114 76 = some (.aaload, 77, 0, 0, .null) := by decide +kernel
theorem x_114_76 : Tr sc d 114 (76, [l0, l1, l2, l3, l4, l5, l6, l7, l8, l9, l10, l11, l12, l13], [.int i3, .ref k2, .ref k1, .ref k0], h) Q = (((okp h k2 14 || okp h k2 15) && inb i3 (LN k2)) = true ∧ ∃ q, hR h k2 i3.toNatClampNeg = some q ∧ Tr sc d 114 (77, [l0, l1, l2, l3, l4, l5, l6, l7, l8, l9, l10, l11, l12, l13], [.ref q, .ref k1, .ref k0], h) Q) := t_aald k_114_76
theorem k_114_77 : lk 114 77 = some (.iconst 0, 78, 0, 0, .int 0) := by decide +kernel
theorem x_114_77 : Tr sc d 114 (77, [l0, l1, l2, l3, l4, l5, l6, l7, l8, l9, l10, l11, l12, l13], [.ref k2, .ref k1, .ref k0], h) Q = Tr sc d 114 (78, [l0, l1, l2, l3, l4, l5, l6, l7, l8, l9, l10, l11, l12, l13], [.int 0, .ref k2, .ref k1, .ref k0], h) Q := t_go k_114_77 rfl
theorem k_114_78 : lk 114 78 = some (.iload_n 3, 79, 3, 0, .null) := by decide +kernel
theorem x_114_78 : Tr sc d 114 (78, [l0, l1, l2, some (.int x), l4, l5, l6, l7, l8, l9, l10, l11, l12, l13], [.int i3, .ref k2, .ref k1, .ref k0], h) Q = Tr sc d 114 (79, [l0, l1, l2, some (.int x), l4, l5, l6, l7, l8, l9, l10, l11, l12, l13], [.int x, .int i3, .ref k2, .ref k1, .ref k0], h) Q := t_iload_n k_114_78 rfl
theorem k_114_79 : lk 114 79 = some (.invokevirtual 228, 82, 1, 4, .null) := by decide +kernel
theorem x_114_79 : Tr sc (d + 1) 114 (79, [l0, l1, l2, l3, l4, l5, l6, l7, l8, l9, l10, l11, l12, l13], [.int i4, .int i3, .ref k2, .ref k1, .ref k0], h) Q = (okp h k0 0 = true ∧ Tr sc d 1 (ent0 1 [.ref k0, .ref k1, .ref k2, .int i3, .int i4] h) (fun z => Tr sc (d + 1) 114 (82, [l0, l1, l2, l3, l4, l5, l6, l7, l8, l9, l10, l11, l12, l13], z.1.toList ++ [], z.2) Q)) := t_cv (as := [.ref k1, .ref k2, .int i3, .int i4]) (r := []) k_114_79 rfl rfl (Nat.le_of_ble_eq_true rfl) (Nat.le_of_ble_eq_true rfl) (Nat.le_of_ble_eq_true rfl)
theorem k_114_82 : lk 114 82 = some (.aload_n 0, 83, 0, 0, .null) := by decide +kernel
theorem x_114_82 : Tr sc d 114 (82, [some (.ref xk), l1, l2, l3, l4, l5, l6, l7, l8, l9, l10, l11, l12, l13], [], h) Q = Tr sc d 114 (83, [some (.ref xk), l1, l2, l3, l4, l5, l6, l7, l8, l9, l10, l11, l12, l13], [.ref xk], h) Q := t_aload_n k_114_82 rfl
theorem k_114_83 : lk 114 83 = some (.getfield 43, 86, 9, 6, .null) := by decide +kernel
theorem x_114_83 : Tr sc d 114 (83, [l0, l1, l2, l3, l4, l5, l6, l7, l8, l9, l10, l11, l12, l13], [.ref k0], h) Q = (okp h k0 9 = true ∧ ∃ q, hR h k0 6 = some q ∧ Tr sc d 114 (86, [l0, l1, l2, l3, l4, l5, l6, l7, l8, l9, l10, l11, l12, l13], [.ref q], h) Q) := t_getr k_114_83
theorem k_114_86 : lk 114 86 = some (.aload_n 0, 87, 0, 0, .null) := by decide +kernel
theorem x_114_86 : Tr sc d 114 (86, [some (.ref xk), l1, l2, l3, l4, l5, l6, l7, l8, l9, l10, l11, l12, l13], [.ref k0], h) Q = Tr sc d 114 (87, [some (.ref xk), l1, l2, l3, l4, l5, l6, l7, l8, l9, l10, l11, l12, l13], [.ref xk, .ref k0], h) Q := t_aload_n k_114_86 rfl
theorem k_114_87 : lk 114 87 = some (.getfield 20, 90, 9, 2, .null) := by decide +kernel
theorem x_114_87 : Tr sc d 114 (87, [l0, l1, l2, l3, l4, l5, l6, l7, l8, l9, l10, l11, l12, l13], [.ref k1, .ref k0], h) Q = (okp h k1 9 = true ∧ ∃ q, hR h k1 2 = some q ∧ Tr sc d 114 (90, [l0, l1, l2, l3, l4, l5, l6, l7, l8, l9, l10, l11, l12, l13], [.ref q, .ref k0], h) Q) := t_getr k_114_87
theorem k_114_90 : lk 114 90 = some (.iload_n 1, 91, 1, 0, .null) := by decide +kernel
theorem x_114_90 : Tr sc d 114 (90, [l0, some (.int x), l2, l3, l4, l5, l6, l7, l8, l9, l10, l11, l12, l13], [.ref k1, .ref k0], h) Q = Tr sc d 114 (91, [l0, some (.int x), l2, l3, l4, l5, l6, l7, l8, l9, l10, l11, l12, l13], [.int x, .ref k1, .ref k0], h) Q := t_iload_n k_114_90 rfl
theorem k_114_91 : lk 114 91 = some (.aaload, 92, 0, 0, .null) := by decide +kernel
theorem x_114_91 : Tr sc d 114 (91, [l0, l1, l2, l3, l4, l5, l6, l7, l8, l9, l10, l11, l12, l13], [.int i2, .ref k1, .ref k0], h) Q = (((okp h k1 14 || okp h k1 15) && inb i2 (LN k1)) = true ∧ ∃ q, hR h k1 i2.toNatClampNeg = some q ∧ Tr sc d 114 (92, [l0, l1, l2, l3, l4, l5, l6, l7, l8, l9, l10, l11, l12, l13], [.ref q, .ref k0], h) Q) := t_aald k_114_91
theorem k_114_92 : lk 114 92 = some (.aload_n 0, 93, 0, 0, .null) := by decide +kernel
theorem x_114_92 : Tr sc d 114 (92, [some (.ref xk), l1, l2, l3, l4, l5, l6, l7, l8, l9, l10, l11, l12, l13], [.ref k1, .ref k0], h) Q = Tr sc d 114 (93, [some (.ref xk), l1, l2, l3, l4, l5, l6, l7, l8, l9, l10, l11, l12, l13], [.ref xk, .ref k1, .ref k0], h) Q := t_aload_n k_114_92 rfl
theorem k_114_93 : lk 114 93 = some (.getfield 11, 96, 9, 0, .null) := by decide +kernel
theorem x_114_93 : Tr sc d 114 (93, [l0, l1, l2, l3, l4, l5, l6, l7, l8, l9, l10, l11, l12, l13], [.ref k2, .ref k1, .ref k0], h) Q = (okp h k2 9 = true ∧ ∃ q, hR h k2 0 = some q ∧ Tr sc d 114 (96, [l0, l1, l2, l3, l4, l5, l6, l7, l8, l9, l10, l11, l12, l13], [.ref q, .ref k1, .ref k0], h) Q) := t_getr k_114_93
theorem k_114_96 : lk 114 96 = some (.iload_n 2, 97, 2, 0, .null) := by decide +kernel
theorem x_114_96 : Tr sc d 114 (96, [l0, l1, some (.int x), l3, l4, l5, l6, l7, l8, l9, l10, l11, l12, l13], [.ref k2, .ref k1, .ref k0], h) Q = Tr sc d 114 (97, [l0, l1, some (.int x), l3, l4, l5, l6, l7, l8, l9, l10, l11, l12, l13], [.int x, .ref k2, .ref k1, .ref k0], h) Q := t_iload_n k_114_96 rfl
theorem k_114_97 : lk 114 97 = some (.aaload, 98, 0, 0, .null) := by decide +kernel
theorem x_114_97 : Tr sc d 114 (97, [l0, l1, l2, l3, l4, l5, l6, l7, l8, l9, l10, l11, l12, l13], [.int i3, .ref k2, .ref k1, .ref k0], h) Q = (((okp h k2 14 || okp h k2 15) && inb i3 (LN k2)) = true ∧ ∃ q, hR h k2 i3.toNatClampNeg = some q ∧ Tr sc d 114 (98, [l0, l1, l2, l3, l4, l5, l6, l7, l8, l9, l10, l11, l12, l13], [.ref q, .ref k1, .ref k0], h) Q) := t_aald k_114_97
theorem k_114_98 : lk 114 98 = some (.iload_n 3, 99, 3, 0, .null) := by decide +kernel
theorem x_114_98 : Tr sc d 114 (98, [l0, l1, l2, some (.int x), l4, l5, l6, l7, l8, l9, l10, l11, l12, l13], [.ref k2, .ref k1, .ref k0], h) Q = Tr sc d 114 (99, [l0, l1, l2, some (.int x), l4, l5, l6, l7, l8, l9, l10, l11, l12, l13], [.int x, .ref k2, .ref k1, .ref k0], h) Q := t_iload_n k_114_98 rfl
theorem k_114_99 : lk 114 99 = some (.iload 4, 101, 4, 0, .null) := by decide +kernel
theorem x_114_99 : Tr sc d 114 (99, [l0, l1, l2, l3, some (.int x), l5, l6, l7, l8, l9, l10, l11, l12, l13], [.int i3, .ref k2, .ref k1, .ref k0], h) Q = Tr sc d 114 (101, [l0, l1, l2, l3, some (.int x), l5, l6, l7, l8, l9, l10, l11, l12, l13], [.int x, .int i3, .ref k2, .ref k1, .ref k0], h) Q := t_iload k_114_99 rfl
theorem k_114_101 : lk 114 101 = some (.invokevirtual 228, 104, 1, 4, .null) := by decide +kernel
theorem x_114_101 : Tr sc (d + 1) 114 (101, [l0, l1, l2, l3, l4, l5, l6, l7, l8, l9, l10, l11, l12, l13], [.int i4, .int i3, .ref k2, .ref k1, .ref k0], h) Q = (okp h k0 0 = true ∧ Tr sc d 1 (ent0 1 [.ref k0, .ref k1, .ref k2, .int i3, .int i4] h) (fun z => Tr sc (d + 1) 114 (104, [l0, l1, l2, l3, l4, l5, l6, l7, l8, l9, l10, l11, l12, l13], z.1.toList ++ [], z.2) Q)) := t_cv (as := [.ref k1, .ref k2, .int i3, .int i4]) (r := []) k_114_101 rfl rfl (Nat.le_of_ble_eq_true rfl) (Nat.le_of_ble_eq_true rfl) (Nat.le_of_ble_eq_true rfl)
theorem k_114_104 : lk 114 104 = some (.aload_n 0, 105, 0, 0, .null) := by decide +kernel
theorem x_114_104 : Tr sc d 114 (104, [some (.ref xk), l1, l2, l3, l4, l5, l6, l7, l8, l9, l10, l11, l12, l13], [], h) Q = Tr sc d 114 (105, [some (.ref xk), l1, l2, l3, l4, l5, l6, l7, l8, l9, l10, l11, l12, l13], [.ref xk], h) Q := t_aload_n k_114_104 rfl
theorem k_114_105 : lk 114 105 = some (.getfield 43, 108, 9, 6, .null) := by decide +kernel
theorem x_114_105 : Tr sc d 114 (105, [l0, l1, l2, l3, l4, l5, l6, l7, l8, l9, l10, l11, l12, l13], [.ref k0], h) Q = (okp h k0 9 = true ∧ ∃ q, hR h k0 6 = some q ∧ Tr sc d 114 (108, [l0, l1, l2, l3, l4, l5, l6, l7, l8, l9, l10, l11, l12, l13], [.ref q], h) Q) := t_getr k_114_105
theorem k_114_108 : lk 114 108 = some (.invokevirtual 238, 111, 5, 0, .null) := by decide +kernel
theorem x_114_108 : Tr sc (d + 1) 114 (108, [l0, l1, l2, l3, l4, l5, l6, l7, l8, l9, l10, l11, l12, l13], [.ref k0], h) Q = (okp h k0 0 = true ∧ Tr sc d 5 (ent0 5 [.ref k0] h) (fun z => Tr sc (d + 1) 114 (111, [l0, l1, l2, l3, l4, l5, l6, l7, l8, l9, l10, l11, l12, l13], z.1.toList ++ [], z.2) Q)) := t_cv (as := []) (r := []) k_114_108 rfl rfl (Nat.le_of_ble_eq_true rfl) (Nat.le_of_ble_eq_true rfl) (Nat.le_of_ble_eq_true rfl)
theorem k_114_111 : lk 114 111 = some (.lstore 8, 113, 8, 0, .null) := by decide +kernel
theorem x_114_111 : Tr sc d 114 (111, [l0, l1, l2, l3, l4, l5, l6, l7, l8, l9, l10, l11, l12, l13], [.long j0], h) Q = Tr sc d 114 (113, [l0, l1, l2, l3, l4, l5, l6, cl2 l7, some (.long j0), none, l10, l11, l12, l13], [], h) Q := t_lstore k_114_111 (Nat.le_of_ble_eq_true rfl)
theorem k_114_113 : lk 114 113 = some (.aload_n 0, 114, 0, 0, .null) := by decide +kernel
theorem x_114_113 : Tr sc d 114 (113, [some (.ref xk), l1, l2, l3, l4, l5, l6, l7, l8, l9, l10, l11, l12, l13], [], h) Q = Tr sc d 114 (114, [some (.ref xk), l1, l2, l3, l4, l5, l6, l7, l8, l9, l10, l11, l12, l13], [.ref xk], h) Q := t_aload_n k_114_113 rfl
theorem k_114_114 : lk 114 114 = some (.getfield 43, 117, 9, 6, .null) := by decide +kernel
theorem x_114_114 : Tr sc d 114 (114, [l0, l1, l2, l3, l4, l5, l6, l7, l8, l9, l10, l11, l12, l13], [.ref k0], h) Q = (okp h k0 9 = true ∧ ∃ q, hR h k0 6 = some q ∧ Tr sc d 114 (117, [l0, l1, l2, l3, l4, l5, l6, l7, l8, l9, l10, l11, l12, l13], [.ref q], h) Q) := t_getr k_114_114
theorem k_114_117 : lk 114 117 = some (.invokevirtual 241, 120, 6, 0, .null) := by decide +kernel
theorem x_114_117 : Tr sc (d + 1) 114 (117, [l0, l1, l2, l3, l4, l5, l6, l7, l8, l9, l10, l11, l12, l13], [.ref k0], h) Q = (okp h k0 0 = true ∧ Tr sc d 6 (ent0 6 [.ref k0] h) (fun z => Tr sc (d + 1) 114 (120, [l0, l1, l2, l3, l4, l5, l6, l7, l8, l9, l10, l11, l12, l13], z.1.toList ++ [], z.2) Q)) := t_cv (as := []) (r := []) k_114_117 rfl rfl (Nat.le_of_ble_eq_true rfl) (Nat.le_of_ble_eq_true rfl) (Nat.le_of_ble_eq_true rfl)
theorem k_114_120 : lk 114 120 = some (.lstore 10, 122, 10, 0, .null) := by decide +kernel
theorem x_114_120 : Tr sc d 114 (120, [l0, l1, l2, l3, l4, l5, l6, l7, l8, l9, l10, l11, l12, l13], [.long j0], h) Q = Tr sc d 114 (122, [l0, l1, l2, l3, l4, l5, l6, l7, l8, cl2 l9, some (.long j0), none, l12, l13], [], h) Q := t_lstore k_114_120 (Nat.le_of_ble_eq_true rfl)
theorem k_114_122 : lk 114 122 = some (.iload 5, 124, 5, 0, .null) := by decide +kernel
theorem x_114_122 : Tr sc d 114 (122, [l0, l1, l2, l3, l4, some (.int x), l6, l7, l8, l9, l10, l11, l12, l13], [], h) Q = Tr sc d 114 (124, [l0, l1, l2, l3, l4, some (.int x), l6, l7, l8, l9, l10, l11, l12, l13], [.int x], h) Q := t_iload k_114_122 rfl
theorem k_114_124 : lk 114 124 = some (.ifCond .eq 43, 127, 167, 0, .null) := by decide +kernel
theorem x_114_124 : Tr sc d 114 (124, [l0, l1, l2, l3, l4, l5, l6, l7, l8, l9, l10, l11, l12, l13], [.int i0], h) Q = if i0 = 0 then Tr sc d 114 (167, [l0, l1, l2, l3, l4, l5, l6, l7, l8, l9, l10, l11, l12, l13], [], h) Q else Tr sc d 114 (127, [l0, l1, l2, l3, l4, l5, l6, l7, l8, l9, l10, l11, l12, l13], [], h) Q := t_if k_114_124 rfl
theorem k_114_127 : lk 114 127 = some (.aload_n 0, 128, 0, 0, .null) := by decide +kernel
theorem x_114_127 : Tr sc d 114 (127, [some (.ref xk), l1, l2, l3, l4, l5, l6, l7, l8, l9, l10, l11, l12, l13], [], h) Q = Tr sc d 114 (128, [some (.ref xk), l1, l2, l3, l4, l5, l6, l7, l8, l9, l10, l11, l12, l13], [.ref xk], h) Q := t_aload_n k_114_127 rfl
theorem k_114_128 : lk 114 128 = some (.getfield 39, 131, 9, 5, .null) := by decide +kernel
theorem x_114_128 : Tr sc d 114 (128, [l0, l1, l2, l3, l4, l5, l6, l7, l8, l9, l10, l11, l12, l13], [.ref k0], h) Q = (okp h k0 9 = true ∧ ∃ q, hR h k0 5 = some q ∧ Tr sc d 114 (131, [l0, l1, l2, l3, l4, l5, l6, l7, l8, l9, l10, l11, l12, l13], [.ref q], h) Q) := t_getr k_114_128
theorem k_114_131 : lk 114 131 = some (.getfield 244, 134, 0, 2, .long 0) := by decide +kernel
theorem x_114_131 : Tr sc d 114 (131, [l0, l1, l2, l3, l4, l5, l6, l7, l8, l9, l10, l11, l12, l13], [.ref k0], h) Q = (okp h k0 0 = true ∧ Tr sc d 114 (134, [l0, l1, l2, l3, l4, l5, l6, l7, l8, l9, l10, l11, l12, l13], [.long (hL h k0 2)], h) Q) := t_gd k_114_131 rfl
theorem k_114_134 : lk 114 134 = some (.lload 10, 136, 10, 0, .null) := by decide +kernel
theorem x_114_134 : Tr sc d 114 (134, [l0, l1, l2, l3, l4, l5, l6, l7, l8, l9, some (.long xl), l11, l12, l13], [.long j0], h) Q = Tr sc d 114 (136, [l0, l1, l2, l3, l4, l5, l6, l7, l8, l9, some (.long xl), l11, l12, l13], [.long xl, .long j0], h) Q := t_lload k_114_134 rfl
theorem k_114_136 : lk 114 136 = some (.lmul, 137, 0, 0, .null) := by decide +kernel
theorem x_114_136 : Tr sc d 114 (136, [l0, l1, l2, l3, l4, l5, l6, l7, l8, l9, l10, l11, l12, l13], [.long j1, .long j0], h) Q = Tr sc d 114 (137, [l0, l1, l2, l3, l4, l5, l6, l7, l8, l9, l10, l11, l12, l13], [.long (j0 * j1)], h) Q := t_go k_114_136 rfl
theorem k_114_137 : lk 114 137 = some (.aload_n 0, 138, 0, 0, .null) := by decide +kernel
theorem x_114_137 : Tr sc d 114 (137, [some (.ref xk), l1, l2, l3, l4, l5, l6, l7, l8, l9, l10, l11, l12, l13], [.long j0], h) Q = Tr sc d 114 (138, [some (.ref xk), l1, l2, l3, l4, l5, l6, l7, l8, l9, l10, l11, l12, l13], [.ref xk, .long j0], h) Q := t_aload_n k_114_137 rfl
theorem k_114_138 : lk 114 138 = some (.getfield 39, 141, 9, 5, .null) := by decide +kernel
theorem x_114_138 : Tr sc d 114 (138, [l0, l1, l2, l3, l4, l5, l6, l7, l8, l9, l10, l11, l12, l13], [.ref k1, .long j0], h) Q = (okp h k1 9 = true ∧ ∃ q, hR h k1 5 = some q ∧ Tr sc d 114 (141, [l0, l1, l2, l3, l4, l5, l6, l7, l8, l9, l10, l11, l12, l13], [.ref q, .long j0], h) Q) := t_getr k_114_138
theorem k_114_141 : lk 114 141 = some (.getfield 247, 144, 0, 3, .long 0) := by decide +kernel
theorem x_114_141 : Tr sc d 114 (141, [l0, l1, l2, l3, l4, l5, l6, l7, l8, l9, l10, l11, l12, l13], [.ref k1, .long j0], h) Q = (okp h k1 0 = true ∧ Tr sc d 114 (144, [l0, l1, l2, l3, l4, l5, l6, l7, l8, l9, l10, l11, l12, l13], [.long (hL h k1 3), .long j0], h) Q) := t_gd k_114_141 rfl
theorem k_114_144 : lk 114 144 = some (.aload_n 0, 145, 0, 0, .null) := by decide +kernel
theorem x_114_144 : Tr sc d 114 (144, [some (.ref xk), l1, l2, l3, l4, l5, l6, l7, l8, l9, l10, l11, l12, l13], [.long j1, .long j0], h) Q = Tr sc d 114 (145, [some (.ref xk), l1, l2, l3, l4, l5, l6, l7, l8, l9, l10, l11, l12, l13], [.ref xk, .long j1, .long j0], h) Q := t_aload_n k_114_144 rfl
theorem k_114_145 : lk 114 145 = some (.getfield 43, 148, 9, 6, .null) := by decide +kernel
theorem x_114_145 : Tr sc d 114 (145, [l0, l1, l2, l3, l4, l5, l6, l7, l8, l9, l10, l11, l12, l13], [.ref k2, .long j1, .long j0], h) Q = (okp h k2 9 = true ∧ ∃ q, hR h k2 6 = some q ∧ Tr sc d 114 (148, [l0, l1, l2, l3, l4, l5, l6, l7, l8, l9, l10, l11, l12, l13], [.ref q, .long j1, .long j0], h) Q) := t_getr k_114_145
theorem k_114_148 : lk 114 148 = some (.invokevirtual 250, 151, 7, 0, .null) := by decide +kernel
theorem x_114_148 : Tr sc (d + 1) 114 (148, [l0, l1, l2, l3, l4, l5, l6, l7, l8, l9, l10, l11, l12, l13], [.ref k2, .long j1, .long j0], h) Q = (okp h k2 0 = true ∧ Tr sc d 7 (ent0 7 [.ref k2] h) (fun z => Tr sc (d + 1) 114 (151, [l0, l1, l2, l3, l4, l5, l6, l7, l8, l9, l10, l11, l12, l13], z.1.toList ++ [.long j1, .long j0], z.2) Q)) := t_cv (as := []) (r := [.long j1, .long j0]) k_114_148 rfl rfl (Nat.le_of_ble_eq_true rfl) (Nat.le_of_ble_eq_true rfl) (Nat.le_of_ble_eq_true rfl)
theorem k_114_151 : lk 114 151 = some (.lmul, 152, 0, 0, .null) := by decide +kernel
theorem x_114_151 : Tr sc d 114 (151, [l0, l1, l2, l3, l4, l5, l6, l7, l8, l9, l10, l11, l12, l13], [.long j2, .long j1, .long j0], h) Q = Tr sc d 114 (152, [l0, l1, l2, l3, l4, l5, l6, l7, l8, l9, l10, l11, l12, l13], [.long (j1 * j2), .long j0], h) Q := t_go k_114_151 rfl
theorem k_114_152 : lk 114 152 = some (.ladd, 153, 0, 0, .null) := by decide +kernel
theorem x_114_152 : Tr sc d 114 (152, [l0, l1, l2, l3, l4, l5, l6, l7, l8, l9, l10, l11, l12, l13], [.long j1, .long j0], h) Q = Tr sc d 114 (153, [l0, l1, l2, l3, l4, l5, l6, l7, l8, l9, l10, l11, l12, l13], [.long (j0 + j1)], h) Q := t_go k_114_152 rfl
theorem k_114_153 : lk 114 153 = some (.aload_n 0, 154, 0, 0, .null) := by decide +kernel
theorem x_114_153 : Tr sc d 114 (153, [some (.ref xk), l1, l2, l3, l4, l5, l6, l7, l8, l9, l10, l11, l12, l13], [.long j0], h) Q = Tr sc d 114 (154, [some (.ref xk), l1, l2, l3, l4, l5, l6, l7, l8, l9, l10, l11, l12, l13], [.ref xk, .long j0], h) Q := t_aload_n k_114_153 rfl
theorem k_114_154 : lk 114 154 = some (.getfield 39, 157, 9, 5, .null) := by decide +kernel
theorem x_114_154 : Tr sc d 114 (154, [l0, l1, l2, l3, l4, l5, l6, l7, l8, l9, l10, l11, l12, l13], [.ref k1, .long j0], h) Q = (okp h k1 9 = true ∧ ∃ q, hR h k1 5 = some q ∧ Tr sc d 114 (157, [l0, l1, l2, l3, l4, l5, l6, l7, l8, l9, l10, l11, l12, l13], [.ref q, .long j0], h) Q) := t_getr k_114_154
theorem k_114_157 : lk 114 157 = some (.getfield 232, 160, 0, 5, .long 0) := by decide +kernel
theorem x_114_157 : Tr sc d 114 (157, [l0, l1, l2, l3, l4, l5, l6, l7, l8, l9, l10, l11, l12, l13], [.ref k1, .long j0], h) Q = (okp h k1 0 = true ∧ Tr sc d 114 (160, [l0, l1, l2, l3, l4, l5, l6, l7, l8, l9, l10, l11, l12, l13], [.long (hL h k1 5), .long j0], h) Q) := t_gd k_114_157 rfl
theorem k_114_160 : lk 114 160 = some (.lload 8, 162, 8, 0, .null) := by decide +kernel
theorem x_114_160 : Tr sc d 114 (160, [l0, l1, l2, l3, l4, l5, l6, l7, some (.long xl), l9, l10, l11, l12, l13], [.long j1, .long j0], h) Q = Tr sc d 114 (162, [l0, l1, l2, l3, l4, l5, l6, l7, some (.long xl), l9, l10, l11, l12, l13], [.long xl, .long j1, .long j0], h) Q := t_lload k_114_160 rfl
theorem k_114_162 : lk 114 162 = some (.lmul, 163, 0, 0, .null) := by decide +kernel
theorem x_114_162 : Tr sc d 114 (162, [l0, l1, l2, l3, l4, l5, l6, l7, l8, l9, l10, l11, l12, l13], [.long j2, .long j1, .long j0], h) Q = Tr sc d 114 (163, [l0, l1, l2, l3, l4, l5, l6, l7, l8, l9, l10, l11, l12, l13], [.long (j1 * j2), .long j0], h) Q := t_go k_114_162 rfl
theorem k_114_163 : lk 114 163 = some (.ladd, 164, 0, 0, .null) := by decide +kernel
theorem x_114_163 : Tr sc d 114 (163, [l0, l1, l2, l3, l4, l5, l6, l7, l8, l9, l10, l11, l12, l13], [.long j1, .long j0], h) Q = Tr sc d 114 (164, [l0, l1, l2, l3, l4, l5, l6, l7, l8, l9, l10, l11, l12, l13], [.long (j0 + j1)], h) Q := t_go k_114_163 rfl
theorem k_114_164 : lk 114 164 = some (.goto 40, 167, 204, 0, .null) := by decide +kernel
theorem x_114_164 : Tr sc d 114 (164, [l0, l1, l2, l3, l4, l5, l6, l7, l8, l9, l10, l11, l12, l13], [.long j0], h) Q = Tr sc d 114 (204, [l0, l1, l2, l3, l4, l5, l6, l7, l8, l9, l10, l11, l12, l13], [.long j0], h) Q := t_go k_114_164 rfl
theorem k_114_167 : lk 114 167 = some (.aload_n 0, 168, 0, 0, .null) := by decide +kernel
theorem x_114_167 : Tr sc d 114 (167, [some (.ref xk), l1, l2, l3, l4, l5, l6, l7, l8, l9, l10, l11, l12, l13], [], h) Q = Tr sc d 114 (168, [some (.ref xk), l1, l2, l3, l4, l5, l6, l7, l8, l9, l10, l11, l12, l13], [.ref xk], h) Q := t_aload_n k_114_167 rfl
theorem k_114_168 : lk 114 168 = some (.getfield 39, 171, 9, 5, .null) := by decide +kernel
theorem x_114_168 : Tr sc d 114 (168, [l0, l1, l2, l3, l4, l5, l6, l7, l8, l9, l10, l11, l12, l13], [.ref k0], h) Q = (okp h k0 9 = true ∧ ∃ q, hR h k0 5 = some q ∧ Tr sc d 114 (171, [l0, l1, l2, l3, l4, l5, l6, l7, l8, l9, l10, l11, l12, l13], [.ref q], h) Q) := t_getr k_114_168
theorem k_114_171 : lk 114 171 = some (.getfield 253, 174, 0, 0, .long 0) := by decide +kernel
theorem x_114_171 : Tr sc d 114 (171, [l0, l1, l2, l3, l4, l5, l6, l7, l8, l9, l10, l11, l12, l13], [.ref k0], h) Q = (okp h k0 0 = true ∧ Tr sc d 114 (174, [l0, l1, l2, l3, l4, l5, l6, l7, l8, l9, l10, l11, l12, l13], [.long (hL h k0 0)], h) Q) := t_gd k_114_171 rfl
theorem k_114_174 : lk 114 174 = some (.lload 10, 176, 10, 0, .null) := by decide +kernel
theorem x_114_174 : Tr sc d 114 (174, [l0, l1, l2, l3, l4, l5, l6, l7, l8, l9, some (.long xl), l11, l12, l13], [.long j0], h) Q = Tr sc d 114 (176, [l0, l1, l2, l3, l4, l5, l6, l7, l8, l9, some (.long xl), l11, l12, l13], [.long xl, .long j0], h) Q := t_lload k_114_174 rfl
theorem k_114_176 : lk 114 176 = some (.lmul, 177, 0, 0, .null) := by decide +kernel
theorem x_114_176 : Tr sc d 114 (176, [l0, l1, l2, l3, l4, l5, l6, l7, l8, l9, l10, l11, l12, l13], [.long j1, .long j0], h) Q = Tr sc d 114 (177, [l0, l1, l2, l3, l4, l5, l6, l7, l8, l9, l10, l11, l12, l13], [.long (j0 * j1)], h) Q := t_go k_114_176 rfl
theorem k_114_177 : lk 114 177 = some (.aload_n 0, 178, 0, 0, .null) := by decide +kernel
theorem x_114_177 : Tr sc d 114 (177, [some (.ref xk), l1, l2, l3, l4, l5, l6, l7, l8, l9, l10, l11, l12, l13], [.long j0], h) Q = Tr sc d 114 (178, [some (.ref xk), l1, l2, l3, l4, l5, l6, l7, l8, l9, l10, l11, l12, l13], [.ref xk, .long j0], h) Q := t_aload_n k_114_177 rfl
theorem k_114_178 : lk 114 178 = some (.getfield 39, 181, 9, 5, .null) := by decide +kernel
theorem x_114_178 : Tr sc d 114 (178, [l0, l1, l2, l3, l4, l5, l6, l7, l8, l9, l10, l11, l12, l13], [.ref k1, .long j0], h) Q = (okp h k1 9 = true ∧ ∃ q, hR h k1 5 = some q ∧ Tr sc d 114 (181, [l0, l1, l2, l3, l4, l5, l6, l7, l8, l9, l10, l11, l12, l13], [.ref q, .long j0], h) Q) := t_getr k_114_178
theorem k_114_181 : lk 114 181 = some (.getfield 256, 184, 0, 1, .long 0) := by decide +kernel
theorem x_114_181 : Tr sc d 114 (181, [l0, l1, l2, l3, l4, l5, l6, l7, l8, l9, l10, l11, l12, l13], [.ref k1, .long j0], h) Q = (okp h k1 0 = true ∧ Tr sc d 114 (184, [l0, l1, l2, l3, l4, l5, l6, l7, l8, l9, l10, l11, l12, l13], [.long (hL h k1 1), .long j0], h) Q) := t_gd k_114_181 rfl
theorem k_114_184 : lk 114 184 = some (.aload_n 0, 185, 0, 0, .null) := by decide +kernel
theorem x_114_184 : Tr sc d 114 (184, [some (.ref xk), l1, l2, l3, l4, l5, l6, l7, l8, l9, l10, l11, l12, l13], [.long j1, .long j0], h) Q = Tr sc d 114 (185, [some (.ref xk), l1, l2, l3, l4, l5, l6, l7, l8, l9, l10, l11, l12, l13], [.ref xk, .long j1, .long j0], h) Q := t_aload_n k_114_184 rfl
theorem k_114_185 : lk 114 185 = some (.getfield 43, 188, 9, 6, .null) := by decide +kernel
theorem x_114_185 : Tr sc d 114 (185, [l0, l1, l2, l3, l4, l5, l6, l7, l8, l9, l10, l11, l12, l13], [.ref k2, .long j1, .long j0], h) Q = (okp h k2 9 = true ∧ ∃ q, hR h k2 6 = some q ∧ Tr sc d 114 (188, [l0, l1, l2, l3, l4, l5, l6, l7, l8, l9, l10, l11, l12, l13], [.ref q, .long j1, .long j0], h) Q) := t_getr k_114_185
theorem k_114_188 : lk 114 188 = some (.invokevirtual 250, 191, 7, 0, .null) := by decide +kernel
theorem x_114_188 : Tr sc (d + 1) 114 (188, [l0, l1, l2, l3, l4, l5, l6, l7, l8, l9, l10, l11, l12, l13], [.ref k2, .long j1, .long j0], h) Q = (okp h k2 0 = true ∧ Tr sc d 7 (ent0 7 [.ref k2] h) (fun z => Tr sc (d + 1) 114 (191, [l0, l1, l2, l3, l4, l5, l6, l7, l8, l9, l10, l11, l12, l13], z.1.toList ++ [.long j1, .long j0], z.2) Q)) := t_cv (as := []) (r := [.long j1, .long j0]) k_114_188 rfl rfl (Nat.le_of_ble_eq_true rfl) (Nat.le_of_ble_eq_true rfl) (Nat.le_of_ble_eq_true rfl)
theorem k_114_191 : lk 114 191 = some (.lmul, 192, 0, 0, .null) := by decide +kernel
theorem x_114_191 : Tr sc d 114 (191, [l0, l1, l2, l3, l4, l5, l6, l7, l8, l9, l10, l11, l12, l13], [.long j2, .long j1, .long j0], h) Q = Tr sc d 114 (192, [l0, l1, l2, l3, l4, l5, l6, l7, l8, l9, l10, l11, l12, l13], [.long (j1 * j2), .long j0], h) Q := t_go k_114_191 rfl
theorem k_114_192 : lk 114 192 = some (.ladd, 193, 0, 0, .null) := by decide +kernel
theorem x_114_192 : Tr sc d 114 (192, [l0, l1, l2, l3, l4, l5, l6, l7, l8, l9, l10, l11, l12, l13], [.long j1, .long j0], h) Q = Tr sc d 114 (193, [l0, l1, l2, l3, l4, l5, l6, l7, l8, l9, l10, l11, l12, l13], [.long (j0 + j1)], h) Q := t_go k_114_192 rfl
theorem k_114_193 : lk 114 193 = some (.aload_n 0, 194, 0, 0, .null) := by decide +kernel
theorem x_114_193 : Tr sc d 114 (193, [some (.ref xk), l1, l2, l3, l4, l5, l6, l7, l8, l9, l10, l11, l12, l13], [.long j0], h) Q = Tr sc d 114 (194, [some (.ref xk), l1, l2, l3, l4, l5, l6, l7, l8, l9, l10, l11, l12, l13], [.ref xk, .long j0], h) Q := t_aload_n k_114_193 rfl
theorem k_114_194 : lk 114 194 = some (.getfield 39, 197, 9, 5, .null) := by decide +kernel
theorem x_114_194 : Tr sc d 114 (194, [l0, l1, l2, l3, l4, l5, l6, l7, l8, l9, l10, l11, l12, l13], [.ref k1, .long j0], h) Q = (okp h k1 9 = true ∧ ∃ q, hR h k1 5 = some q ∧ Tr sc d 114 (197, [l0, l1, l2, l3, l4, l5, l6, l7, l8, l9, l10, l11, l12, l13], [.ref q, .long j0], h) Q) := t_getr k_114_194
theorem k_114_197 : lk 114 197 = some (.getfield 235, 200, 0, 4, .long 0) := by decide +kernel
theorem x_114_197 : Tr sc d 114 (197, [l0, l1, l2, l3, l4, l5, l6, l7, l8, l9, l10, l11, l12, l13], [.ref k1, .long j0], h) Q = (okp h k1 0 = true ∧ Tr sc d 114 (200, [l0, l1, l2, l3, l4, l5, l6, l7, l8, l9, l10, l11, l12, l13], [.long (hL h k1 4), .long j0], h) Q) := t_gd k_114_197 rfl
theorem k_114_200 : lk 114 200 = some (.lload 8, 202, 8, 0, .null) := by decide +kernel
theorem x_114_200 : Tr sc d 114 (200, [l0, l1, l2, l3, l4, l5, l6, l7, some (.long xl), l9, l10, l11, l12, l13], [.long j1, .long j0], h) Q = Tr sc d 114 (202, [l0, l1, l2, l3, l4, l5, l6, l7, some (.long xl), l9, l10, l11, l12, l13], [.long xl, .long j1, .long j0], h) Q := t_lload k_114_200 rfl
theorem k_114_202 : lk 114 202 = some (.lmul, 203, 0, 0, .null) := by decide +kernel
theorem x_114_202 : Tr sc d 114 (202, [l0, l1, l2, l3, l4, l5, l6, l7, l8, l9, l10, l11, l12, l13], [.long j2, .long j1, .long j0], h) Q = Tr sc d 114 (203, [l0, l1, l2, l3, l4, l5, l6, l7, l8, l9, l10, l11, l12, l13], [.long (j1 * j2), .long j0], h) Q := t_go k_114_202 rfl
theorem k_114_203 : lk 114 203 = some (.ladd, 204, 0, 0, .null) := by decide +kernel
theorem x_114_203 : Tr sc d 114 (203, [l0, l1, l2, l3, l4, l5, l6, l7, l8, l9, l10, l11, l12, l13], [.long j1, .long j0], h) Q = Tr sc d 114 (204, [l0, l1, l2, l3, l4, l5, l6, l7, l8, l9, l10, l11, l12, l13], [.long (j0 + j1)], h) Q := t_go k_114_203 rfl
theorem k_114_204 : lk 114 204 = some (.lstore 12, 206, 12, 0, .null) := by decide +kernel
theorem x_114_204 : Tr sc d 114 (204, [l0, l1, l2, l3, l4, l5, l6, l7, l8, l9, l10, l11, l12, l13], [.long j0], h) Q = Tr sc d 114 (206, [l0, l1, l2, l3, l4, l5, l6, l7, l8, l9, l10, cl2 l11, some (.long j0), none], [], h) Q := t_lstore k_114_204 (Nat.le_of_ble_eq_true rfl)
theorem k_114_206 : lk 114 206 = some (.aload_n 0, 207, 0, 0, .null) := by decide +kernel
theorem x_114_206 : Tr sc d 114 (206, [some (.ref xk), l1, l2, l3, l4, l5, l6, l7, l8, l9, l10, l11, l12, l13], [], h) Q = Tr sc d 114 (207, [some (.ref xk), l1, l2, l3, l4, l5, l6, l7, l8, l9, l10, l11, l12, l13], [.ref xk], h) Q := t_aload_n k_114_206 rfl
theorem k_114_207 : lk 114 207 = some (.lload 12, 209, 12, 0, .null) := by decide +kernel
theorem x_114_207 : Tr sc d 114 (207, [l0, l1, l2, l3, l4, l5, l6, l7, l8, l9, l10, l11, some (.long xl), l13], [.ref k0], h) Q = Tr sc d 114 (209, [l0, l1, l2, l3, l4, l5, l6, l7, l8, l9, l10, l11, some (.long xl), l13], [.long xl, .ref k0], h) Q := t_lload k_114_207 rfl
theorem k_114_209 : lk 114 209 = some (.aload_n 0, 210, 0, 0, .null) := by decide +kernel
theorem x_114_209 : Tr sc d 114 (209, [some (.ref xk), l1, l2, l3, l4, l5, l6, l7, l8, l9, l10, l11, l12, l13], [.long j1, .ref k0], h) Q = Tr sc d 114 (210, [some (.ref xk), l1, l2, l3, l4, l5, l6, l7, l8, l9, l10, l11, l12, l13], [.ref xk, .long j1, .ref k0], h) Q := t_aload_n k_114_209 rfl
theorem k_114_210 : lk 114 210 = some (.getfield 39, 213, 9, 5, .null) := by decide +kernel
theorem x_114_210 : Tr sc d 114 (210, [l0, l1, l2, l3, l4, l5, l6, l7, l8, l9, l10, l11, l12, l13], [.ref k2, .long j1, .ref k0], h) Q = (okp h k2 9 = true ∧ ∃ q, hR h k2 5 = some q ∧ Tr sc d 114 (213, [l0, l1, l2, l3, l4, l5, l6, l7, l8, l9, l10, l11, l12, l13], [.ref q, .long j1, .ref k0], h) Q) := t_getr k_114_210
theorem k_114_213 : lk 114 213 = some (.getfield 259, 216, 0, 6, .long 0) := by decide +kernel
theorem x_114_213 : Tr sc d 114 (213, [l0, l1, l2, l3, l4, l5, l6, l7, l8, l9, l10, l11, l12, l13], [.ref k2, .long j1, .ref k0], h) Q = (okp h k2 0 = true ∧ Tr sc d 114 (216, [l0, l1, l2, l3, l4, l5, l6, l7, l8, l9, l10, l11, l12, l13], [.long (hL h k2 6), .long j1, .ref k0], h) Q) := t_gd k_114_213 rfl
theorem k_114_216 : lk 114 216 = some (.lload 8, 218, 8, 0, .null) := by decide +kernel
theorem x_114_216 : Tr sc d 114 (216, [l0, l1, l2, l3, l4, l5, l6, l7, some (.long xl), l9, l10, l11, l12, l13], [.long j2, .long j1, .ref k0], h) Q = Tr sc d 114 (218, [l0, l1, l2, l3, l4, l5, l6, l7, some (.long xl), l9, l10, l11, l12, l13], [.long xl, .long j2, .long j1, .ref k0], h) Q := t_lload k_114_216 rfl
theorem k_114_218 : lk 114 218 = some (.lmul, 219, 0, 0, .null) := by decide +kernel
theorem x_114_218 : Tr sc d 114 (218, [l0, l1, l2, l3, l4, l5, l6, l7, l8, l9, l10, l11, l12, l13], [.long j3, .long j2, .long j1, .ref k0], h) Q = Tr sc d 114 (219, [l0, l1, l2, l3, l4, l5, l6, l7, l8, l9, l10, l11, l12, l13], [.long (j2 * j3), .long j1, .ref k0], h) Q := t_go k_114_218 rfl
theorem k_114_219 : lk 114 219 = some (.invokevirtual 262, 222, 154, 2, .null) := by decide +kernel
theorem x_114_219 : Tr sc (d + 1) 114 (219, [l0, l1, l2, l3, l4, l5, l6, l7, l8, l9, l10, l11, l12, l13], [.long j2, .long j1, .ref k0], h) Q = (okp h k0 9 = true ∧ Tr sc d 154 (ent0 154 [.ref k0, .long j1, .long j2] h) (fun z => Tr sc (d + 1) 114 (222, [l0, l1, l2, l3, l4, l5, l6, l7, l8, l9, l10, l11, l12, l13], z.1.toList ++ [], z.2) Q)) := t_cv (as := [.long j1, .long j2]) (r := []) k_114_219 rfl rfl (Nat.le_of_ble_eq_true rfl) (Nat.le_of_ble_eq_true rfl) (Nat.le_of_ble_eq_true rfl)
theorem k_114_222 : lk 114 222 = some (.iconst 1, 223, 0, 0, .int 1) := by decide +kernel
theorem x_114_222 : Tr sc d 114 (222, [l0, l1, l2, l3, l4, l5, l6, l7, l8, l9, l10, l11, l12, l13], [], h) Q = Tr sc d 114 (223, [l0, l1, l2, l3, l4, l5, l6, l7, l8, l9, l10, l11, l12, l13], [.int 1], h) Q := t_go k_114_222 rfl
theorem k_114_223 : lk 114 223 = some (.ireturn, 224, 0, 0, .null) := by decide +kernel
theorem x_114_223 : Tr sc d 114 (223, [l0, l1, l2, l3, l4, l5, l6, l7, l8, l9, l10, l11, l12, l13], [.int i0], h) Q = Q (some (.int i0), h) := t_ret k_114_223 (by rw [r_114]; rfl)
theorem e_114 : Tr sc d 114 (ent0 114 [.ref k0, .int i1, .int i2, .int i3, .int i4, .int i5] h) Q = Tr sc d 114 (0, [some (.ref k0), some (.int i1), some (.int i2), some (.int i3), some (.int i4), some (.int i5), none, none, none, none, none, none, none, none], [], h) Q := by
  have e : mL 114 = 14 := by decide +kernel
  unfold ent0
  rw [e]
  rfl
theorem r_115 : mR 115 = some .int := by decide +kernel
theorem k_115_0 : lk 115 0 = some (.aload_n 0, 1, 0, 0, .null) := by decide +kernel
theorem x_115_0 : Tr sc d 115 (0, [some (.ref xk), l1, l2, l3], [], h) Q = Tr sc d 115 (1, [some (.ref xk), l1, l2, l3], [.ref xk], h) Q := t_aload_n k_115_0 rfl
theorem k_115_1 : lk 115 1 = some (.iload_n 1, 2, 1, 0, .null) := by decide +kernel
theorem x_115_1 : Tr sc d 115 (1, [l0, some (.int x), l2, l3], [.ref k0], h) Q = Tr sc d 115 (2, [l0, some (.int x), l2, l3], [.int x, .ref k0], h) Q := t_iload_n k_115_1 rfl
theorem k_115_2 : lk 115 2 = some (.iload_n 2, 3, 2, 0, .null) := by decide +kernel
theorem x_115_2 : Tr sc d 115 (2, [l0, l1, some (.int x), l3], [.int i1, .ref k0], h) Q = Tr sc d 115 (3, [l0, l1, some (.int x), l3], [.int x, .int i1, .ref k0], h) Q := t_iload_n k_115_2 rfl
theorem k_115_3 : lk 115 3 = some (.ifCond .lt 13, 6, 16, 0, .null) := by decide +kernel
theorem x_115_3 : Tr sc d 115 (3, [l0, l1, l2, l3], [.int i2, .int i1, .ref k0], h) Q = if i2 < 0 then Tr sc d 115 (16, [l0, l1, l2, l3], [.int i1, .ref k0], h) Q else Tr sc d 115 (6, [l0, l1, l2, l3], [.int i1, .ref k0], h) Q := t_if k_115_3 rfl
theorem k_115_6 : lk 115 6 = some (.iload_n 2, 7, 2, 0, .null) := by decide +kernel
theorem x_115_6 : Tr sc d 115 (6, [l0, l1, some (.int x), l3], [.int i1, .ref k0], h) Q = Tr sc d 115 (7, [l0, l1, some (.int x), l3], [.int x, .int i1, .ref k0], h) Q := t_iload_n k_115_6 rfl
theorem k_115_7 : lk 115 7 = some (.bipush 6, 9, 0, 0, .int 6) := by decide +kernel
theorem x_115_7 : Tr sc d 115 (7, [l0, l1, l2, l3], [.int i2, .int i1, .ref k0], h) Q = Tr sc d 115 (9, [l0, l1, l2, l3], [.int 6, .int i2, .int i1, .ref k0], h) Q := t_go k_115_7 rfl
theorem k_115_9 : lk 115 9 = some (.if_icmp .gt 7, 12, 16, 0, .null) := by decide +kernel
theorem x_115_9 : Tr sc d 115 (9, [l0, l1, l2, l3], [.int i3, .int i2, .int i1, .ref k0], h) Q = if i3 < i2 then Tr sc d 115 (16, [l0, l1, l2, l3], [.int i1, .ref k0], h) Q else Tr sc d 115 (12, [l0, l1, l2, l3], [.int i1, .ref k0], h) Q := t_if k_115_9 rfl
theorem k_115_12 : lk 115 12 = some (.iconst 1, 13, 0, 0, .int 1) := by decide +kernel
theorem x_115_12 : Tr sc d 115 (12, [l0, l1, l2, l3], [.int i1, .ref k0], h) Q = Tr sc d 115 (13, [l0, l1, l2, l3], [.int 1, .int i1, .ref k0], h) Q := t_go k_115_12 rfl
theorem k_115_13 : lk 115 13 = some (.goto 4, 16, 17, 0, .null) := by decide +kernel
theorem x_115_13 : Tr sc d 115 (13, [l0, l1, l2, l3], [.int i2, .int i1, .ref k0], h) Q = Tr sc d 115 (17, [l0, l1, l2, l3], [.int i2, .int i1, .ref k0], h) Q := t_go k_115_13 rfl
theorem k_115_16 : lk 115 16 = some (.iconst 0, 17, 0, 0, .int 0) := by decide +kernel
theorem x_115_16 : Tr sc d 115 (16, [l0, l1, l2, l3], [.int i1, .ref k0], h) Q = Tr sc d 115 (17, [l0, l1, l2, l3], [.int 0, .int i1, .ref k0], h) Q := t_go k_115_16 rfl
theorem k_115_17 : lk 115 17 = some (.invokevirtual 196, 20, 146, 2, .null) := by decide +kernel
theorem x_115_17 : Tr sc (d + 1) 115 (17, [l0, l1, l2, l3], [.int i2, .int i1, .ref k0], h) Q = (okp h k0 9 = true ∧ Tr sc d 146 (ent0 146 [.ref k0, .int i1, .int i2] h) (fun z => Tr sc (d + 1) 115 (20, [l0, l1, l2, l3], z.1.toList ++ [], z.2) Q)) := t_cv (as := [.int i1, .int i2]) (r := []) k_115_17 rfl rfl (Nat.le_of_ble_eq_true rfl) (Nat.le_of_ble_eq_true rfl) (Nat.le_of_ble_eq_true rfl)
theorem k_115_20 : lk 115 20 = some (.istore_n 3, 21, 3, 0, .null) := by decide +kernel
theorem x_115_20 : Tr sc d 115 (20, [l0, l1, l2, l3], [.int i0], h) Q = Tr sc d 115 (21, [l0, l1, cl2 l2, some (.int i0)], [], h) Q := t_istore_n k_115_20 (Nat.le_of_ble_eq_true rfl)
theorem k_115_21 : lk 115 21 = some (.iload_n 3, 22, 3, 0, .null) := by decide +kernel
theorem x_115_21 : Tr sc d 115 (21, [l0, l1, l2, some (.int x)], [], h) Q = Tr sc d 115 (22, [l0, l1, l2, some (.int x)], [.int x], h) Q := t_iload_n k_115_21 rfl
theorem k_115_22 : lk 115 22 = some (.ifCond .eq 5, 25, 27, 0, .null) := by decide +kernel
theorem x_115_22 : Tr sc d 115 (22, [l0, l1, l2, l3], [.int i0], h) Q = if i0 = 0 then Tr sc d 115 (27, [l0, l1, l2, l3], [], h) Q else Tr sc d 115 (25, [l0, l1, l2, l3], [], h) Q := t_if k_115_22 rfl
theorem k_115_25 : lk 115 25 = some (.iload_n 3, 26, 3, 0, .null) := by decide +kernel
theorem x_115_25 : Tr sc d 115 (25, [l0, l1, l2, some (.int x)], [], h) Q = Tr sc d 115 (26, [l0, l1, l2, some (.int x)], [.int x], h) Q := t_iload_n k_115_25 rfl
theorem k_115_26 : lk 115 26 = some (.ireturn, 27, 0, 0, .null) := by decide +kernel
theorem x_115_26 : Tr sc d 115 (26, [l0, l1, l2, l3], [.int i0], h) Q = Q (some (.int i0), h) := t_ret k_115_26 (by rw [r_115]; rfl)
theorem k_115_27 : lk 115 27 = some (.aload_n 0, 28, 0, 0, .null) := by decide +kernel
theorem x_115_27 : Tr sc d 115 (27, [some (.ref xk), l1, l2, l3], [], h) Q = Tr sc d 115 (28, [some (.ref xk), l1, l2, l3], [.ref xk], h) Q := t_aload_n k_115_27 rfl
theorem k_115_28 : lk 115 28 = some (.aload_n 0, 29, 0, 0, .null) := by decide +kernel
theorem x_115_28 : Tr sc d 115 (28, [some (.ref xk), l1, l2, l3], [.ref k0], h) Q = Tr sc d 115 (29, [some (.ref xk), l1, l2, l3], [.ref xk, .ref k0], h) Q := t_aload_n k_115_28 rfl
theorem k_115_29 : lk 115 29 = some (.getfield 20, 32, 9, 2, .null) := by decide +kernel
theorem x_115_29 : Tr sc d 115 (29, [l0, l1, l2, l3], [.ref k1, .ref k0], h) Q = (okp h k1 9 = true ∧ ∃ q, hR h k1 2 = some q ∧ Tr sc d 115 (32, [l0, l1, l2, l3], [.ref q, .ref k0], h) Q) := t_getr k_115_29
theorem k_115_32 : lk 115 32 = some (.iload_n 1, 33, 1, 0, .null) := by decide +kernel
theorem x_115_32 : Tr sc d 115 (32, [l0, some (.int x), l2, l3], [.ref k1, .ref k0], h) Q = Tr sc d 115 (33, [l0, some (.int x), l2, l3], [.int x, .ref k1, .ref k0], h) Q := t_iload_n k_115_32 rfl
theorem k_115_33 : lk 115 33 = some (.aaload, 34, 0, 0, .null) := by decide +kernel
theorem x_115_33 : Tr sc d 115 (33, [l0, l1, l2, l3], [.int i2, .ref k1, .ref k0], h) Q = (((okp h k1 14 || okp h k1 15) && inb i2 (LN k1)) = true ∧ ∃ q, hR h k1 i2.toNatClampNeg = some q ∧ Tr sc d 115 (34, [l0, l1, l2, l3], [.ref q, .ref k0], h) Q) := t_aald k_115_33
theorem k_115_34 : lk 115 34 = some (.iload_n 2, 35, 2, 0, .null) := by decide +kernel
theorem x_115_34 : Tr sc d 115 (34, [l0, l1, some (.int x), l3], [.ref k1, .ref k0], h) Q = Tr sc d 115 (35, [l0, l1, some (.int x), l3], [.int x, .ref k1, .ref k0], h) Q := t_iload_n k_115_34 rfl
theorem k_115_35 : lk 115 35 = some (.invokevirtual 266, 38, 67, 1, .null) := by decide +kernel
theorem x_115_35 : Tr sc (d + 1) 115 (35, [l0, l1, l2, l3], [.int i2, .ref k1, .ref k0], h) Q = (okp h k1 6 = true ∧ Tr sc d 67 (ent0 67 [.ref k1, .int i2] h) (fun z => Tr sc (d + 1) 115 (38, [l0, l1, l2, l3], z.1.toList ++ [.ref k0], z.2) Q)) := t_cv (as := [.int i2]) (r := [.ref k0]) k_115_35 rfl rfl (Nat.le_of_ble_eq_true rfl) (Nat.le_of_ble_eq_true rfl) (Nat.le_of_ble_eq_true rfl)
theorem k_115_38 : lk 115 38 = some (.putfield 101, 41, 9, 16, .long 0) := by decide +kernel
theorem x_115_38 : Tr sc d 115 (38, [l0, l1, l2, l3], [.long j1, .ref k0], h) Q = (okp h k0 9 = true ∧ Tr sc d 115 (41, [l0, l1, l2, l3], [], (sL h k0 16 j1)) Q) := t_gd k_115_38 rfl
theorem k_115_41 : lk 115 41 = some (.iconst 1, 42, 0, 0, .int 1) := by decide +kernel
theorem x_115_41 : Tr sc d 115 (41, [l0, l1, l2, l3], [], h) Q = Tr sc d 115 (42, [l0, l1, l2, l3], [.int 1], h) Q := t_go k_115_41 rfl
theorem k_115_42 : lk 115 42 = some (.ireturn, 43, 0, 0, .null) := by decide +kernel
theorem x_115_42 : Tr sc d 115 (42, [l0, l1, l2, l3], [.int i0], h) Q = Q (some (.int i0), h) := t_ret k_115_42 (by rw [r_115]; rfl)
theorem e_115 : Tr sc d 115 (ent0 115 [.ref k0, .int i1, .int i2] h) Q = Tr sc d 115 (0, [some (.ref k0), some (.int i1), some (.int i2), none], [], h) Q := by
  have e : mL 115 = 4 := by decide +kernel
  unfold ent0
  rw [e]
  rfl
theorem r_116 : mR 116 = some .int := by decide +kernel
theorem k_116_0 : lk 116 0 = some (.aload_n 0, 1, 0, 0, .null) := by decide +kernel
theorem x_116_0 : Tr sc d 116 (0, [some (.ref xk), l1, l2, l3], [], h) Q = Tr sc d 116 (1, [some (.ref xk), l1, l2, l3], [.ref xk], h) Q := t_aload_n k_116_0 rfl
theorem k_116_1 : lk 116 1 = some (.iload_n 1, 2, 1, 0, .null) := by decide +kernel
theorem x_116_1 : Tr sc d 116 (1, [l0, some (.int x), l2, l3], [.ref k0], h) Q = Tr sc d 116 (2, [l0, some (.int x), l2, l3], [.int x, .ref k0], h) Q := t_iload_n k_116_1 rfl
theorem k_116_2 : lk 116 2 = some (.iload_n 2, 3, 2, 0, .null) := by decide +kernel
theorem x_116_2 : Tr sc d 116 (2, [l0, l1, some (.int x), l3], [.int i1, .ref k0], h) Q = Tr sc d 116 (3, [l0, l1, some (.int x), l3], [.int x, .int i1, .ref k0], h) Q := t_iload_n k_116_2 rfl
theorem k_116_3 : lk 116 3 = some (.iconst 5, 4, 0, 0, .int 5) := by decide +kernel
theorem x_116_3 : Tr sc d 116 (3, [l0, l1, l2, l3], [.int i2, .int i1, .ref k0], h) Q = Tr sc d 116 (4, [l0, l1, l2, l3], [.int 5, .int i2, .int i1, .ref k0], h) Q := t_go k_116_3 rfl
theorem k_116_4 : lk 116 4 = some (.invokestatic 270, 7, 144, 2, .null) := by decide +kernel
theorem x_116_4 : Tr sc (d + 1) 116 (4, [l0, l1, l2, l3], [.int i3, .int i2, .int i1, .ref k0], h) Q = Tr sc d 144 (ent0 144 [.int i2, .int i3] h) (fun z => Tr sc (d + 1) 116 (7, [l0, l1, l2, l3], z.1.toList ++ [.int i1, .ref k0], z.2) Q) := t_cs (as := [.int i2, .int i3]) (r := [.int i1, .ref k0]) k_116_4 (by decide) rfl rfl (Nat.le_of_ble_eq_true rfl) (Nat.le_of_ble_eq_true rfl)
theorem k_116_7 : lk 116 7 = some (.invokevirtual 196, 10, 146, 2, .null) := by decide +kernel
theorem x_116_7 : Tr sc (d + 1) 116 (7, [l0, l1, l2, l3], [.int i2, .int i1, .ref k0], h) Q = (okp h k0 9 = true ∧ Tr sc d 146 (ent0 146 [.ref k0, .int i1, .int i2] h) (fun z => Tr sc (d + 1) 116 (10, [l0, l1, l2, l3], z.1.toList ++ [], z.2) Q)) := t_cv (as := [.int i1, .int i2]) (r := []) k_116_7 rfl rfl (Nat.le_of_ble_eq_true rfl) (Nat.le_of_ble_eq_true rfl) (Nat.le_of_ble_eq_true rfl)
theorem k_116_10 : lk 116 10 = some (.istore_n 3, 11, 3, 0, .null) := by decide +kernel
theorem x_116_10 : Tr sc d 116 (10, [l0, l1, l2, l3], [.int i0], h) Q = Tr sc d 116 (11, [l0, l1, cl2 l2, some (.int i0)], [], h) Q := t_istore_n k_116_10 (Nat.le_of_ble_eq_true rfl)
theorem k_116_11 : lk 116 11 = some (.iload_n 3, 12, 3, 0, .null) := by decide +kernel
theorem x_116_11 : Tr sc d 116 (11, [l0, l1, l2, some (.int x)], [], h) Q = Tr sc d 116 (12, [l0, l1, l2, some (.int x)], [.int x], h) Q := t_iload_n k_116_11 rfl
theorem k_116_12 : lk 116 12 = some (.ifCond .eq 5, 15, 17, 0, .null) := by decide +kernel
theorem x_116_12 : Tr sc d 116 (12, [l0, l1, l2, l3], [.int i0], h) Q = if i0 = 0 then Tr sc d 116 (17, [l0, l1, l2, l3], [], h) Q else Tr sc d 116 (15, [l0, l1, l2, l3], [], h) Q := t_if k_116_12 rfl
theorem k_116_15 : lk 116 15 = some (.iload_n 3, 16, 3, 0, .null) := by decide +kernel
theorem x_116_15 : Tr sc d 116 (15, [l0, l1, l2, some (.int x)], [], h) Q = Tr sc d 116 (16, [l0, l1, l2, some (.int x)], [.int x], h) Q := t_iload_n k_116_15 rfl
theorem k_116_16 : lk 116 16 = some (.ireturn, 17, 0, 0, .null) := by decide +kernel
theorem x_116_16 : Tr sc d 116 (16, [l0, l1, l2, l3], [.int i0], h) Q = Q (some (.int i0), h) := t_ret k_116_16 (by rw [r_116]; rfl)
theorem k_116_17 : lk 116 17 = some (.aload_n 0, 18, 0, 0, .null) := by decide +kernel
theorem x_116_17 : Tr sc d 116 (17, [some (.ref xk), l1, l2, l3], [], h) Q = Tr sc d 116 (18, [some (.ref xk), l1, l2, l3], [.ref xk], h) Q := t_aload_n k_116_17 rfl
theorem k_116_18 : lk 116 18 = some (.getfield 51, 21, 9, 7, .null) := by decide +kernel
theorem x_116_18 : Tr sc d 116 (18, [l0, l1, l2, l3], [.ref k0], h) Q = (okp h k0 9 = true ∧ ∃ q, hR h k0 7 = some q ∧ Tr sc d 116 (21, [l0, l1, l2, l3], [.ref q], h) Q) := t_getr k_116_18
theorem k_116_21 : lk 116 21 = some (.aload_n 0, 22, 0, 0, .null) := by decide +kernel
theorem x_116_21 : Tr sc d 116 (21, [some (.ref xk), l1, l2, l3], [.ref k0], h) Q = Tr sc d 116 (22, [some (.ref xk), l1, l2, l3], [.ref xk, .ref k0], h) Q := t_aload_n k_116_21 rfl
theorem k_116_22 : lk 116 22 = some (.getfield 20, 25, 9, 2, .null) := by decide +kernel
theorem x_116_22 : Tr sc d 116 (22, [l0, l1, l2, l3], [.ref k1, .ref k0], h) Q = (okp h k1 9 = true ∧ ∃ q, hR h k1 2 = some q ∧ Tr sc d 116 (25, [l0, l1, l2, l3], [.ref q, .ref k0], h) Q) := t_getr k_116_22
theorem k_116_25 : lk 116 25 = some (.iload_n 1, 26, 1, 0, .null) := by decide +kernel
theorem x_116_25 : Tr sc d 116 (25, [l0, some (.int x), l2, l3], [.ref k1, .ref k0], h) Q = Tr sc d 116 (26, [l0, some (.int x), l2, l3], [.int x, .ref k1, .ref k0], h) Q := t_iload_n k_116_25 rfl
theorem k_116_26 : lk 116 26 = some (.aaload, 27, 0, 0, .null) := by decide +kernel
theorem x_116_26 : Tr sc d 116 (26, [l0, l1, l2, l3], [.int i2, .ref k1, .ref k0], h) Q = (((okp h k1 14 || okp h k1 15) && inb i2 (LN k1)) = true ∧ ∃ q, hR h k1 i2.toNatClampNeg = some q ∧ Tr sc d 116 (27, [l0, l1, l2, l3], [.ref q, .ref k0], h) Q) := t_aald k_116_26
theorem k_116_27 : lk 116 27 = some (.iload_n 2, 28, 2, 0, .null) := by decide +kernel
theorem x_116_27 : Tr sc d 116 (27, [l0, l1, some (.int x), l3], [.ref k1, .ref k0], h) Q = Tr sc d 116 (28, [l0, l1, some (.int x), l3], [.int x, .ref k1, .ref k0], h) Q := t_iload_n k_116_27 rfl
theorem k_116_28 : lk 116 28 = some (.invokevirtual 273, 31, 10, 2, .null) := by decide +kernel
theorem x_116_28 : Tr sc (d + 1) 116 (28, [l0, l1, l2, l3], [.int i2, .ref k1, .ref k0], h) Q = (okp h k0 1 = true ∧ Tr sc d 10 (ent0 10 [.ref k0, .ref k1, .int i2] h) (fun z => Tr sc (d + 1) 116 (31, [l0, l1, l2, l3], z.1.toList ++ [], z.2) Q)) := t_cv (as := [.ref k1, .int i2]) (r := []) k_116_28 rfl rfl (Nat.le_of_ble_eq_true rfl) (Nat.le_of_ble_eq_true rfl) (Nat.le_of_ble_eq_true rfl)
theorem k_116_31 : lk 116 31 = some (.aload_n 0, 32, 0, 0, .null) := by decide +kernel
theorem x_116_31 : Tr sc d 116 (31, [some (.ref xk), l1, l2, l3], [], h) Q = Tr sc d 116 (32, [some (.ref xk), l1, l2, l3], [.ref xk], h) Q := t_aload_n k_116_31 rfl
theorem k_116_32 : lk 116 32 = some (.aload_n 0, 33, 0, 0, .null) := by decide +kernel
theorem x_116_32 : Tr sc d 116 (32, [some (.ref xk), l1, l2, l3], [.ref k0], h) Q = Tr sc d 116 (33, [some (.ref xk), l1, l2, l3], [.ref xk, .ref k0], h) Q := t_aload_n k_116_32 rfl
theorem k_116_33 : lk 116 33 = some (.getfield 51, 36, 9, 7, .null) := by decide +kernel
theorem x_116_33 : Tr sc d 116 (33, [l0, l1, l2, l3], [.ref k1, .ref k0], h) Q = (okp h k1 9 = true ∧ ∃ q, hR h k1 7 = some q ∧ Tr sc d 116 (36, [l0, l1, l2, l3], [.ref q, .ref k0], h) Q) := t_getr k_116_33
theorem k_116_36 : lk 116 36 = some (.getfield 277, 39, 1, 5, .int 0) := by decide +kernel
theorem x_116_36 : Tr sc d 116 (36, [l0, l1, l2, l3], [.ref k1, .ref k0], h) Q = (okp h k1 1 = true ∧ Tr sc d 116 (39, [l0, l1, l2, l3], [.int (hI h k1 5), .ref k0], h) Q) := t_gd k_116_36 rfl
theorem k_116_39 : lk 116 39 = some (.putfield 98, 42, 9, 15, .int 0) := by decide +kernel
theorem x_116_39 : Tr sc d 116 (39, [l0, l1, l2, l3], [.int i1, .ref k0], h) Q = (okp h k0 9 = true ∧ Tr sc d 116 (42, [l0, l1, l2, l3], [], (sI h k0 15 i1)) Q) := t_gd k_116_39 rfl
theorem k_116_42 : lk 116 42 = some (.aload_n 0, 43, 0, 0, .null) := by decide +kernel
theorem x_116_42 : Tr sc d 116 (42, [some (.ref xk), l1, l2, l3], [], h) Q = Tr sc d 116 (43, [some (.ref xk), l1, l2, l3], [.ref xk], h) Q := t_aload_n k_116_42 rfl
theorem k_116_43 : lk 116 43 = some (.getfield 51, 46, 9, 7, .null) := by decide +kernel
theorem x_116_43 : Tr sc d 116 (43, [l0, l1, l2, l3], [.ref k0], h) Q = (okp h k0 9 = true ∧ ∃ q, hR h k0 7 = some q ∧ Tr sc d 116 (46, [l0, l1, l2, l3], [.ref q], h) Q) := t_getr k_116_43
theorem k_116_46 : lk 116 46 = some (.getfield 280, 49, 1, 4, .int 0) := by decide +kernel
theorem x_116_46 : Tr sc d 116 (46, [l0, l1, l2, l3], [.ref k0], h) Q = (okp h k0 1 = true ∧ Tr sc d 116 (49, [l0, l1, l2, l3], [.int (hI h k0 4)], h) Q) := t_gd k_116_46 rfl
theorem k_116_49 : lk 116 49 = some (.ireturn, 50, 0, 0, .null) := by decide +kernel
theorem x_116_49 : Tr sc d 116 (49, [l0, l1, l2, l3], [.int i0], h) Q = Q (some (.int i0), h) := t_ret k_116_49 (by rw [r_116]; rfl)
theorem e_116 : Tr sc d 116 (ent0 116 [.ref k0, .int i1, .int i2] h) Q = Tr sc d 116 (0, [some (.ref k0), some (.int i1), some (.int i2), none], [], h) Q := by
  have e : mL 116 = 4 := by decide +kernel
  unfold ent0
  rw [e]
  rfl
theorem r_117 : mR 117 = some .int := by decide +kernel
theorem k_117_0 : lk 117 0 = some (.aload_n 0, 1, 0, 0, .null) := by decide +kernel
theorem x_117_0 : Tr sc d 117 (0, [some (.ref xk), l1, l2, l3, l4, l5, l6], [], h) Q = Tr sc d 117 (1, [some (.ref xk), l1, l2, l3, l4, l5, l6], [.ref xk], h) Q := t_aload_n k_117_0 rfl
theorem k_117_1 : lk 117 1 = some (.iload_n 1, 2, 1, 0, .null) := by decide +kernel
theorem x_117_1 : Tr sc d 117 (1, [l0, some (.int x), l2, l3, l4, l5, l6], [.ref k0], h) Q = Tr sc d 117 (2, [l0, some (.int x), l2, l3, l4, l5, l6], [.int x, .ref k0], h) Q := t_iload_n k_117_1 rfl
theorem k_117_2 : lk 117 2 = some (.iload_n 2, 3, 2, 0, .null) := by decide +kernel
theorem x_117_2 : Tr sc d 117 (2, [l0, l1, some (.int x), l3, l4, l5, l6], [.int i1, .ref k0], h) Q = Tr sc d 117 (3, [l0, l1, some (.int x), l3, l4, l5, l6], [.int x, .int i1, .ref k0], h) Q := t_iload_n k_117_2 rfl
theorem k_117_3 : lk 117 3 = some (.iconst 5, 4, 0, 0, .int 5) := by decide +kernel
theorem x_117_3 : Tr sc d 117 (3, [l0, l1, l2, l3, l4, l5, l6], [.int i2, .int i1, .ref k0], h) Q = Tr sc d 117 (4, [l0, l1, l2, l3, l4, l5, l6], [.int 5, .int i2, .int i1, .ref k0], h) Q := t_go k_117_3 rfl
theorem k_117_4 : lk 117 4 = some (.invokestatic 270, 7, 144, 2, .null) := by decide +kernel
theorem x_117_4 : Tr sc (d + 1) 117 (4, [l0, l1, l2, l3, l4, l5, l6], [.int i3, .int i2, .int i1, .ref k0], h) Q = Tr sc d 144 (ent0 144 [.int i2, .int i3] h) (fun z => Tr sc (d + 1) 117 (7, [l0, l1, l2, l3, l4, l5, l6], z.1.toList ++ [.int i1, .ref k0], z.2) Q) := t_cs (as := [.int i2, .int i3]) (r := [.int i1, .ref k0]) k_117_4 (by decide) rfl rfl (Nat.le_of_ble_eq_true rfl) (Nat.le_of_ble_eq_true rfl)
theorem k_117_7 : lk 117 7 = some (.invokevirtual 196, 10, 146, 2, .null) := by decide +kernel
theorem x_117_7 : Tr sc (d + 1) 117 (7, [l0, l1, l2, l3, l4, l5, l6], [.int i2, .int i1, .ref k0], h) Q = (okp h k0 9 = true ∧ Tr sc d 146 (ent0 146 [.ref k0, .int i1, .int i2] h) (fun z => Tr sc (d + 1) 117 (10, [l0, l1, l2, l3, l4, l5, l6], z.1.toList ++ [], z.2) Q)) := t_cv (as := [.int i1, .int i2]) (r := []) k_117_7 rfl rfl (Nat.le_of_ble_eq_true rfl) (Nat.le_of_ble_eq_true rfl) (Nat.le_of_ble_eq_true rfl)
theorem k_117_10 : lk 117 10 = some (.istore 5, 12, 5, 0, .null) := by decide +kernel
theorem x_117_10 : Tr sc d 117 (10, [l0, l1, l2, l3, l4, l5, l6], [.int i0], h) Q = Tr sc d 117 (12, [l0, l1, l2, l3, cl2 l4, some (.int i0), l6], [], h) Q := t_istore k_117_10 (Nat.le_of_ble_eq_true rfl)
theorem k_117_12 : lk 117 12 = some (.iload 5, 14, 5, 0, .null) := by decide +kernel
theorem x_117_12 : Tr sc d 117 (12, [l0, l1, l2, l3, l4, some (.int x), l6], [], h) Q = Tr sc d 117 (14, [l0, l1, l2, l3, l4, some (.int x), l6], [.int x], h) Q := t_iload k_117_12 rfl
theorem k_117_14 : lk 117 14 = some (.ifCond .eq 6, 17, 20, 0, .null) := by decide +kernel
theorem x_117_14 : Tr sc d 117 (14, [l0, l1, l2, l3, l4, l5, l6], [.int i0], h) Q = if i0 = 0 then Tr sc d 117 (20, [l0, l1, l2, l3, l4, l5, l6], [], h) Q else Tr sc d 117 (17, [l0, l1, l2, l3, l4, l5, l6], [], h) Q := t_if k_117_14 rfl
theorem k_117_17 : lk 117 17 = some (.iload 5, 19, 5, 0, .null) := by decide +kernel
theorem x_117_17 : Tr sc d 117 (17, [l0, l1, l2, l3, l4, some (.int x), l6], [], h) Q = Tr sc d 117 (19, [l0, l1, l2, l3, l4, some (.int x), l6], [.int x], h) Q := t_iload k_117_17 rfl
theorem k_117_19 : lk 117 19 = some (.ireturn, 20, 0, 0, .null) := by decide +kernel
theorem x_117_19 : Tr sc d 117 (19, [l0, l1, l2, l3, l4, l5, l6], [.int i0], h) Q = Q (some (.int i0), h) := t_ret k_117_19 (by rw [r_117]; rfl)
theorem k_117_20 : lk 117 20 = some (.aload_n 0, 21, 0, 0, .null) := by decide +kernel
theorem x_117_20 : Tr sc d 117 (20, [some (.ref xk), l1, l2, l3, l4, l5, l6], [], h) Q = Tr sc d 117 (21, [some (.ref xk), l1, l2, l3, l4, l5, l6], [.ref xk], h) Q := t_aload_n k_117_20 rfl
theorem k_117_21 : lk 117 21 = some (.getfield 51, 24, 9, 7, .null) := by decide +kernel
theorem x_117_21 : Tr sc d 117 (21, [l0, l1, l2, l3, l4, l5, l6], [.ref k0], h) Q = (okp h k0 9 = true ∧ ∃ q, hR h k0 7 = some q ∧ Tr sc d 117 (24, [l0, l1, l2, l3, l4, l5, l6], [.ref q], h) Q) := t_getr k_117_21
theorem k_117_24 : lk 117 24 = some (.aload_n 0, 25, 0, 0, .null) := by decide +kernel
theorem x_117_24 : Tr sc d 117 (24, [some (.ref xk), l1, l2, l3, l4, l5, l6], [.ref k0], h) Q = Tr sc d 117 (25, [some (.ref xk), l1, l2, l3, l4, l5, l6], [.ref xk, .ref k0], h) Q := t_aload_n k_117_24 rfl
theorem k_117_25 : lk 117 25 = some (.getfield 20, 28, 9, 2, .null) := by decide +kernel
theorem x_117_25 : Tr sc d 117 (25, [l0, l1, l2, l3, l4, l5, l6], [.ref k1, .ref k0], h) Q = (okp h k1 9 = true ∧ ∃ q, hR h k1 2 = some q ∧ Tr sc d 117 (28, [l0, l1, l2, l3, l4, l5, l6], [.ref q, .ref k0], h) Q) := t_getr k_117_25
theorem k_117_28 : lk 117 28 = some (.iload_n 1, 29, 1, 0, .null) := by decide +kernel
theorem x_117_28 : Tr sc d 117 (28, [l0, some (.int x), l2, l3, l4, l5, l6], [.ref k1, .ref k0], h) Q = Tr sc d 117 (29, [l0, some (.int x), l2, l3, l4, l5, l6], [.int x, .ref k1, .ref k0], h) Q := t_iload_n k_117_28 rfl
theorem k_117_29 : lk 117 29 = some (.aaload, 30, 0, 0, .null) := by decide +kernel
theorem x_117_29 : Tr sc d 117 (29, [l0, l1, l2, l3, l4, l5, l6], [.int i2, .ref k1, .ref k0], h) Q = (((okp h k1 14 || okp h k1 15) && inb i2 (LN k1)) = true ∧ ∃ q, hR h k1 i2.toNatClampNeg = some q ∧ Tr sc d 117 (30, [l0, l1, l2, l3, l4, l5, l6], [.ref q, .ref k0], h) Q) := t_aald k_117_29
theorem k_117_30 : lk 117 30 = some (.iload_n 2, 31, 2, 0, .null) := by decide +kernel
theorem x_117_30 : Tr sc d 117 (30, [l0, l1, some (.int x), l3, l4, l5, l6], [.ref k1, .ref k0], h) Q = Tr sc d 117 (31, [l0, l1, some (.int x), l3, l4, l5, l6], [.int x, .ref k1, .ref k0], h) Q := t_iload_n k_117_30 rfl
theorem k_117_31 : lk 117 31 = some (.invokevirtual 273, 34, 10, 2, .null) := by decide +kernel
theorem x_117_31 : Tr sc (d + 1) 117 (31, [l0, l1, l2, l3, l4, l5, l6], [.int i2, .ref k1, .ref k0], h) Q = (okp h k0 1 = true ∧ Tr sc d 10 (ent0 10 [.ref k0, .ref k1, .int i2] h) (fun z => Tr sc (d + 1) 117 (34, [l0, l1, l2, l3, l4, l5, l6], z.1.toList ++ [], z.2) Q)) := t_cv (as := [.ref k1, .int i2]) (r := []) k_117_31 rfl rfl (Nat.le_of_ble_eq_true rfl) (Nat.le_of_ble_eq_true rfl) (Nat.le_of_ble_eq_true rfl)
theorem k_117_34 : lk 117 34 = some (.aload_n 0, 35, 0, 0, .null) := by decide +kernel
theorem x_117_34 : Tr sc d 117 (34, [some (.ref xk), l1, l2, l3, l4, l5, l6], [], h) Q = Tr sc d 117 (35, [some (.ref xk), l1, l2, l3, l4, l5, l6], [.ref xk], h) Q := t_aload_n k_117_34 rfl
theorem k_117_35 : lk 117 35 = some (.getfield 51, 38, 9, 7, .null) := by decide +kernel
theorem x_117_35 : Tr sc d 117 (35, [l0, l1, l2, l3, l4, l5, l6], [.ref k0], h) Q = (okp h k0 9 = true ∧ ∃ q, hR h k0 7 = some q ∧ Tr sc d 117 (38, [l0, l1, l2, l3, l4, l5, l6], [.ref q], h) Q) := t_getr k_117_35
theorem k_117_38 : lk 117 38 = some (.iload_n 3, 39, 3, 0, .null) := by decide +kernel
theorem x_117_38 : Tr sc d 117 (38, [l0, l1, l2, some (.int x), l4, l5, l6], [.ref k0], h) Q = Tr sc d 117 (39, [l0, l1, l2, some (.int x), l4, l5, l6], [.int x, .ref k0], h) Q := t_iload_n k_117_38 rfl
theorem k_117_39 : lk 117 39 = some (.iload 4, 41, 4, 0, .null) := by decide +kernel
theorem x_117_39 : Tr sc d 117 (39, [l0, l1, l2, l3, some (.int x), l5, l6], [.int i1, .ref k0], h) Q = Tr sc d 117 (41, [l0, l1, l2, l3, some (.int x), l5, l6], [.int x, .int i1, .ref k0], h) Q := t_iload k_117_39 rfl
theorem k_117_41 : lk 117 41 = some (.invokevirtual 281, 44, 17, 2, .null) := by decide +kernel
theorem x_117_41 : Tr sc (d + 1) 117 (41, [l0, l1, l2, l3, l4, l5, l6], [.int i2, .int i1, .ref k0], h) Q = (okp h k0 1 = true ∧ Tr sc d 17 (ent0 17 [.ref k0, .int i1, .int i2] h) (fun z => Tr sc (d + 1) 117 (44, [l0, l1, l2, l3, l4, l5, l6], z.1.toList ++ [], z.2) Q)) := t_cv (as := [.int i1, .int i2]) (r := []) k_117_41 rfl rfl (Nat.le_of_ble_eq_true rfl) (Nat.le_of_ble_eq_true rfl) (Nat.le_of_ble_eq_true rfl)
theorem k_117_44 : lk 117 44 = some (.istore 6, 46, 6, 0, .null) := by decide +kernel
theorem x_117_44 : Tr sc d 117 (44, [l0, l1, l2, l3, l4, l5, l6], [.int i0], h) Q = Tr sc d 117 (46, [l0, l1, l2, l3, l4, cl2 l5, some (.int i0)], [], h) Q := t_istore k_117_44 (Nat.le_of_ble_eq_true rfl)
theorem k_117_46 : lk 117 46 = some (.iload 6, 48, 6, 0, .null) := by decide +kernel
theorem x_117_46 : Tr sc d 117 (46, [l0, l1, l2, l3, l4, l5, some (.int x)], [], h) Q = Tr sc d 117 (48, [l0, l1, l2, l3, l4, l5, some (.int x)], [.int x], h) Q := t_iload k_117_46 rfl
theorem k_117_48 : lk 117 48 = some (.ifCond .ge 7, 51, 55, 0, .null) := by decide +kernel
theorem x_117_48 : Tr sc d 117 (48, [l0, l1, l2, l3, l4, l5, l6], [.int i0], h) Q = if 0 ≤ i0 then Tr sc d 117 (55, [l0, l1, l2, l3, l4, l5, l6], [], h) Q else Tr sc d 117 (51, [l0, l1, l2, l3, l4, l5, l6], [], h) Q := t_if k_117_48 rfl
theorem k_117_51 : lk 117 51 = some (.iconst 0, 52, 0, 0, .int 0) := by decide +kernel
theorem x_117_51 : Tr sc d 117 (51, [l0, l1, l2, l3, l4, l5, l6], [], h) Q = Tr sc d 117 (52, [l0, l1, l2, l3, l4, l5, l6], [.int 0], h) Q := t_go k_117_51 rfl
theorem k_117_52 : lk 117 52 = some (.goto 13, 55, 65, 0, .null) := by decide +kernel
theorem x_117_52 : Tr sc d 117 (52, [l0, l1, l2, l3, l4, l5, l6], [.int i0], h) Q = Tr sc d 117 (65, [l0, l1, l2, l3, l4, l5, l6], [.int i0], h) Q := t_go k_117_52 rfl
theorem k_117_55 : lk 117 55 = some (.aload_n 0, 56, 0, 0, .null) := by decide +kernel
theorem x_117_55 : Tr sc d 117 (55, [some (.ref xk), l1, l2, l3, l4, l5, l6], [], h) Q = Tr sc d 117 (56, [some (.ref xk), l1, l2, l3, l4, l5, l6], [.ref xk], h) Q := t_aload_n k_117_55 rfl
theorem k_117_56 : lk 117 56 = some (.getfield 51, 59, 9, 7, .null) := by decide +kernel
theorem x_117_56 : Tr sc d 117 (56, [l0, l1, l2, l3, l4, l5, l6], [.ref k0], h) Q = (okp h k0 9 = true ∧ ∃ q, hR h k0 7 = some q ∧ Tr sc d 117 (59, [l0, l1, l2, l3, l4, l5, l6], [.ref q], h) Q) := t_getr k_117_56
theorem k_117_59 : lk 117 59 = some (.getfield 285, 62, 1, 1, .null) := by decide +kernel
theorem x_117_59 : Tr sc d 117 (59, [l0, l1, l2, l3, l4, l5, l6], [.ref k0], h) Q = (okp h k0 1 = true ∧ ∃ q, hR h k0 1 = some q ∧ Tr sc d 117 (62, [l0, l1, l2, l3, l4, l5, l6], [.ref q], h) Q) := t_getr k_117_59
theorem k_117_62 : lk 117 62 = some (.iload 6, 64, 6, 0, .null) := by decide +kernel
theorem x_117_62 : Tr sc d 117 (62, [l0, l1, l2, l3, l4, l5, some (.int x)], [.ref k0], h) Q = Tr sc d 117 (64, [l0, l1, l2, l3, l4, l5, some (.int x)], [.int x, .ref k0], h) Q := t_iload k_117_62 rfl
theorem k_117_64 : lk 117 64 = some (.iaload, 65, 0, 0, .null) := by decide +kernel
theorem x_117_64 : Tr sc d 117 (64, [l0, l1, l2, l3, l4, l5, l6], [.int i1, .ref k0], h) Q = (iOk sc h k0 i1 ∧ Tr sc d 117 (65, [l0, l1, l2, l3, l4, l5, l6], [.int (iRd sc h k0 i1)], h) Q) := t_iald k_117_64
theorem k_117_65 : lk 117 65 = some (.ireturn, 66, 0, 0, .null) := by decide +kernel
theorem x_117_65 : Tr sc d 117 (65, [l0, l1, l2, l3, l4, l5, l6], [.int i0], h) Q = Q (some (.int i0), h) := t_ret k_117_65 (by rw [r_117]; rfl)
theorem e_117 : Tr sc d 117 (ent0 117 [.ref k0, .int i1, .int i2, .int i3, .int i4] h) Q = Tr sc d 117 (0, [some (.ref k0), some (.int i1), some (.int i2), some (.int i3), some (.int i4), none, none], [], h) Q := by
  have e : mL 117 = 7 := by decide +kernel
  unfold ent0
  rw [e]
  rfl
theorem r_118 : mR 118 = some .int := by decide +kernel
theorem k_118_0 : lk 118 0 = some (.aload_n 0, 1, 0, 0, .null) := by decide +kernel
theorem x_118_0 : Tr sc d 118 (0, [some (.ref xk), l1, l2, l3, l4], [], h) Q = Tr sc d 118 (1, [some (.ref xk), l1, l2, l3, l4], [.ref xk], h) Q := t_aload_n k_118_0 rfl
theorem k_118_1 : lk 118 1 = some (.iload_n 1, 2, 1, 0, .null) := by decide +kernel
theorem x_118_1 : Tr sc d 118 (1, [l0, some (.int x), l2, l3, l4], [.ref k0], h) Q = Tr sc d 118 (2, [l0, some (.int x), l2, l3, l4], [.int x, .ref k0], h) Q := t_iload_n k_118_1 rfl
theorem k_118_2 : lk 118 2 = some (.iload_n 2, 3, 2, 0, .null) := by decide +kernel
theorem x_118_2 : Tr sc d 118 (2, [l0, l1, some (.int x), l3, l4], [.int i1, .ref k0], h) Q = Tr sc d 118 (3, [l0, l1, some (.int x), l3, l4], [.int x, .int i1, .ref k0], h) Q := t_iload_n k_118_2 rfl
theorem k_118_3 : lk 118 3 = some (.iconst 5, 4, 0, 0, .int 5) := by decide +kernel
theorem x_118_3 : Tr sc d 118 (3, [l0, l1, l2, l3, l4], [.int i2, .int i1, .ref k0], h) Q = Tr sc d 118 (4, [l0, l1, l2, l3, l4], [.int 5, .int i2, .int i1, .ref k0], h) Q := t_go k_118_3 rfl
theorem k_118_4 : lk 118 4 = some (.invokestatic 270, 7, 144, 2, .null) := by decide +kernel
theorem x_118_4 : Tr sc (d + 1) 118 (4, [l0, l1, l2, l3, l4], [.int i3, .int i2, .int i1, .ref k0], h) Q = Tr sc d 144 (ent0 144 [.int i2, .int i3] h) (fun z => Tr sc (d + 1) 118 (7, [l0, l1, l2, l3, l4], z.1.toList ++ [.int i1, .ref k0], z.2) Q) := t_cs (as := [.int i2, .int i3]) (r := [.int i1, .ref k0]) k_118_4 (by decide) rfl rfl (Nat.le_of_ble_eq_true rfl) (Nat.le_of_ble_eq_true rfl)
theorem k_118_7 : lk 118 7 = some (.ifCond .eq 16, 10, 23, 0, .null) := by decide +kernel
theorem x_118_7 : Tr sc d 118 (7, [l0, l1, l2, l3, l4], [.int i2, .int i1, .ref k0], h) Q = if i2 = 0 then Tr sc d 118 (23, [l0, l1, l2, l3, l4], [.int i1, .ref k0], h) Q else Tr sc d 118 (10, [l0, l1, l2, l3, l4], [.int i1, .ref k0], h) Q := t_if k_118_7 rfl
theorem k_118_10 : lk 118 10 = some (.iload_n 3, 11, 3, 0, .null) := by decide +kernel
theorem x_118_10 : Tr sc d 118 (10, [l0, l1, l2, some (.int x), l4], [.int i1, .ref k0], h) Q = Tr sc d 118 (11, [l0, l1, l2, some (.int x), l4], [.int x, .int i1, .ref k0], h) Q := t_iload_n k_118_10 rfl
theorem k_118_11 : lk 118 11 = some (.ifCond .lt 12, 14, 23, 0, .null) := by decide +kernel
theorem x_118_11 : Tr sc d 118 (11, [l0, l1, l2, l3, l4], [.int i2, .int i1, .ref k0], h) Q = if i2 < 0 then Tr sc d 118 (23, [l0, l1, l2, l3, l4], [.int i1, .ref k0], h) Q else Tr sc d 118 (14, [l0, l1, l2, l3, l4], [.int i1, .ref k0], h) Q := t_if k_118_11 rfl
theorem k_118_14 : lk 118 14 = some (.iload_n 3, 15, 3, 0, .null) := by decide +kernel
theorem x_118_14 : Tr sc d 118 (14, [l0, l1, l2, some (.int x), l4], [.int i1, .ref k0], h) Q = Tr sc d 118 (15, [l0, l1, l2, some (.int x), l4], [.int x, .int i1, .ref k0], h) Q := t_iload_n k_118_14 rfl
theorem k_118_15 : lk 118 15 = some (.iconst 3, 16, 0, 0, .int 3) := by decide +kernel
theorem x_118_15 : Tr sc d 118 (15, [l0, l1, l2, l3, l4], [.int i2, .int i1, .ref k0], h) Q = Tr sc d 118 (16, [l0, l1, l2, l3, l4], [.int 3, .int i2, .int i1, .ref k0], h) Q := t_go k_118_15 rfl
theorem k_118_16 : lk 118 16 = some (.if_icmp .gt 7, 19, 23, 0, .null) := by decide +kernel
theorem x_118_16 : Tr sc d 118 (16, [l0, l1, l2, l3, l4], [.int i3, .int i2, .int i1, .ref k0], h) Q = if i3 < i2 then Tr sc d 118 (23, [l0, l1, l2, l3, l4], [.int i1, .ref k0], h) Q else Tr sc d 118 (19, [l0, l1, l2, l3, l4], [.int i1, .ref k0], h) Q := t_if k_118_16 rfl
theorem k_118_19 : lk 118 19 = some (.iconst 1, 20, 0, 0, .int 1) := by decide +kernel
theorem x_118_19 : Tr sc d 118 (19, [l0, l1, l2, l3, l4], [.int i1, .ref k0], h) Q = Tr sc d 118 (20, [l0, l1, l2, l3, l4], [.int 1, .int i1, .ref k0], h) Q := t_go k_118_19 rfl
theorem k_118_20 : lk 118 20 = some (.goto 4, 23, 24, 0, .null) := by decide +kernel
theorem x_118_20 : Tr sc d 118 (20, [l0, l1, l2, l3, l4], [.int i2, .int i1, .ref k0], h) Q = Tr sc d 118 (24, [l0, l1, l2, l3, l4], [.int i2, .int i1, .ref k0], h) Q := t_go k_118_20 rfl
theorem k_118_23 : lk 118 23 = some (.iconst 0, 24, 0, 0, .int 0) := by decide +kernel
theorem x_118_23 : Tr sc d 118 (23, [l0, l1, l2, l3, l4], [.int i1, .ref k0], h) Q = Tr sc d 118 (24, [l0, l1, l2, l3, l4], [.int 0, .int i1, .ref k0], h) Q := t_go k_118_23 rfl
theorem k_118_24 : lk 118 24 = some (.invokevirtual 196, 27, 146, 2, .null) := by decide +kernel
theorem x_118_24 : Tr sc (d + 1) 118 (24, [l0, l1, l2, l3, l4], [.int i2, .int i1, .ref k0], h) Q = (okp h k0 9 = true ∧ Tr sc d 146 (ent0 146 [.ref k0, .int i1, .int i2] h) (fun z => Tr sc (d + 1) 118 (27, [l0, l1, l2, l3, l4], z.1.toList ++ [], z.2) Q)) := t_cv (as := [.int i1, .int i2]) (r := []) k_118_24 rfl rfl (Nat.le_of_ble_eq_true rfl) (Nat.le_of_ble_eq_true rfl) (Nat.le_of_ble_eq_true rfl)
theorem k_118_27 : lk 118 27 = some (.istore 4, 29, 4, 0, .null) := by decide +kernel
theorem x_118_27 : Tr sc d 118 (27, [l0, l1, l2, l3, l4], [.int i0], h) Q = Tr sc d 118 (29, [l0, l1, l2, cl2 l3, some (.int i0)], [], h) Q := t_istore k_118_27 (Nat.le_of_ble_eq_true rfl)
theorem k_118_29 : lk 118 29 = some (.iload 4, 31, 4, 0, .null) := by decide +kernel
theorem x_118_29 : Tr sc d 118 (29, [l0, l1, l2, l3, some (.int x)], [], h) Q = Tr sc d 118 (31, [l0, l1, l2, l3, some (.int x)], [.int x], h) Q := t_iload k_118_29 rfl
theorem k_118_31 : lk 118 31 = some (.ifCond .eq 6, 34, 37, 0, .null) := by decide +kernel
theorem x_118_31 : Tr sc d 118 (31, [l0, l1, l2, l3, l4], [.int i0], h) Q = if i0 = 0 then Tr sc d 118 (37, [l0, l1, l2, l3, l4], [], h) Q else Tr sc d 118 (34, [l0, l1, l2, l3, l4], [], h) Q := t_if k_118_31 rfl
theorem k_118_34 : lk 118 34 = some (.iload 4, 36, 4, 0, .null) := by decide +kernel
theorem x_118_34 : Tr sc d 118 (34, [l0, l1, l2, l3, some (.int x)], [], h) Q = Tr sc d 118 (36, [l0, l1, l2, l3, some (.int x)], [.int x], h) Q := t_iload k_118_34 rfl
theorem k_118_36 : lk 118 36 = some (.ireturn, 37, 0, 0, .null) := by decide +kernel
theorem x_118_36 : Tr sc d 118 (36, [l0, l1, l2, l3, l4], [.int i0], h) Q = Q (some (.int i0), h) := t_ret k_118_36 (by rw [r_118]; rfl)
theorem k_118_37 : lk 118 37 = some (.aload_n 0, 38, 0, 0, .null) := by decide +kernel
theorem x_118_37 : Tr sc d 118 (37, [some (.ref xk), l1, l2, l3, l4], [], h) Q = Tr sc d 118 (38, [some (.ref xk), l1, l2, l3, l4], [.ref xk], h) Q := t_aload_n k_118_37 rfl
theorem k_118_38 : lk 118 38 = some (.getfield 51, 41, 9, 7, .null) := by decide +kernel
theorem x_118_38 : Tr sc d 118 (38, [l0, l1, l2, l3, l4], [.ref k0], h) Q = (okp h k0 9 = true ∧ ∃ q, hR h k0 7 = some q ∧ Tr sc d 118 (41, [l0, l1, l2, l3, l4], [.ref q], h) Q) := t_getr k_118_38
theorem k_118_41 : lk 118 41 = some (.aload_n 0, 42, 0, 0, .null) := by decide +kernel
theorem x_118_41 : Tr sc d 118 (41, [some (.ref xk), l1, l2, l3, l4], [.ref k0], h) Q = Tr sc d 118 (42, [some (.ref xk), l1, l2, l3, l4], [.ref xk, .ref k0], h) Q := t_aload_n k_118_41 rfl
theorem k_118_42 : lk 118 42 = some (.getfield 20, 45, 9, 2, .null) := by decide +kernel
theorem x_118_42 : Tr sc d 118 (42, [l0, l1, l2, l3, l4], [.ref k1, .ref k0], h) Q = (okp h k1 9 = true ∧ ∃ q, hR h k1 2 = some q ∧ Tr sc d 118 (45, [l0, l1, l2, l3, l4], [.ref q, .ref k0], h) Q) := t_getr k_118_42
theorem k_118_45 : lk 118 45 = some (.iload_n 1, 46, 1, 0, .null) := by decide +kernel
theorem x_118_45 : Tr sc d 118 (45, [l0, some (.int x), l2, l3, l4], [.ref k1, .ref k0], h) Q = Tr sc d 118 (46, [l0, some (.int x), l2, l3, l4], [.int x, .ref k1, .ref k0], h) Q := t_iload_n k_118_45 rfl
theorem k_118_46 : lk 118 46 = some (.aaload, 47, 0, 0, .null) := by decide +kernel
theorem x_118_46 : Tr sc d 118 (46, [l0, l1, l2, l3, l4], [.int i2, .ref k1, .ref k0], h) Q = (((okp h k1 14 || okp h k1 15) && inb i2 (LN k1)) = true ∧ ∃ q, hR h k1 i2.toNatClampNeg = some q ∧ Tr sc d 118 (47, [l0, l1, l2, l3, l4], [.ref q, .ref k0], h) Q) := t_aald k_118_46
theorem k_118_47 : lk 118 47 = some (.iload_n 2, 48, 2, 0, .null) := by decide +kernel
theorem x_118_47 : Tr sc d 118 (47, [l0, l1, some (.int x), l3, l4], [.ref k1, .ref k0], h) Q = Tr sc d 118 (48, [l0, l1, some (.int x), l3, l4], [.int x, .ref k1, .ref k0], h) Q := t_iload_n k_118_47 rfl
theorem k_118_48 : lk 118 48 = some (.invokevirtual 273, 51, 10, 2, .null) := by decide +kernel
theorem x_118_48 : Tr sc (d + 1) 118 (48, [l0, l1, l2, l3, l4], [.int i2, .ref k1, .ref k0], h) Q = (okp h k0 1 = true ∧ Tr sc d 10 (ent0 10 [.ref k0, .ref k1, .int i2] h) (fun z => Tr sc (d + 1) 118 (51, [l0, l1, l2, l3, l4], z.1.toList ++ [], z.2) Q)) := t_cv (as := [.ref k1, .int i2]) (r := []) k_118_48 rfl rfl (Nat.le_of_ble_eq_true rfl) (Nat.le_of_ble_eq_true rfl) (Nat.le_of_ble_eq_true rfl)
theorem k_118_51 : lk 118 51 = some (.aload_n 0, 52, 0, 0, .null) := by decide +kernel
theorem x_118_51 : Tr sc d 118 (51, [some (.ref xk), l1, l2, l3, l4], [], h) Q = Tr sc d 118 (52, [some (.ref xk), l1, l2, l3, l4], [.ref xk], h) Q := t_aload_n k_118_51 rfl
theorem k_118_52 : lk 118 52 = some (.getfield 51, 55, 9, 7, .null) := by decide +kernel
theorem x_118_52 : Tr sc d 118 (52, [l0, l1, l2, l3, l4], [.ref k0], h) Q = (okp h k0 9 = true ∧ ∃ q, hR h k0 7 = some q ∧ Tr sc d 118 (55, [l0, l1, l2, l3, l4], [.ref q], h) Q) := t_getr k_118_52
theorem k_118_55 : lk 118 55 = some (.getfield 280, 58, 1, 4, .int 0) := by decide +kernel
theorem x_118_55 : Tr sc d 118 (55, [l0, l1, l2, l3, l4], [.ref k0], h) Q = (okp h k0 1 = true ∧ Tr sc d 118 (58, [l0, l1, l2, l3, l4], [.int (hI h k0 4)], h) Q) := t_gd k_118_55 rfl
theorem k_118_58 : lk 118 58 = some (.ifCond .ne 9, 61, 67, 0, .null) := by decide +kernel
theorem x_118_58 : Tr sc d 118 (58, [l0, l1, l2, l3, l4], [.int i0], h) Q = if i0 = 0 then Tr sc d 118 (61, [l0, l1, l2, l3, l4], [], h) Q else Tr sc d 118 (67, [l0, l1, l2, l3, l4], [], h) Q := t_if k_118_58 rfl
theorem k_118_61 : lk 118 61 = some (.aload_n 0, 62, 0, 0, .null) := by decide +kernel
theorem x_118_61 : Tr sc d 118 (61, [some (.ref xk), l1, l2, l3, l4], [], h) Q = Tr sc d 118 (62, [some (.ref xk), l1, l2, l3, l4], [.ref xk], h) Q := t_aload_n k_118_61 rfl
theorem k_118_62 : lk 118 62 = some (.iconst 4, 63, 0, 0, .int 4) := by decide +kernel
theorem x_118_62 : Tr sc d 118 (62, [l0, l1, l2, l3, l4], [.ref k0], h) Q = Tr sc d 118 (63, [l0, l1, l2, l3, l4], [.int 4, .ref k0], h) Q := t_go k_118_62 rfl
theorem k_118_63 : lk 118 63 = some (.invokevirtual 118, 66, 145, 1, .null) := by decide +kernel
theorem x_118_63 : Tr sc (d + 1) 118 (63, [l0, l1, l2, l3, l4], [.int i1, .ref k0], h) Q = (okp h k0 9 = true ∧ Tr sc d 145 (ent0 145 [.ref k0, .int i1] h) (fun z => Tr sc (d + 1) 118 (66, [l0, l1, l2, l3, l4], z.1.toList ++ [], z.2) Q)) := t_cv (as := [.int i1]) (r := []) k_118_63 rfl rfl (Nat.le_of_ble_eq_true rfl) (Nat.le_of_ble_eq_true rfl) (Nat.le_of_ble_eq_true rfl)
theorem k_118_66 : lk 118 66 = some (.ireturn, 67, 0, 0, .null) := by decide +kernel
theorem x_118_66 : Tr sc d 118 (66, [l0, l1, l2, l3, l4], [.int i0], h) Q = Q (some (.int i0), h) := t_ret k_118_66 (by rw [r_118]; rfl)
theorem k_118_67 : lk 118 67 = some (.aload_n 0, 68, 0, 0, .null) := by decide +kernel
theorem x_118_67 : Tr sc d 118 (67, [some (.ref xk), l1, l2, l3, l4], [], h) Q = Tr sc d 118 (68, [some (.ref xk), l1, l2, l3, l4], [.ref xk], h) Q := t_aload_n k_118_67 rfl
theorem k_118_68 : lk 118 68 = some (.iload_n 3, 69, 3, 0, .null) := by decide +kernel
theorem x_118_68 : Tr sc d 118 (68, [l0, l1, l2, some (.int x), l4], [.ref k0], h) Q = Tr sc d 118 (69, [l0, l1, l2, some (.int x), l4], [.int x, .ref k0], h) Q := t_iload_n k_118_68 rfl
theorem k_118_69 : lk 118 69 = some (.ifCond .ne 13, 72, 82, 0, .null) := by decide +kernel
theorem x_118_69 : Tr sc d 118 (69, [l0, l1, l2, l3, l4], [.int i1, .ref k0], h) Q = if i1 = 0 then Tr sc d 118 (72, [l0, l1, l2, l3, l4], [.ref k0], h) Q else Tr sc d 118 (82, [l0, l1, l2, l3, l4], [.ref k0], h) Q := t_if k_118_69 rfl
theorem k_118_72 : lk 118 72 = some (.aload_n 0, 73, 0, 0, .null) := by decide +kernel
theorem x_118_72 : Tr sc d 118 (72, [some (.ref xk), l1, l2, l3, l4], [.ref k0], h) Q = Tr sc d 118 (73, [some (.ref xk), l1, l2, l3, l4], [.ref xk, .ref k0], h) Q := t_aload_n k_118_72 rfl
theorem k_118_73 : lk 118 73 = some (.getfield 51, 76, 9, 7, .null) := by decide +kernel
theorem x_118_73 : Tr sc d 118 (73, [l0, l1, l2, l3, l4], [.ref k1, .ref k0], h) Q = (okp h k1 9 = true ∧ ∃ q, hR h k1 7 = some q ∧ Tr sc d 118 (76, [l0, l1, l2, l3, l4], [.ref q, .ref k0], h) Q) := t_getr k_118_73
theorem k_118_76 : lk 118 76 = some (.getfield 288, 79, 1, 6, .int 0) := by decide +kernel
theorem x_118_76 : Tr sc d 118 (76, [l0, l1, l2, l3, l4], [.ref k1, .ref k0], h) Q = (okp h k1 1 = true ∧ Tr sc d 118 (79, [l0, l1, l2, l3, l4], [.int (hI h k1 6), .ref k0], h) Q) := t_gd k_118_76 rfl
theorem k_118_79 : lk 118 79 = some (.goto 40, 82, 119, 0, .null) := by decide +kernel
theorem x_118_79 : Tr sc d 118 (79, [l0, l1, l2, l3, l4], [.int i1, .ref k0], h) Q = Tr sc d 118 (119, [l0, l1, l2, l3, l4], [.int i1, .ref k0], h) Q := t_go k_118_79 rfl
theorem k_118_82 : lk 118 82 = some (.iload_n 3, 83, 3, 0, .null) := by decide +kernel
theorem x_118_82 : Tr sc d 118 (82, [l0, l1, l2, some (.int x), l4], [.ref k0], h) Q = Tr sc d 118 (83, [l0, l1, l2, some (.int x), l4], [.int x, .ref k0], h) Q := t_iload_n k_118_82 rfl
theorem k_118_83 : lk 118 83 = some (.iconst 1, 84, 0, 0, .int 1) := by decide +kernel
theorem x_118_83 : Tr sc d 118 (83, [l0, l1, l2, l3, l4], [.int i1, .ref k0], h) Q = Tr sc d 118 (84, [l0, l1, l2, l3, l4], [.int 1, .int i1, .ref k0], h) Q := t_go k_118_83 rfl
theorem k_118_84 : lk 118 84 = some (.if_icmp .ne 13, 87, 97, 0, .null) := by decide +kernel
theorem x_118_84 : Tr sc d 118 (84, [l0, l1, l2, l3, l4], [.int i2, .int i1, .ref k0], h) Q = if i1 = i2 then Tr sc d 118 (87, [l0, l1, l2, l3, l4], [.ref k0], h) Q else Tr sc d 118 (97, [l0, l1, l2, l3, l4], [.ref k0], h) Q := t_if k_118_84 rfl
theorem k_118_87 : lk 118 87 = some (.aload_n 0, 88, 0, 0, .null) := by decide +kernel
theorem x_118_87 : Tr sc d 118 (87, [some (.ref xk), l1, l2, l3, l4], [.ref k0], h) Q = Tr sc d 118 (88, [some (.ref xk), l1, l2, l3, l4], [.ref xk, .ref k0], h) Q := t_aload_n k_118_87 rfl
theorem k_118_88 : lk 118 88 = some (.getfield 51, 91, 9, 7, .null) := by decide +kernel
theorem x_118_88 : Tr sc d 118 (88, [l0, l1, l2, l3, l4], [.ref k1, .ref k0], h) Q = (okp h k1 9 = true ∧ ∃ q, hR h k1 7 = some q ∧ Tr sc d 118 (91, [l0, l1, l2, l3, l4], [.ref q, .ref k0], h) Q) := t_getr k_118_88
theorem k_118_91 : lk 118 91 = some (.getfield 291, 94, 1, 7, .int 0) := by decide +kernel
theorem x_118_91 : Tr sc d 118 (91, [l0, l1, l2, l3, l4], [.ref k1, .ref k0], h) Q = (okp h k1 1 = true ∧ Tr sc d 118 (94, [l0, l1, l2, l3, l4], [.int (hI h k1 7), .ref k0], h) Q) := t_gd k_118_91 rfl
theorem k_118_94 : lk 118 94 = some (.goto 25, 97, 119, 0, .null) := by decide +kernel
theorem x_118_94 : Tr sc d 118 (94, [l0, l1, l2, l3, l4], [.int i1, .ref k0], h) Q = Tr sc d 118 (119, [l0, l1, l2, l3, l4], [.int i1, .ref k0], h) Q := t_go k_118_94 rfl
theorem k_118_97 : lk 118 97 = some (.iload_n 3, 98, 3, 0, .null) := by decide +kernel
theorem x_118_97 : Tr sc d 118 (97, [l0, l1, l2, some (.int x), l4], [.ref k0], h) Q = Tr sc d 118 (98, [l0, l1, l2, some (.int x), l4], [.int x, .ref k0], h) Q := t_iload_n k_118_97 rfl
theorem k_118_98 : lk 118 98 = some (.iconst 2, 99, 0, 0, .int 2) := by decide +kernel
theorem x_118_98 : Tr sc d 118 (98, [l0, l1, l2, l3, l4], [.int i1, .ref k0], h) Q = Tr sc d 118 (99, [l0, l1, l2, l3, l4], [.int 2, .int i1, .ref k0], h) Q := t_go k_118_98 rfl
theorem k_118_99 : lk 118 99 = some (.if_icmp .ne 13, 102, 112, 0, .null) := by decide +kernel
theorem x_118_99 : Tr sc d 118 (99, [l0, l1, l2, l3, l4], [.int i2, .int i1, .ref k0], h) Q = if i1 = i2 then Tr sc d 118 (102, [l0, l1, l2, l3, l4], [.ref k0], h) Q else Tr sc d 118 (112, [l0, l1, l2, l3, l4], [.ref k0], h) Q := t_if k_118_99 rfl
theorem k_118_102 : lk 118 102 = some (.aload_n 0, 103, 0, 0, .null) := by decide +kernel
theorem x_118_102 : Tr sc d 118 (102, [some (.ref xk), l1, l2, l3, l4], [.ref k0], h) Q = Tr sc d 118 (103, [some (.ref xk), l1, l2, l3, l4], [.ref xk, .ref k0], h) Q := t_aload_n k_118_102 rfl
theorem k_118_103 : lk 118 103 = some (.getfield 51, 106, 9, 7, .null) := by decide +kernel
theorem x_118_103 : Tr sc d 118 (103, [l0, l1, l2, l3, l4], [.ref k1, .ref k0], h) Q = (okp h k1 9 = true ∧ ∃ q, hR h k1 7 = some q ∧ Tr sc d 118 (106, [l0, l1, l2, l3, l4], [.ref q, .ref k0], h) Q) := t_getr k_118_103
theorem k_118_106 : lk 118 106 = some (.getfield 294, 109, 1, 8, .int 0) := by decide +kernel
theorem x_118_106 : Tr sc d 118 (106, [l0, l1, l2, l3, l4], [.ref k1, .ref k0], h) Q = (okp h k1 1 = true ∧ Tr sc d 118 (109, [l0, l1, l2, l3, l4], [.int (hI h k1 8), .ref k0], h) Q) := t_gd k_118_106 rfl
theorem k_118_109 : lk 118 109 = some (.goto 10, 112, 119, 0, .null) := by decide +kernel
theorem x_118_109 : Tr sc d 118 (109, [l0, l1, l2, l3, l4], [.int i1, .ref k0], h) Q = Tr sc d 118 (119, [l0, l1, l2, l3, l4], [.int i1, .ref k0], h) Q := t_go k_118_109 rfl
theorem k_118_112 : lk 118 112 = some (.aload_n 0, 113, 0, 0, .null) := by decide +kernel
theorem x_118_112 : Tr sc d 118 (112, [some (.ref xk), l1, l2, l3, l4], [.ref k0], h) Q = Tr sc d 118 (113, [some (.ref xk), l1, l2, l3, l4], [.ref xk, .ref k0], h) Q := t_aload_n k_118_112 rfl
theorem k_118_113 : lk 118 113 = some (.getfield 51, 116, 9, 7, .null) := by decide +kernel
theorem x_118_113 : Tr sc d 118 (113, [l0, l1, l2, l3, l4], [.ref k1, .ref k0], h) Q = (okp h k1 9 = true ∧ ∃ q, hR h k1 7 = some q ∧ Tr sc d 118 (116, [l0, l1, l2, l3, l4], [.ref q, .ref k0], h) Q) := t_getr k_118_113
theorem k_118_116 : lk 118 116 = some (.getfield 297, 119, 1, 9, .int 0) := by decide +kernel
theorem x_118_116 : Tr sc d 118 (116, [l0, l1, l2, l3, l4], [.ref k1, .ref k0], h) Q = (okp h k1 1 = true ∧ Tr sc d 118 (119, [l0, l1, l2, l3, l4], [.int (hI h k1 9), .ref k0], h) Q) := t_gd k_118_116 rfl
theorem k_118_119 : lk 118 119 = some (.putfield 98, 122, 9, 15, .int 0) := by decide +kernel
theorem x_118_119 : Tr sc d 118 (119, [l0, l1, l2, l3, l4], [.int i1, .ref k0], h) Q = (okp h k0 9 = true ∧ Tr sc d 118 (122, [l0, l1, l2, l3, l4], [], (sI h k0 15 i1)) Q) := t_gd k_118_119 rfl
theorem k_118_122 : lk 118 122 = some (.iconst 1, 123, 0, 0, .int 1) := by decide +kernel
theorem x_118_122 : Tr sc d 118 (122, [l0, l1, l2, l3, l4], [], h) Q = Tr sc d 118 (123, [l0, l1, l2, l3, l4], [.int 1], h) Q := t_go k_118_122 rfl
theorem k_118_123 : lk 118 123 = some (.ireturn, 124, 0, 0, .null) := by decide +kernel
theorem x_118_123 : Tr sc d 118 (123, [l0, l1, l2, l3, l4], [.int i0], h) Q = Q (some (.int i0), h) := t_ret k_118_123 (by rw [r_118]; rfl)
theorem e_118 : Tr sc d 118 (ent0 118 [.ref k0, .int i1, .int i2, .int i3] h) Q = Tr sc d 118 (0, [some (.ref k0), some (.int i1), some (.int i2), some (.int i3), none], [], h) Q := by
  have e : mL 118 = 5 := by decide +kernel
  unfold ent0
  rw [e]
  rfl
theorem r_119 : mR 119 = some .int := by decide +kernel
theorem k_119_0 : lk 119 0 = some (.aload_n 0, 1, 0, 0, .null) := by decide +kernel
theorem x_119_0 : Tr sc d 119 (0, [some (.ref xk), l1, l2, l3, l4], [], h) Q = Tr sc d 119 (1, [some (.ref xk), l1, l2, l3, l4], [.ref xk], h) Q := t_aload_n k_119_0 rfl
theorem k_119_1 : lk 119 1 = some (.iload_n 1, 2, 1, 0, .null) := by decide +kernel
theorem x_119_1 : Tr sc d 119 (1, [l0, some (.int x), l2, l3, l4], [.ref k0], h) Q = Tr sc d 119 (2, [l0, some (.int x), l2, l3, l4], [.int x, .ref k0], h) Q := t_iload_n k_119_1 rfl
theorem k_119_2 : lk 119 2 = some (.iconst 1, 3, 0, 0, .int 1) := by decide +kernel
theorem x_119_2 : Tr sc d 119 (2, [l0, l1, l2, l3, l4], [.int i1, .ref k0], h) Q = Tr sc d 119 (3, [l0, l1, l2, l3, l4], [.int 1, .int i1, .ref k0], h) Q := t_go k_119_2 rfl
theorem k_119_3 : lk 119 3 = some (.invokevirtual 196, 6, 146, 2, .null) := by decide +kernel
theorem x_119_3 : Tr sc (d + 1) 119 (3, [l0, l1, l2, l3, l4], [.int i2, .int i1, .ref k0], h) Q = (okp h k0 9 = true ∧ Tr sc d 146 (ent0 146 [.ref k0, .int i1, .int i2] h) (fun z => Tr sc (d + 1) 119 (6, [l0, l1, l2, l3, l4], z.1.toList ++ [], z.2) Q)) := t_cv (as := [.int i1, .int i2]) (r := []) k_119_3 rfl rfl (Nat.le_of_ble_eq_true rfl) (Nat.le_of_ble_eq_true rfl) (Nat.le_of_ble_eq_true rfl)
theorem k_119_6 : lk 119 6 = some (.istore_n 2, 7, 2, 0, .null) := by decide +kernel
theorem x_119_6 : Tr sc d 119 (6, [l0, l1, l2, l3, l4], [.int i0], h) Q = Tr sc d 119 (7, [l0, cl2 l1, some (.int i0), l3, l4], [], h) Q := t_istore_n k_119_6 (Nat.le_of_ble_eq_true rfl)
theorem k_119_7 : lk 119 7 = some (.iload_n 2, 8, 2, 0, .null) := by decide +kernel
theorem x_119_7 : Tr sc d 119 (7, [l0, l1, some (.int x), l3, l4], [], h) Q = Tr sc d 119 (8, [l0, l1, some (.int x), l3, l4], [.int x], h) Q := t_iload_n k_119_7 rfl
theorem k_119_8 : lk 119 8 = some (.ifCond .eq 5, 11, 13, 0, .null) := by decide +kernel
theorem x_119_8 : Tr sc d 119 (8, [l0, l1, l2, l3, l4], [.int i0], h) Q = if i0 = 0 then Tr sc d 119 (13, [l0, l1, l2, l3, l4], [], h) Q else Tr sc d 119 (11, [l0, l1, l2, l3, l4], [], h) Q := t_if k_119_8 rfl
theorem k_119_11 : lk 119 11 = some (.iload_n 2, 12, 2, 0, .null) := by decide +kernel
theorem x_119_11 : Tr sc d 119 (11, [l0, l1, some (.int x), l3, l4], [], h) Q = Tr sc d 119 (12, [l0, l1, some (.int x), l3, l4], [.int x], h) Q := t_iload_n k_119_11 rfl
theorem k_119_12 : lk 119 12 = some (.ireturn, 13, 0, 0, .null) := by decide +kernel
theorem x_119_12 : Tr sc d 119 (12, [l0, l1, l2, l3, l4], [.int i0], h) Q = Q (some (.int i0), h) := t_ret k_119_12 (by rw [r_119]; rfl)
theorem k_119_13 : lk 119 13 = some (.iconst 1, 14, 0, 0, .int 1) := by decide +kernel
theorem x_119_13 : Tr sc d 119 (13, [l0, l1, l2, l3, l4], [], h) Q = Tr sc d 119 (14, [l0, l1, l2, l3, l4], [.int 1], h) Q := t_go k_119_13 rfl
theorem k_119_14 : lk 119 14 = some (.istore_n 3, 15, 3, 0, .null) := by decide +kernel
theorem x_119_14 : Tr sc d 119 (14, [l0, l1, l2, l3, l4], [.int i0], h) Q = Tr sc d 119 (15, [l0, l1, cl2 l2, some (.int i0), l4], [], h) Q := t_istore_n k_119_14 (Nat.le_of_ble_eq_true rfl)
theorem k_119_15 : lk 119 15 = some (.iconst 1, 16, 0, 0, .int 1) := by decide +kernel
theorem x_119_15 : Tr sc d 119 (15, [l0, l1, l2, l3, l4], [], h) Q = Tr sc d 119 (16, [l0, l1, l2, l3, l4], [.int 1], h) Q := t_go k_119_15 rfl
theorem k_119_16 : lk 119 16 = some (.istore 4, 18, 4, 0, .null) := by decide +kernel
theorem x_119_16 : Tr sc d 119 (16, [l0, l1, l2, l3, l4], [.int i0], h) Q = Tr sc d 119 (18, [l0, l1, l2, cl2 l3, some (.int i0)], [], h) Q := t_istore k_119_16 (Nat.le_of_ble_eq_true rfl)
theorem k_119_18 : lk 119 18 = some (.iload 4, 20, 4, 0, .null) := by decide +kernel
theorem x_119_18 : Tr sc d 119 (18, [l0, l1, l2, l3, some (.int x)], [], h) Q = Tr sc d 119 (20, [l0, l1, l2, l3, some (.int x)], [.int x], h) Q := t_iload k_119_18 rfl
theorem k_119_20 : lk 119 20 = some (.iconst 5, 21, 0, 0, .int 5) := by decide +kernel
theorem x_119_20 : Tr sc d 119 (20, [l0, l1, l2, l3, l4], [.int i0], h) Q = Tr sc d 119 (21, [l0, l1, l2, l3, l4], [.int 5, .int i0], h) Q := t_go k_119_20 rfl
theorem k_119_21 : lk 119 21 = some (.if_icmp .gt 50, 24, 71, 0, .null) := by decide +kernel
theorem x_119_21 : Tr sc d 119 (21, [l0, l1, l2, l3, l4], [.int i1, .int i0], h) Q = if i1 < i0 then Tr sc d 119 (71, [l0, l1, l2, l3, l4], [], h) Q else Tr sc d 119 (24, [l0, l1, l2, l3, l4], [], h) Q := t_if k_119_21 rfl
theorem k_119_24 : lk 119 24 = some (.iload_n 3, 25, 3, 0, .null) := by decide +kernel
theorem x_119_24 : Tr sc d 119 (24, [l0, l1, l2, some (.int x), l4], [], h) Q = Tr sc d 119 (25, [l0, l1, l2, some (.int x), l4], [.int x], h) Q := t_iload_n k_119_24 rfl
theorem k_119_25 : lk 119 25 = some (.aload_n 0, 26, 0, 0, .null) := by decide +kernel
theorem x_119_25 : Tr sc d 119 (25, [some (.ref xk), l1, l2, l3, l4], [.int i0], h) Q = Tr sc d 119 (26, [some (.ref xk), l1, l2, l3, l4], [.ref xk, .int i0], h) Q := t_aload_n k_119_25 rfl
theorem k_119_26 : lk 119 26 = some (.getfield 20, 29, 9, 2, .null) := by decide +kernel
theorem x_119_26 : Tr sc d 119 (26, [l0, l1, l2, l3, l4], [.ref k1, .int i0], h) Q = (okp h k1 9 = true ∧ ∃ q, hR h k1 2 = some q ∧ Tr sc d 119 (29, [l0, l1, l2, l3, l4], [.ref q, .int i0], h) Q) := t_getr k_119_26
theorem k_119_29 : lk 119 29 = some (.iload_n 1, 30, 1, 0, .null) := by decide +kernel
theorem x_119_29 : Tr sc d 119 (29, [l0, some (.int x), l2, l3, l4], [.ref k1, .int i0], h) Q = Tr sc d 119 (30, [l0, some (.int x), l2, l3, l4], [.int x, .ref k1, .int i0], h) Q := t_iload_n k_119_29 rfl
theorem k_119_30 : lk 119 30 = some (.aaload, 31, 0, 0, .null) := by decide +kernel
theorem x_119_30 : Tr sc d 119 (30, [l0, l1, l2, l3, l4], [.int i2, .ref k1, .int i0], h) Q = (((okp h k1 14 || okp h k1 15) && inb i2 (LN k1)) = true ∧ ∃ q, hR h k1 i2.toNatClampNeg = some q ∧ Tr sc d 119 (31, [l0, l1, l2, l3, l4], [.ref q, .int i0], h) Q) := t_aald k_119_30
theorem k_119_31 : lk 119 31 = some (.getfield 181, 34, 6, 8, .int 0) := by decide +kernel
theorem x_119_31 : Tr sc d 119 (31, [l0, l1, l2, l3, l4], [.ref k1, .int i0], h) Q = (okp h k1 6 = true ∧ Tr sc d 119 (34, [l0, l1, l2, l3, l4], [.int (hI h k1 8), .int i0], h) Q) := t_gd k_119_31 rfl
theorem k_119_34 : lk 119 34 = some (.imul, 35, 0, 0, .null) := by decide +kernel
theorem x_119_34 : Tr sc d 119 (34, [l0, l1, l2, l3, l4], [.int i1, .int i0], h) Q = Tr sc d 119 (35, [l0, l1, l2, l3, l4], [.int (i0 * i1)], h) Q := t_go k_119_34 rfl
theorem k_119_35 : lk 119 35 = some (.istore_n 3, 36, 3, 0, .null) := by decide +kernel
theorem x_119_35 : Tr sc d 119 (35, [l0, l1, l2, l3, l4], [.int i0], h) Q = Tr sc d 119 (36, [l0, l1, cl2 l2, some (.int i0), l4], [], h) Q := t_istore_n k_119_35 (Nat.le_of_ble_eq_true rfl)
theorem k_119_36 : lk 119 36 = some (.aload_n 0, 37, 0, 0, .null) := by decide +kernel
theorem x_119_36 : Tr sc d 119 (36, [some (.ref xk), l1, l2, l3, l4], [], h) Q = Tr sc d 119 (37, [some (.ref xk), l1, l2, l3, l4], [.ref xk], h) Q := t_aload_n k_119_36 rfl
theorem k_119_37 : lk 119 37 = some (.getfield 51, 40, 9, 7, .null) := by decide +kernel
theorem x_119_37 : Tr sc d 119 (37, [l0, l1, l2, l3, l4], [.ref k0], h) Q = (okp h k0 9 = true ∧ ∃ q, hR h k0 7 = some q ∧ Tr sc d 119 (40, [l0, l1, l2, l3, l4], [.ref q], h) Q) := t_getr k_119_37
theorem k_119_40 : lk 119 40 = some (.aload_n 0, 41, 0, 0, .null) := by decide +kernel
theorem x_119_40 : Tr sc d 119 (40, [some (.ref xk), l1, l2, l3, l4], [.ref k0], h) Q = Tr sc d 119 (41, [some (.ref xk), l1, l2, l3, l4], [.ref xk, .ref k0], h) Q := t_aload_n k_119_40 rfl
theorem k_119_41 : lk 119 41 = some (.getfield 20, 44, 9, 2, .null) := by decide +kernel
theorem x_119_41 : Tr sc d 119 (41, [l0, l1, l2, l3, l4], [.ref k1, .ref k0], h) Q = (okp h k1 9 = true ∧ ∃ q, hR h k1 2 = some q ∧ Tr sc d 119 (44, [l0, l1, l2, l3, l4], [.ref q, .ref k0], h) Q) := t_getr k_119_41
theorem k_119_44 : lk 119 44 = some (.iload_n 1, 45, 1, 0, .null) := by decide +kernel
theorem x_119_44 : Tr sc d 119 (44, [l0, some (.int x), l2, l3, l4], [.ref k1, .ref k0], h) Q = Tr sc d 119 (45, [l0, some (.int x), l2, l3, l4], [.int x, .ref k1, .ref k0], h) Q := t_iload_n k_119_44 rfl
theorem k_119_45 : lk 119 45 = some (.aaload, 46, 0, 0, .null) := by decide +kernel
theorem x_119_45 : Tr sc d 119 (45, [l0, l1, l2, l3, l4], [.int i2, .ref k1, .ref k0], h) Q = (((okp h k1 14 || okp h k1 15) && inb i2 (LN k1)) = true ∧ ∃ q, hR h k1 i2.toNatClampNeg = some q ∧ Tr sc d 119 (46, [l0, l1, l2, l3, l4], [.ref q, .ref k0], h) Q) := t_aald k_119_45
theorem k_119_46 : lk 119 46 = some (.iload 4, 48, 4, 0, .null) := by decide +kernel
theorem x_119_46 : Tr sc d 119 (46, [l0, l1, l2, l3, some (.int x)], [.ref k1, .ref k0], h) Q = Tr sc d 119 (48, [l0, l1, l2, l3, some (.int x)], [.int x, .ref k1, .ref k0], h) Q := t_iload k_119_46 rfl
theorem k_119_48 : lk 119 48 = some (.invokevirtual 273, 51, 10, 2, .null) := by decide +kernel
theorem x_119_48 : Tr sc (d + 1) 119 (48, [l0, l1, l2, l3, l4], [.int i2, .ref k1, .ref k0], h) Q = (okp h k0 1 = true ∧ Tr sc d 10 (ent0 10 [.ref k0, .ref k1, .int i2] h) (fun z => Tr sc (d + 1) 119 (51, [l0, l1, l2, l3, l4], z.1.toList ++ [], z.2) Q)) := t_cv (as := [.ref k1, .int i2]) (r := []) k_119_48 rfl rfl (Nat.le_of_ble_eq_true rfl) (Nat.le_of_ble_eq_true rfl) (Nat.le_of_ble_eq_true rfl)
theorem k_119_51 : lk 119 51 = some (.aload_n 0, 52, 0, 0, .null) := by decide +kernel
theorem x_119_51 : Tr sc d 119 (51, [some (.ref xk), l1, l2, l3, l4], [], h) Q = Tr sc d 119 (52, [some (.ref xk), l1, l2, l3, l4], [.ref xk], h) Q := t_aload_n k_119_51 rfl
theorem k_119_52 : lk 119 52 = some (.getfield 51, 55, 9, 7, .null) := by decide +kernel
theorem x_119_52 : Tr sc d 119 (52, [l0, l1, l2, l3, l4], [.ref k0], h) Q = (okp h k0 9 = true ∧ ∃ q, hR h k0 7 = some q ∧ Tr sc d 119 (55, [l0, l1, l2, l3, l4], [.ref q], h) Q) := t_getr k_119_52
theorem k_119_55 : lk 119 55 = some (.getfield 280, 58, 1, 4, .int 0) := by decide +kernel
theorem x_119_55 : Tr sc d 119 (55, [l0, l1, l2, l3, l4], [.ref k0], h) Q = (okp h k0 1 = true ∧ Tr sc d 119 (58, [l0, l1, l2, l3, l4], [.int (hI h k0 4)], h) Q) := t_gd k_119_55 rfl
theorem k_119_58 : lk 119 58 = some (.iload_n 3, 59, 3, 0, .null) := by decide +kernel
theorem x_119_58 : Tr sc d 119 (58, [l0, l1, l2, some (.int x), l4], [.int i0], h) Q = Tr sc d 119 (59, [l0, l1, l2, some (.int x), l4], [.int x, .int i0], h) Q := t_iload_n k_119_58 rfl
theorem k_119_59 : lk 119 59 = some (.if_icmp .eq 6, 62, 65, 0, .null) := by decide +kernel
theorem x_119_59 : Tr sc d 119 (59, [l0, l1, l2, l3, l4], [.int i1, .int i0], h) Q = if i0 = i1 then Tr sc d 119 (65, [l0, l1, l2, l3, l4], [], h) Q else Tr sc d 119 (62, [l0, l1, l2, l3, l4], [], h) Q := t_if k_119_59 rfl
theorem k_119_62 : lk 119 62 = some (.iload 4, 64, 4, 0, .null) := by decide +kernel
theorem x_119_62 : Tr sc d 119 (62, [l0, l1, l2, l3, some (.int x)], [], h) Q = Tr sc d 119 (64, [l0, l1, l2, l3, some (.int x)], [.int x], h) Q := t_iload k_119_62 rfl
theorem k_119_64 : lk 119 64 = some (.ireturn, 65, 0, 0, .null) := by decide +kernel
theorem x_119_64 : Tr sc d 119 (64, [l0, l1, l2, l3, l4], [.int i0], h) Q = Q (some (.int i0), h) := t_ret k_119_64 (by rw [r_119]; rfl)
theorem k_119_65 : lk 119 65 = some (.iinc 4 1, 68, 4, 0, .int 1) := by decide +kernel
theorem x_119_65 : Tr sc d 119 (65, [l0, l1, l2, l3, some (.int x)], [], h) Q = Tr sc d 119 (68, [l0, l1, l2, cl2 l3, some (.int (x + 1))], [], h) Q := t_inc k_119_65 rfl (Nat.le_of_ble_eq_true rfl)
theorem k_119_68 : lk 119 68 = some (.goto (-50), 71, 18, 0, .null) := by decide +kernel
theorem x_119_68 : Tr sc d 119 (68, [l0, l1, l2, l3, l4], [], h) Q = Tr sc d 119 (18, [l0, l1, l2, l3, l4], [], h) Q := t_go k_119_68 rfl
theorem k_119_71 : lk 119 71 = some (.bipush (-9), 73, 0, 0, .int (-9)) := by decide +kernel
theorem x_119_71 : Tr sc d 119 (71, [l0, l1, l2, l3, l4], [], h) Q = Tr sc d 119 (73, [l0, l1, l2, l3, l4], [.int (-9)], h) Q := t_go k_119_71 rfl
theorem k_119_73 : lk 119 73 = some (.ireturn, 74, 0, 0, .null) := by decide +kernel
theorem x_119_73 : Tr sc d 119 (73, [l0, l1, l2, l3, l4], [.int i0], h) Q = Q (some (.int i0), h) := t_ret k_119_73 (by rw [r_119]; rfl)
theorem e_119 : Tr sc d 119 (ent0 119 [.ref k0, .int i1] h) Q = Tr sc d 119 (0, [some (.ref k0), some (.int i1), none, none, none], [], h) Q := by
  have e : mL 119 = 5 := by decide +kernel
  unfold ent0
  rw [e]
  rfl
theorem r_120 : mR 120 = some .int := by decide +kernel
theorem k_120_0 : lk 120 0 = some (.aload_n 0, 1, 0, 0, .null) := by decide +kernel
theorem x_120_0 : Tr sc d 120 (0, [some (.ref xk), l1, l2], [], h) Q = Tr sc d 120 (1, [some (.ref xk), l1, l2], [.ref xk], h) Q := t_aload_n k_120_0 rfl
theorem k_120_1 : lk 120 1 = some (.iload_n 1, 2, 1, 0, .null) := by decide +kernel
theorem x_120_1 : Tr sc d 120 (1, [l0, some (.int x), l2], [.ref k0], h) Q = Tr sc d 120 (2, [l0, some (.int x), l2], [.int x, .ref k0], h) Q := t_iload_n k_120_1 rfl
theorem k_120_2 : lk 120 2 = some (.iconst 1, 3, 0, 0, .int 1) := by decide +kernel
theorem x_120_2 : Tr sc d 120 (2, [l0, l1, l2], [.int i1, .ref k0], h) Q = Tr sc d 120 (3, [l0, l1, l2], [.int 1, .int i1, .ref k0], h) Q := t_go k_120_2 rfl
theorem k_120_3 : lk 120 3 = some (.invokevirtual 300, 6, 147, 2, .null) := by decide +kernel
theorem x_120_3 : Tr sc (d + 1) 120 (3, [l0, l1, l2], [.int i2, .int i1, .ref k0], h) Q = (okp h k0 9 = true ∧ Tr sc d 147 (ent0 147 [.ref k0, .int i1, .int i2] h) (fun z => Tr sc (d + 1) 120 (6, [l0, l1, l2], z.1.toList ++ [], z.2) Q)) := t_cv (as := [.int i1, .int i2]) (r := []) k_120_3 rfl rfl (Nat.le_of_ble_eq_true rfl) (Nat.le_of_ble_eq_true rfl) (Nat.le_of_ble_eq_true rfl)
theorem k_120_6 : lk 120 6 = some (.istore_n 2, 7, 2, 0, .null) := by decide +kernel
theorem x_120_6 : Tr sc d 120 (6, [l0, l1, l2], [.int i0], h) Q = Tr sc d 120 (7, [l0, cl2 l1, some (.int i0)], [], h) Q := t_istore_n k_120_6 (Nat.le_of_ble_eq_true rfl)
theorem k_120_7 : lk 120 7 = some (.iload_n 2, 8, 2, 0, .null) := by decide +kernel
theorem x_120_7 : Tr sc d 120 (7, [l0, l1, some (.int x)], [], h) Q = Tr sc d 120 (8, [l0, l1, some (.int x)], [.int x], h) Q := t_iload_n k_120_7 rfl
theorem k_120_8 : lk 120 8 = some (.ifCond .eq 5, 11, 13, 0, .null) := by decide +kernel
theorem x_120_8 : Tr sc d 120 (8, [l0, l1, l2], [.int i0], h) Q = if i0 = 0 then Tr sc d 120 (13, [l0, l1, l2], [], h) Q else Tr sc d 120 (11, [l0, l1, l2], [], h) Q := t_if k_120_8 rfl
theorem k_120_11 : lk 120 11 = some (.iload_n 2, 12, 2, 0, .null) := by decide +kernel
theorem x_120_11 : Tr sc d 120 (11, [l0, l1, some (.int x)], [], h) Q = Tr sc d 120 (12, [l0, l1, some (.int x)], [.int x], h) Q := t_iload_n k_120_11 rfl
theorem k_120_12 : lk 120 12 = some (.ireturn, 13, 0, 0, .null) := by decide +kernel
theorem x_120_12 : Tr sc d 120 (12, [l0, l1, l2], [.int i0], h) Q = Q (some (.int i0), h) := t_ret k_120_12 (by rw [r_120]; rfl)
theorem k_120_13 : lk 120 13 = some (.aload_n 0, 14, 0, 0, .null) := by decide +kernel
theorem x_120_13 : Tr sc d 120 (13, [some (.ref xk), l1, l2], [], h) Q = Tr sc d 120 (14, [some (.ref xk), l1, l2], [.ref xk], h) Q := t_aload_n k_120_13 rfl
theorem k_120_14 : lk 120 14 = some (.getfield 61, 17, 9, 9, .null) := by decide +kernel
theorem x_120_14 : Tr sc d 120 (14, [l0, l1, l2], [.ref k0], h) Q = (okp h k0 9 = true ∧ ∃ q, hR h k0 9 = some q ∧ Tr sc d 120 (17, [l0, l1, l2], [.ref q], h) Q) := t_getr k_120_14
theorem k_120_17 : lk 120 17 = some (.aload_n 0, 18, 0, 0, .null) := by decide +kernel
theorem x_120_17 : Tr sc d 120 (17, [some (.ref xk), l1, l2], [.ref k0], h) Q = Tr sc d 120 (18, [some (.ref xk), l1, l2], [.ref xk, .ref k0], h) Q := t_aload_n k_120_17 rfl
theorem k_120_18 : lk 120 18 = some (.getfield 20, 21, 9, 2, .null) := by decide +kernel
theorem x_120_18 : Tr sc d 120 (18, [l0, l1, l2], [.ref k1, .ref k0], h) Q = (okp h k1 9 = true ∧ ∃ q, hR h k1 2 = some q ∧ Tr sc d 120 (21, [l0, l1, l2], [.ref q, .ref k0], h) Q) := t_getr k_120_18
theorem k_120_21 : lk 120 21 = some (.iload_n 1, 22, 1, 0, .null) := by decide +kernel
theorem x_120_21 : Tr sc d 120 (21, [l0, some (.int x), l2], [.ref k1, .ref k0], h) Q = Tr sc d 120 (22, [l0, some (.int x), l2], [.int x, .ref k1, .ref k0], h) Q := t_iload_n k_120_21 rfl
theorem k_120_22 : lk 120 22 = some (.aaload, 23, 0, 0, .null) := by decide +kernel
theorem x_120_22 : Tr sc d 120 (22, [l0, l1, l2], [.int i2, .ref k1, .ref k0], h) Q = (((okp h k1 14 || okp h k1 15) && inb i2 (LN k1)) = true ∧ ∃ q, hR h k1 i2.toNatClampNeg = some q ∧ Tr sc d 120 (23, [l0, l1, l2], [.ref q, .ref k0], h) Q) := t_aald k_120_22
theorem k_120_23 : lk 120 23 = some (.invokevirtual 303, 26, 73, 1, .null) := by decide +kernel
theorem x_120_23 : Tr sc (d + 1) 120 (23, [l0, l1, l2], [.ref k1, .ref k0], h) Q = (okp h k0 7 = true ∧ Tr sc d 73 (ent0 73 [.ref k0, .ref k1] h) (fun z => Tr sc (d + 1) 120 (26, [l0, l1, l2], z.1.toList ++ [], z.2) Q)) := t_cv (as := [.ref k1]) (r := []) k_120_23 rfl rfl (Nat.le_of_ble_eq_true rfl) (Nat.le_of_ble_eq_true rfl) (Nat.le_of_ble_eq_true rfl)
theorem k_120_26 : lk 120 26 = some (.aload_n 0, 27, 0, 0, .null) := by decide +kernel
theorem x_120_26 : Tr sc d 120 (26, [some (.ref xk), l1, l2], [], h) Q = Tr sc d 120 (27, [some (.ref xk), l1, l2], [.ref xk], h) Q := t_aload_n k_120_26 rfl
theorem k_120_27 : lk 120 27 = some (.getfield 61, 30, 9, 9, .null) := by decide +kernel
theorem x_120_27 : Tr sc d 120 (27, [l0, l1, l2], [.ref k0], h) Q = (okp h k0 9 = true ∧ ∃ q, hR h k0 9 = some q ∧ Tr sc d 120 (30, [l0, l1, l2], [.ref q], h) Q) := t_getr k_120_27
theorem k_120_30 : lk 120 30 = some (.invokevirtual 306, 33, 79, 0, .null) := by decide +kernel
theorem x_120_30 : Tr sc (d + 1) 120 (30, [l0, l1, l2], [.ref k0], h) Q = (okp h k0 7 = true ∧ Tr sc d 79 (ent0 79 [.ref k0] h) (fun z => Tr sc (d + 1) 120 (33, [l0, l1, l2], z.1.toList ++ [], z.2) Q)) := t_cv (as := []) (r := []) k_120_30 rfl rfl (Nat.le_of_ble_eq_true rfl) (Nat.le_of_ble_eq_true rfl) (Nat.le_of_ble_eq_true rfl)
theorem k_120_33 : lk 120 33 = some (.ireturn, 34, 0, 0, .null) := by decide +kernel
theorem x_120_33 : Tr sc d 120 (33, [l0, l1, l2], [.int i0], h) Q = Q (some (.int i0), h) := t_ret k_120_33 (by rw [r_120]; rfl)
theorem e_120 : Tr sc d 120 (ent0 120 [.ref k0, .int i1] h) Q = Tr sc d 120 (0, [some (.ref k0), some (.int i1), none], [], h) Q := by
  have e : mL 120 = 3 := by decide +kernel
  unfold ent0
  rw [e]
  rfl
theorem r_121 : mR 121 = some .int := by decide +kernel
theorem k_121_0 : lk 121 0 = some (.aload_n 0, 1, 0, 0, .null) := by decide +kernel
theorem x_121_0 : Tr sc d 121 (0, [some (.ref xk), l1, l2, l3, l4], [], h) Q = Tr sc d 121 (1, [some (.ref xk), l1, l2, l3, l4], [.ref xk], h) Q := t_aload_n k_121_0 rfl
theorem k_121_1 : lk 121 1 = some (.iload_n 1, 2, 1, 0, .null) := by decide +kernel
theorem x_121_1 : Tr sc d 121 (1, [l0, some (.int x), l2, l3, l4], [.ref k0], h) Q = Tr sc d 121 (2, [l0, some (.int x), l2, l3, l4], [.int x, .ref k0], h) Q := t_iload_n k_121_1 rfl
theorem k_121_2 : lk 121 2 = some (.iconst 1, 3, 0, 0, .int 1) := by decide +kernel
theorem x_121_2 : Tr sc d 121 (2, [l0, l1, l2, l3, l4], [.int i1, .ref k0], h) Q = Tr sc d 121 (3, [l0, l1, l2, l3, l4], [.int 1, .int i1, .ref k0], h) Q := t_go k_121_2 rfl
theorem k_121_3 : lk 121 3 = some (.invokevirtual 300, 6, 147, 2, .null) := by decide +kernel
theorem x_121_3 : Tr sc (d + 1) 121 (3, [l0, l1, l2, l3, l4], [.int i2, .int i1, .ref k0], h) Q = (okp h k0 9 = true ∧ Tr sc d 147 (ent0 147 [.ref k0, .int i1, .int i2] h) (fun z => Tr sc (d + 1) 121 (6, [l0, l1, l2, l3, l4], z.1.toList ++ [], z.2) Q)) := t_cv (as := [.int i1, .int i2]) (r := []) k_121_3 rfl rfl (Nat.le_of_ble_eq_true rfl) (Nat.le_of_ble_eq_true rfl) (Nat.le_of_ble_eq_true rfl)
theorem k_121_6 : lk 121 6 = some (.istore 4, 8, 4, 0, .null) := by decide +kernel
theorem x_121_6 : Tr sc d 121 (6, [l0, l1, l2, l3, l4], [.int i0], h) Q = Tr sc d 121 (8, [l0, l1, l2, cl2 l3, some (.int i0)], [], h) Q := t_istore k_121_6 (Nat.le_of_ble_eq_true rfl)
theorem k_121_8 : lk 121 8 = some (.iload 4, 10, 4, 0, .null) := by decide +kernel
theorem x_121_8 : Tr sc d 121 (8, [l0, l1, l2, l3, some (.int x)], [], h) Q = Tr sc d 121 (10, [l0, l1, l2, l3, some (.int x)], [.int x], h) Q := t_iload k_121_8 rfl
theorem k_121_10 : lk 121 10 = some (.ifCond .eq 6, 13, 16, 0, .null) := by decide +kernel
theorem x_121_10 : Tr sc d 121 (10, [l0, l1, l2, l3, l4], [.int i0], h) Q = if i0 = 0 then Tr sc d 121 (16, [l0, l1, l2, l3, l4], [], h) Q else Tr sc d 121 (13, [l0, l1, l2, l3, l4], [], h) Q := t_if k_121_10 rfl
theorem k_121_13 : lk 121 13 = some (.iload 4, 15, 4, 0, .null) := by decide +kernel
theorem x_121_13 : Tr sc d 121 (13, [l0, l1, l2, l3, some (.int x)], [], h) Q = Tr sc d 121 (15, [l0, l1, l2, l3, some (.int x)], [.int x], h) Q := t_iload k_121_13 rfl
theorem k_121_15 : lk 121 15 = some (.ireturn, 16, 0, 0, .null) := by decide +kernel
theorem x_121_15 : Tr sc d 121 (15, [l0, l1, l2, l3, l4], [.int i0], h) Q = Q (some (.int i0), h) := t_ret k_121_15 (by rw [r_121]; rfl)
theorem k_121_16 : lk 121 16 = some (.aload_n 0, 17, 0, 0, .null) := by decide +kernel
theorem x_121_16 : Tr sc d 121 (16, [some (.ref xk), l1, l2, l3, l4], [], h) Q = Tr sc d 121 (17, [some (.ref xk), l1, l2, l3, l4], [.ref xk], h) Q := t_aload_n k_121_16 rfl
theorem k_121_17 : lk 121 17 = some (.getfield 61, 20, 9, 9, .null) := by decide +kernel
theorem x_121_17 : Tr sc d 121 (17, [l0, l1, l2, l3, l4], [.ref k0], h) Q = (okp h k0 9 = true ∧ ∃ q, hR h k0 9 = some q ∧ Tr sc d 121 (20, [l0, l1, l2, l3, l4], [.ref q], h) Q) := t_getr k_121_17
theorem k_121_20 : lk 121 20 = some (.aload_n 0, 21, 0, 0, .null) := by decide +kernel
theorem x_121_20 : Tr sc d 121 (20, [some (.ref xk), l1, l2, l3, l4], [.ref k0], h) Q = Tr sc d 121 (21, [some (.ref xk), l1, l2, l3, l4], [.ref xk, .ref k0], h) Q := t_aload_n k_121_20 rfl
theorem k_121_21 : lk 121 21 = some (.getfield 20, 24, 9, 2, .null) := by decide +kernel
theorem x_121_21 : Tr sc d 121 (21, [l0, l1, l2, l3, l4], [.ref k1, .ref k0], h) Q = (okp h k1 9 = true ∧ ∃ q, hR h k1 2 = some q ∧ Tr sc d 121 (24, [l0, l1, l2, l3, l4], [.ref q, .ref k0], h) Q) := t_getr k_121_21
theorem k_121_24 : lk 121 24 = some (.iload_n 1, 25, 1, 0, .null) := by decide +kernel
theorem x_121_24 : Tr sc d 121 (24, [l0, some (.int x), l2, l3, l4], [.ref k1, .ref k0], h) Q = Tr sc d 121 (25, [l0, some (.int x), l2, l3, l4], [.int x, .ref k1, .ref k0], h) Q := t_iload_n k_121_24 rfl
theorem k_121_25 : lk 121 25 = some (.aaload, 26, 0, 0, .null) := by decide +kernel
theorem x_121_25 : Tr sc d 121 (25, [l0, l1, l2, l3, l4], [.int i2, .ref k1, .ref k0], h) Q = (((okp h k1 14 || okp h k1 15) && inb i2 (LN k1)) = true ∧ ∃ q, hR h k1 i2.toNatClampNeg = some q ∧ Tr sc d 121 (26, [l0, l1, l2, l3, l4], [.ref q, .ref k0], h) Q) := t_aald k_121_25
theorem k_121_26 : lk 121 26 = some (.invokevirtual 303, 29, 73, 1, .null) := by decide +kernel
theorem x_121_26 : Tr sc (d + 1) 121 (26, [l0, l1, l2, l3, l4], [.ref k1, .ref k0], h) Q = (okp h k0 7 = true ∧ Tr sc d 73 (ent0 73 [.ref k0, .ref k1] h) (fun z => Tr sc (d + 1) 121 (29, [l0, l1, l2, l3, l4], z.1.toList ++ [], z.2) Q)) := t_cv (as := [.ref k1]) (r := []) k_121_26 rfl rfl (Nat.le_of_ble_eq_true rfl) (Nat.le_of_ble_eq_true rfl) (Nat.le_of_ble_eq_true rfl)
theorem k_121_29 : lk 121 29 = some (.aload_n 0, 30, 0, 0, .null) := by decide +kernel
theorem x_121_29 : Tr sc d 121 (29, [some (.ref xk), l1, l2, l3, l4], [], h) Q = Tr sc d 121 (30, [some (.ref xk), l1, l2, l3, l4], [.ref xk], h) Q := t_aload_n k_121_29 rfl
theorem k_121_30 : lk 121 30 = some (.getfield 61, 33, 9, 9, .null) := by decide +kernel
theorem x_121_30 : Tr sc d 121 (30, [l0, l1, l2, l3, l4], [.ref k0], h) Q = (okp h k0 9 = true ∧ ∃ q, hR h k0 9 = some q ∧ Tr sc d 121 (33, [l0, l1, l2, l3, l4], [.ref q], h) Q) := t_getr k_121_30
theorem k_121_33 : lk 121 33 = some (.iload_n 2, 34, 2, 0, .null) := by decide +kernel
theorem x_121_33 : Tr sc d 121 (33, [l0, l1, some (.int x), l3, l4], [.ref k0], h) Q = Tr sc d 121 (34, [l0, l1, some (.int x), l3, l4], [.int x, .ref k0], h) Q := t_iload_n k_121_33 rfl
theorem k_121_34 : lk 121 34 = some (.iload_n 3, 35, 3, 0, .null) := by decide +kernel
theorem x_121_34 : Tr sc d 121 (34, [l0, l1, l2, some (.int x), l4], [.int i1, .ref k0], h) Q = Tr sc d 121 (35, [l0, l1, l2, some (.int x), l4], [.int x, .int i1, .ref k0], h) Q := t_iload_n k_121_34 rfl
theorem k_121_35 : lk 121 35 = some (.invokevirtual 309, 38, 78, 2, .null) := by decide +kernel
theorem x_121_35 : Tr sc (d + 1) 121 (35, [l0, l1, l2, l3, l4], [.int i2, .int i1, .ref k0], h) Q = (okp h k0 7 = true ∧ Tr sc d 78 (ent0 78 [.ref k0, .int i1, .int i2] h) (fun z => Tr sc (d + 1) 121 (38, [l0, l1, l2, l3, l4], z.1.toList ++ [], z.2) Q)) := t_cv (as := [.int i1, .int i2]) (r := []) k_121_35 rfl rfl (Nat.le_of_ble_eq_true rfl) (Nat.le_of_ble_eq_true rfl) (Nat.le_of_ble_eq_true rfl)
theorem k_121_38 : lk 121 38 = some (.ifCond .lt 7, 41, 45, 0, .null) := by decide +kernel
theorem x_121_38 : Tr sc d 121 (38, [l0, l1, l2, l3, l4], [.int i0], h) Q = if i0 < 0 then Tr sc d 121 (45, [l0, l1, l2, l3, l4], [], h) Q else Tr sc d 121 (41, [l0, l1, l2, l3, l4], [], h) Q := t_if k_121_38 rfl
theorem k_121_41 : lk 121 41 = some (.iconst 1, 42, 0, 0, .int 1) := by decide +kernel
theorem x_121_41 : Tr sc d 121 (41, [l0, l1, l2, l3, l4], [], h) Q = Tr sc d 121 (42, [l0, l1, l2, l3, l4], [.int 1], h) Q := t_go k_121_41 rfl
theorem k_121_42 : lk 121 42 = some (.goto 4, 45, 46, 0, .null) := by decide +kernel
theorem x_121_42 : Tr sc d 121 (42, [l0, l1, l2, l3, l4], [.int i0], h) Q = Tr sc d 121 (46, [l0, l1, l2, l3, l4], [.int i0], h) Q := t_go k_121_42 rfl
theorem k_121_45 : lk 121 45 = some (.iconst 0, 46, 0, 0, .int 0) := by decide +kernel
theorem x_121_45 : Tr sc d 121 (45, [l0, l1, l2, l3, l4], [], h) Q = Tr sc d 121 (46, [l0, l1, l2, l3, l4], [.int 0], h) Q := t_go k_121_45 rfl
theorem k_121_46 : lk 121 46 = some (.ireturn, 47, 0, 0, .null) := by decide +kernel
theorem x_121_46 : Tr sc d 121 (46, [l0, l1, l2, l3, l4], [.int i0], h) Q = Q (some (.int i0), h) := t_ret k_121_46 (by rw [r_121]; rfl)
theorem e_121 : Tr sc d 121 (ent0 121 [.ref k0, .int i1, .int i2, .int i3] h) Q = Tr sc d 121 (0, [some (.ref k0), some (.int i1), some (.int i2), some (.int i3), none], [], h) Q := by
  have e : mL 121 = 5 := by decide +kernel
  unfold ent0
  rw [e]
  rfl
theorem r_122 : mR 122 = some .int := by decide +kernel
theorem k_122_0 : lk 122 0 = some (.aload_n 0, 1, 0, 0, .null) := by decide +kernel
theorem x_122_0 : Tr sc d 122 (0, [some (.ref xk), l1, l2, l3], [], h) Q = Tr sc d 122 (1, [some (.ref xk), l1, l2, l3], [.ref xk], h) Q := t_aload_n k_122_0 rfl
theorem k_122_1 : lk 122 1 = some (.iload_n 1, 2, 1, 0, .null) := by decide +kernel
theorem x_122_1 : Tr sc d 122 (1, [l0, some (.int x), l2, l3], [.ref k0], h) Q = Tr sc d 122 (2, [l0, some (.int x), l2, l3], [.int x, .ref k0], h) Q := t_iload_n k_122_1 rfl
theorem k_122_2 : lk 122 2 = some (.iconst 1, 3, 0, 0, .int 1) := by decide +kernel
theorem x_122_2 : Tr sc d 122 (2, [l0, l1, l2, l3], [.int i1, .ref k0], h) Q = Tr sc d 122 (3, [l0, l1, l2, l3], [.int 1, .int i1, .ref k0], h) Q := t_go k_122_2 rfl
theorem k_122_3 : lk 122 3 = some (.invokevirtual 300, 6, 147, 2, .null) := by decide +kernel
theorem x_122_3 : Tr sc (d + 1) 122 (3, [l0, l1, l2, l3], [.int i2, .int i1, .ref k0], h) Q = (okp h k0 9 = true ∧ Tr sc d 147 (ent0 147 [.ref k0, .int i1, .int i2] h) (fun z => Tr sc (d + 1) 122 (6, [l0, l1, l2, l3], z.1.toList ++ [], z.2) Q)) := t_cv (as := [.int i1, .int i2]) (r := []) k_122_3 rfl rfl (Nat.le_of_ble_eq_true rfl) (Nat.le_of_ble_eq_true rfl) (Nat.le_of_ble_eq_true rfl)
theorem k_122_6 : lk 122 6 = some (.istore_n 3, 7, 3, 0, .null) := by decide +kernel
theorem x_122_6 : Tr sc d 122 (6, [l0, l1, l2, l3], [.int i0], h) Q = Tr sc d 122 (7, [l0, l1, cl2 l2, some (.int i0)], [], h) Q := t_istore_n k_122_6 (Nat.le_of_ble_eq_true rfl)
theorem k_122_7 : lk 122 7 = some (.iload_n 3, 8, 3, 0, .null) := by decide +kernel
theorem x_122_7 : Tr sc d 122 (7, [l0, l1, l2, some (.int x)], [], h) Q = Tr sc d 122 (8, [l0, l1, l2, some (.int x)], [.int x], h) Q := t_iload_n k_122_7 rfl
theorem k_122_8 : lk 122 8 = some (.ifCond .eq 5, 11, 13, 0, .null) := by decide +kernel
theorem x_122_8 : Tr sc d 122 (8, [l0, l1, l2, l3], [.int i0], h) Q = if i0 = 0 then Tr sc d 122 (13, [l0, l1, l2, l3], [], h) Q else Tr sc d 122 (11, [l0, l1, l2, l3], [], h) Q := t_if k_122_8 rfl
theorem k_122_11 : lk 122 11 = some (.iload_n 3, 12, 3, 0, .null) := by decide +kernel
theorem x_122_11 : Tr sc d 122 (11, [l0, l1, l2, some (.int x)], [], h) Q = Tr sc d 122 (12, [l0, l1, l2, some (.int x)], [.int x], h) Q := t_iload_n k_122_11 rfl
theorem k_122_12 : lk 122 12 = some (.ireturn, 13, 0, 0, .null) := by decide +kernel
theorem x_122_12 : Tr sc d 122 (12, [l0, l1, l2, l3], [.int i0], h) Q = Q (some (.int i0), h) := t_ret k_122_12 (by rw [r_122]; rfl)
theorem k_122_13 : lk 122 13 = some (.aload_n 0, 14, 0, 0, .null) := by decide +kernel
theorem x_122_13 : Tr sc d 122 (13, [some (.ref xk), l1, l2, l3], [], h) Q = Tr sc d 122 (14, [some (.ref xk), l1, l2, l3], [.ref xk], h) Q := t_aload_n k_122_13 rfl
theorem k_122_14 : lk 122 14 = some (.getfield 20, 17, 9, 2, .null) := by decide +kernel
theorem x_122_14 : Tr sc d 122 (14, [l0, l1, l2, l3], [.ref k0], h) Q = (okp h k0 9 = true ∧ ∃ q, hR h k0 2 = some q ∧ Tr sc d 122 (17, [l0, l1, l2, l3], [.ref q], h) Q) := t_getr k_122_14
theorem k_122_17 : lk 122 17 = some (.iload_n 1, 18, 1, 0, .null) := by decide +kernel
theorem x_122_17 : Tr sc d 122 (17, [l0, some (.int x), l2, l3], [.ref k0], h) Q = Tr sc d 122 (18, [l0, some (.int x), l2, l3], [.int x, .ref k0], h) Q := t_iload_n k_122_17 rfl
theorem k_122_18 : lk 122 18 = some (.aaload, 19, 0, 0, .null) := by decide +kernel
theorem x_122_18 : Tr sc d 122 (18, [l0, l1, l2, l3], [.int i1, .ref k0], h) Q = (((okp h k0 14 || okp h k0 15) && inb i1 (LN k0)) = true ∧ ∃ q, hR h k0 i1.toNatClampNeg = some q ∧ Tr sc d 122 (19, [l0, l1, l2, l3], [.ref q], h) Q) := t_aald k_122_18
theorem k_122_19 : lk 122 19 = some (.iload_n 2, 20, 2, 0, .null) := by decide +kernel
theorem x_122_19 : Tr sc d 122 (19, [l0, l1, some (.int x), l3], [.ref k0], h) Q = Tr sc d 122 (20, [l0, l1, some (.int x), l3], [.int x, .ref k0], h) Q := t_iload_n k_122_19 rfl
theorem k_122_20 : lk 122 20 = some (.invokevirtual 206, 23, 50, 1, .null) := by decide +kernel
theorem x_122_20 : Tr sc (d + 1) 122 (20, [l0, l1, l2, l3], [.int i1, .ref k0], h) Q = (okp h k0 6 = true ∧ Tr sc d 50 (ent0 50 [.ref k0, .int i1] h) (fun z => Tr sc (d + 1) 122 (23, [l0, l1, l2, l3], z.1.toList ++ [], z.2) Q)) := t_cv (as := [.int i1]) (r := []) k_122_20 rfl rfl (Nat.le_of_ble_eq_true rfl) (Nat.le_of_ble_eq_true rfl) (Nat.le_of_ble_eq_true rfl)
theorem k_122_23 : lk 122 23 = some (.ifCond .ne 9, 26, 32, 0, .null) := by decide +kernel
theorem x_122_23 : Tr sc d 122 (23, [l0, l1, l2, l3], [.int i0], h) Q = if i0 = 0 then Tr sc d 122 (26, [l0, l1, l2, l3], [], h) Q else Tr sc d 122 (32, [l0, l1, l2, l3], [], h) Q := t_if k_122_23 rfl
theorem k_122_26 : lk 122 26 = some (.aload_n 0, 27, 0, 0, .null) := by decide +kernel
theorem x_122_26 : Tr sc d 122 (26, [some (.ref xk), l1, l2, l3], [], h) Q = Tr sc d 122 (27, [some (.ref xk), l1, l2, l3], [.ref xk], h) Q := t_aload_n k_122_26 rfl
theorem k_122_27 : lk 122 27 = some (.iconst 2, 28, 0, 0, .int 2) := by decide +kernel
theorem x_122_27 : Tr sc d 122 (27, [l0, l1, l2, l3], [.ref k0], h) Q = Tr sc d 122 (28, [l0, l1, l2, l3], [.int 2, .ref k0], h) Q := t_go k_122_27 rfl
theorem k_122_28 : lk 122 28 = some (.invokevirtual 118, 31, 145, 1, .null) := by decide +kernel
theorem x_122_28 : Tr sc (d + 1) 122 (28, [l0, l1, l2, l3], [.int i1, .ref k0], h) Q = (okp h k0 9 = true ∧ Tr sc d 145 (ent0 145 [.ref k0, .int i1] h) (fun z => Tr sc (d + 1) 122 (31, [l0, l1, l2, l3], z.1.toList ++ [], z.2) Q)) := t_cv (as := [.int i1]) (r := []) k_122_28 rfl rfl (Nat.le_of_ble_eq_true rfl) (Nat.le_of_ble_eq_true rfl) (Nat.le_of_ble_eq_true rfl)
theorem k_122_31 : lk 122 31 = some (.ireturn, 32, 0, 0, .null) := by decide +kernel
theorem x_122_31 : Tr sc d 122 (31, [l0, l1, l2, l3], [.int i0], h) Q = Q (some (.int i0), h) := t_ret k_122_31 (by rw [r_122]; rfl)
theorem k_122_32 : lk 122 32 = some (.aload_n 0, 33, 0, 0, .null) := by decide +kernel
theorem x_122_32 : Tr sc d 122 (32, [some (.ref xk), l1, l2, l3], [], h) Q = Tr sc d 122 (33, [some (.ref xk), l1, l2, l3], [.ref xk], h) Q := t_aload_n k_122_32 rfl
theorem k_122_33 : lk 122 33 = some (.getfield 61, 36, 9, 9, .null) := by decide +kernel
theorem x_122_33 : Tr sc d 122 (33, [l0, l1, l2, l3], [.ref k0], h) Q = (okp h k0 9 = true ∧ ∃ q, hR h k0 9 = some q ∧ Tr sc d 122 (36, [l0, l1, l2, l3], [.ref q], h) Q) := t_getr k_122_33
theorem k_122_36 : lk 122 36 = some (.aload_n 0, 37, 0, 0, .null) := by decide +kernel
theorem x_122_36 : Tr sc d 122 (36, [some (.ref xk), l1, l2, l3], [.ref k0], h) Q = Tr sc d 122 (37, [some (.ref xk), l1, l2, l3], [.ref xk, .ref k0], h) Q := t_aload_n k_122_36 rfl
theorem k_122_37 : lk 122 37 = some (.getfield 20, 40, 9, 2, .null) := by decide +kernel
theorem x_122_37 : Tr sc d 122 (37, [l0, l1, l2, l3], [.ref k1, .ref k0], h) Q = (okp h k1 9 = true ∧ ∃ q, hR h k1 2 = some q ∧ Tr sc d 122 (40, [l0, l1, l2, l3], [.ref q, .ref k0], h) Q) := t_getr k_122_37
theorem k_122_40 : lk 122 40 = some (.iload_n 1, 41, 1, 0, .null) := by decide +kernel
theorem x_122_40 : Tr sc d 122 (40, [l0, some (.int x), l2, l3], [.ref k1, .ref k0], h) Q = Tr sc d 122 (41, [l0, some (.int x), l2, l3], [.int x, .ref k1, .ref k0], h) Q := t_iload_n k_122_40 rfl
theorem k_122_41 : lk 122 41 = some (.aaload, 42, 0, 0, .null) := by decide +kernel
theorem x_122_41 : Tr sc d 122 (41, [l0, l1, l2, l3], [.int i2, .ref k1, .ref k0], h) Q = (((okp h k1 14 || okp h k1 15) && inb i2 (LN k1)) = true ∧ ∃ q, hR h k1 i2.toNatClampNeg = some q ∧ Tr sc d 122 (42, [l0, l1, l2, l3], [.ref q, .ref k0], h) Q) := t_aald k_122_41
theorem k_122_42 : lk 122 42 = some (.invokevirtual 303, 45, 73, 1, .null) := by decide +kernel
theorem x_122_42 : Tr sc (d + 1) 122 (42, [l0, l1, l2, l3], [.ref k1, .ref k0], h) Q = (okp h k0 7 = true ∧ Tr sc d 73 (ent0 73 [.ref k0, .ref k1] h) (fun z => Tr sc (d + 1) 122 (45, [l0, l1, l2, l3], z.1.toList ++ [], z.2) Q)) := t_cv (as := [.ref k1]) (r := []) k_122_42 rfl rfl (Nat.le_of_ble_eq_true rfl) (Nat.le_of_ble_eq_true rfl) (Nat.le_of_ble_eq_true rfl)
theorem k_122_45 : lk 122 45 = some (.aload_n 0, 46, 0, 0, .null) := by decide +kernel
theorem x_122_45 : Tr sc d 122 (45, [some (.ref xk), l1, l2, l3], [], h) Q = Tr sc d 122 (46, [some (.ref xk), l1, l2, l3], [.ref xk], h) Q := t_aload_n k_122_45 rfl
theorem k_122_46 : lk 122 46 = some (.getfield 61, 49, 9, 9, .null) := by decide +kernel
theorem x_122_46 : Tr sc d 122 (46, [l0, l1, l2, l3], [.ref k0], h) Q = (okp h k0 9 = true ∧ ∃ q, hR h k0 9 = some q ∧ Tr sc d 122 (49, [l0, l1, l2, l3], [.ref q], h) Q) := t_getr k_122_46
theorem k_122_49 : lk 122 49 = some (.aload_n 0, 50, 0, 0, .null) := by decide +kernel
theorem x_122_49 : Tr sc d 122 (49, [some (.ref xk), l1, l2, l3], [.ref k0], h) Q = Tr sc d 122 (50, [some (.ref xk), l1, l2, l3], [.ref xk, .ref k0], h) Q := t_aload_n k_122_49 rfl
theorem k_122_50 : lk 122 50 = some (.getfield 20, 53, 9, 2, .null) := by decide +kernel
theorem x_122_50 : Tr sc d 122 (50, [l0, l1, l2, l3], [.ref k1, .ref k0], h) Q = (okp h k1 9 = true ∧ ∃ q, hR h k1 2 = some q ∧ Tr sc d 122 (53, [l0, l1, l2, l3], [.ref q, .ref k0], h) Q) := t_getr k_122_50
theorem k_122_53 : lk 122 53 = some (.iload_n 1, 54, 1, 0, .null) := by decide +kernel
theorem x_122_53 : Tr sc d 122 (53, [l0, some (.int x), l2, l3], [.ref k1, .ref k0], h) Q = Tr sc d 122 (54, [l0, some (.int x), l2, l3], [.int x, .ref k1, .ref k0], h) Q := t_iload_n k_122_53 rfl
theorem k_122_54 : lk 122 54 = some (.aaload, 55, 0, 0, .null) := by decide +kernel
theorem x_122_54 : Tr sc d 122 (54, [l0, l1, l2, l3], [.int i2, .ref k1, .ref k0], h) Q = (((okp h k1 14 || okp h k1 15) && inb i2 (LN k1)) = true ∧ ∃ q, hR h k1 i2.toNatClampNeg = some q ∧ Tr sc d 122 (55, [l0, l1, l2, l3], [.ref q, .ref k0], h) Q) := t_aald k_122_54
theorem k_122_55 : lk 122 55 = some (.iload_n 2, 56, 2, 0, .null) := by decide +kernel
theorem x_122_55 : Tr sc d 122 (55, [l0, l1, some (.int x), l3], [.ref k1, .ref k0], h) Q = Tr sc d 122 (56, [l0, l1, some (.int x), l3], [.int x, .ref k1, .ref k0], h) Q := t_iload_n k_122_55 rfl
theorem k_122_56 : lk 122 56 = some (.invokevirtual 312, 59, 80, 2, .null) := by decide +kernel
theorem x_122_56 : Tr sc (d + 1) 122 (56, [l0, l1, l2, l3], [.int i2, .ref k1, .ref k0], h) Q = (okp h k0 7 = true ∧ Tr sc d 80 (ent0 80 [.ref k0, .ref k1, .int i2] h) (fun z => Tr sc (d + 1) 122 (59, [l0, l1, l2, l3], z.1.toList ++ [], z.2) Q)) := t_cv (as := [.ref k1, .int i2]) (r := []) k_122_56 rfl rfl (Nat.le_of_ble_eq_true rfl) (Nat.le_of_ble_eq_true rfl) (Nat.le_of_ble_eq_true rfl)
theorem k_122_59 : lk 122 59 = some (.ireturn, 60, 0, 0, .null) := by decide +kernel
theorem x_122_59 : Tr sc d 122 (59, [l0, l1, l2, l3], [.int i0], h) Q = Q (some (.int i0), h) := t_ret k_122_59 (by rw [r_122]; rfl)
theorem e_122 : Tr sc d 122 (ent0 122 [.ref k0, .int i1, .int i2] h) Q = Tr sc d 122 (0, [some (.ref k0), some (.int i1), some (.int i2), none], [], h) Q := by
  have e : mL 122 = 4 := by decide +kernel
  unfold ent0
  rw [e]
  rfl
theorem r_123 : mR 123 = some .int := by decide +kernel
theorem k_123_0 : lk 123 0 = some (.aload_n 0, 1, 0, 0, .null) := by decide +kernel
theorem x_123_0 : Tr sc d 123 (0, [some (.ref xk), l1, l2], [], h) Q = Tr sc d 123 (1, [some (.ref xk), l1, l2], [.ref xk], h) Q := t_aload_n k_123_0 rfl
theorem k_123_1 : lk 123 1 = some (.iload_n 1, 2, 1, 0, .null) := by decide +kernel
theorem x_123_1 : Tr sc d 123 (1, [l0, some (.int x), l2], [.ref k0], h) Q = Tr sc d 123 (2, [l0, some (.int x), l2], [.int x, .ref k0], h) Q := t_iload_n k_123_1 rfl
theorem k_123_2 : lk 123 2 = some (.iconst 1, 3, 0, 0, .int 1) := by decide +kernel
theorem x_123_2 : Tr sc d 123 (2, [l0, l1, l2], [.int i1, .ref k0], h) Q = Tr sc d 123 (3, [l0, l1, l2], [.int 1, .int i1, .ref k0], h) Q := t_go k_123_2 rfl
theorem k_123_3 : lk 123 3 = some (.invokevirtual 300, 6, 147, 2, .null) := by decide +kernel
theorem x_123_3 : Tr sc (d + 1) 123 (3, [l0, l1, l2], [.int i2, .int i1, .ref k0], h) Q = (okp h k0 9 = true ∧ Tr sc d 147 (ent0 147 [.ref k0, .int i1, .int i2] h) (fun z => Tr sc (d + 1) 123 (6, [l0, l1, l2], z.1.toList ++ [], z.2) Q)) := t_cv (as := [.int i1, .int i2]) (r := []) k_123_3 rfl rfl (Nat.le_of_ble_eq_true rfl) (Nat.le_of_ble_eq_true rfl) (Nat.le_of_ble_eq_true rfl)
theorem k_123_6 : lk 123 6 = some (.istore_n 2, 7, 2, 0, .null) := by decide +kernel
theorem x_123_6 : Tr sc d 123 (6, [l0, l1, l2], [.int i0], h) Q = Tr sc d 123 (7, [l0, cl2 l1, some (.int i0)], [], h) Q := t_istore_n k_123_6 (Nat.le_of_ble_eq_true rfl)
theorem k_123_7 : lk 123 7 = some (.iload_n 2, 8, 2, 0, .null) := by decide +kernel
theorem x_123_7 : Tr sc d 123 (7, [l0, l1, some (.int x)], [], h) Q = Tr sc d 123 (8, [l0, l1, some (.int x)], [.int x], h) Q := t_iload_n k_123_7 rfl
theorem k_123_8 : lk 123 8 = some (.ifCond .eq 5, 11, 13, 0, .null) := by decide +kernel
theorem x_123_8 : Tr sc d 123 (8, [l0, l1, l2], [.int i0], h) Q = if i0 = 0 then Tr sc d 123 (13, [l0, l1, l2], [], h) Q else Tr sc d 123 (11, [l0, l1, l2], [], h) Q := t_if k_123_8 rfl
theorem k_123_11 : lk 123 11 = some (.iload_n 2, 12, 2, 0, .null) := by decide +kernel
theorem x_123_11 : Tr sc d 123 (11, [l0, l1, some (.int x)], [], h) Q = Tr sc d 123 (12, [l0, l1, some (.int x)], [.int x], h) Q := t_iload_n k_123_11 rfl
theorem k_123_12 : lk 123 12 = some (.ireturn, 13, 0, 0, .null) := by decide +kernel
theorem x_123_12 : Tr sc d 123 (12, [l0, l1, l2], [.int i0], h) Q = Q (some (.int i0), h) := t_ret k_123_12 (by rw [r_123]; rfl)
theorem k_123_13 : lk 123 13 = some (.aload_n 0, 14, 0, 0, .null) := by decide +kernel
theorem x_123_13 : Tr sc d 123 (13, [some (.ref xk), l1, l2], [], h) Q = Tr sc d 123 (14, [some (.ref xk), l1, l2], [.ref xk], h) Q := t_aload_n k_123_13 rfl
theorem k_123_14 : lk 123 14 = some (.getfield 61, 17, 9, 9, .null) := by decide +kernel
theorem x_123_14 : Tr sc d 123 (14, [l0, l1, l2], [.ref k0], h) Q = (okp h k0 9 = true ∧ ∃ q, hR h k0 9 = some q ∧ Tr sc d 123 (17, [l0, l1, l2], [.ref q], h) Q) := t_getr k_123_14
theorem k_123_17 : lk 123 17 = some (.aload_n 0, 18, 0, 0, .null) := by decide +kernel
theorem x_123_17 : Tr sc d 123 (17, [some (.ref xk), l1, l2], [.ref k0], h) Q = Tr sc d 123 (18, [some (.ref xk), l1, l2], [.ref xk, .ref k0], h) Q := t_aload_n k_123_17 rfl
theorem k_123_18 : lk 123 18 = some (.getfield 20, 21, 9, 2, .null) := by decide +kernel
theorem x_123_18 : Tr sc d 123 (18, [l0, l1, l2], [.ref k1, .ref k0], h) Q = (okp h k1 9 = true ∧ ∃ q, hR h k1 2 = some q ∧ Tr sc d 123 (21, [l0, l1, l2], [.ref q, .ref k0], h) Q) := t_getr k_123_18
theorem k_123_21 : lk 123 21 = some (.iload_n 1, 22, 1, 0, .null) := by decide +kernel
theorem x_123_21 : Tr sc d 123 (21, [l0, some (.int x), l2], [.ref k1, .ref k0], h) Q = Tr sc d 123 (22, [l0, some (.int x), l2], [.int x, .ref k1, .ref k0], h) Q := t_iload_n k_123_21 rfl
theorem k_123_22 : lk 123 22 = some (.aaload, 23, 0, 0, .null) := by decide +kernel
theorem x_123_22 : Tr sc d 123 (22, [l0, l1, l2], [.int i2, .ref k1, .ref k0], h) Q = (((okp h k1 14 || okp h k1 15) && inb i2 (LN k1)) = true ∧ ∃ q, hR h k1 i2.toNatClampNeg = some q ∧ Tr sc d 123 (23, [l0, l1, l2], [.ref q, .ref k0], h) Q) := t_aald k_123_22
theorem k_123_23 : lk 123 23 = some (.invokevirtual 303, 26, 73, 1, .null) := by decide +kernel
theorem x_123_23 : Tr sc (d + 1) 123 (23, [l0, l1, l2], [.ref k1, .ref k0], h) Q = (okp h k0 7 = true ∧ Tr sc d 73 (ent0 73 [.ref k0, .ref k1] h) (fun z => Tr sc (d + 1) 123 (26, [l0, l1, l2], z.1.toList ++ [], z.2) Q)) := t_cv (as := [.ref k1]) (r := []) k_123_23 rfl rfl (Nat.le_of_ble_eq_true rfl) (Nat.le_of_ble_eq_true rfl) (Nat.le_of_ble_eq_true rfl)
theorem k_123_26 : lk 123 26 = some (.aload_n 0, 27, 0, 0, .null) := by decide +kernel
theorem x_123_26 : Tr sc d 123 (26, [some (.ref xk), l1, l2], [], h) Q = Tr sc d 123 (27, [some (.ref xk), l1, l2], [.ref xk], h) Q := t_aload_n k_123_26 rfl
theorem k_123_27 : lk 123 27 = some (.getfield 61, 30, 9, 9, .null) := by decide +kernel
theorem x_123_27 : Tr sc d 123 (27, [l0, l1, l2], [.ref k0], h) Q = (okp h k0 9 = true ∧ ∃ q, hR h k0 9 = some q ∧ Tr sc d 123 (30, [l0, l1, l2], [.ref q], h) Q) := t_getr k_123_27
theorem k_123_30 : lk 123 30 = some (.aload_n 0, 31, 0, 0, .null) := by decide +kernel
theorem x_123_30 : Tr sc d 123 (30, [some (.ref xk), l1, l2], [.ref k0], h) Q = Tr sc d 123 (31, [some (.ref xk), l1, l2], [.ref xk, .ref k0], h) Q := t_aload_n k_123_30 rfl
theorem k_123_31 : lk 123 31 = some (.getfield 20, 34, 9, 2, .null) := by decide +kernel
theorem x_123_31 : Tr sc d 123 (31, [l0, l1, l2], [.ref k1, .ref k0], h) Q = (okp h k1 9 = true ∧ ∃ q, hR h k1 2 = some q ∧ Tr sc d 123 (34, [l0, l1, l2], [.ref q, .ref k0], h) Q) := t_getr k_123_31
theorem k_123_34 : lk 123 34 = some (.iload_n 1, 35, 1, 0, .null) := by decide +kernel
theorem x_123_34 : Tr sc d 123 (34, [l0, some (.int x), l2], [.ref k1, .ref k0], h) Q = Tr sc d 123 (35, [l0, some (.int x), l2], [.int x, .ref k1, .ref k0], h) Q := t_iload_n k_123_34 rfl
theorem k_123_35 : lk 123 35 = some (.aaload, 36, 0, 0, .null) := by decide +kernel
theorem x_123_35 : Tr sc d 123 (35, [l0, l1, l2], [.int i2, .ref k1, .ref k0], h) Q = (((okp h k1 14 || okp h k1 15) && inb i2 (LN k1)) = true ∧ ∃ q, hR h k1 i2.toNatClampNeg = some q ∧ Tr sc d 123 (36, [l0, l1, l2], [.ref q, .ref k0], h) Q) := t_aald k_123_35
theorem k_123_36 : lk 123 36 = some (.invokevirtual 316, 39, 81, 1, .null) := by decide +kernel
theorem x_123_36 : Tr sc (d + 1) 123 (36, [l0, l1, l2], [.ref k1, .ref k0], h) Q = (okp h k0 7 = true ∧ Tr sc d 81 (ent0 81 [.ref k0, .ref k1] h) (fun z => Tr sc (d + 1) 123 (39, [l0, l1, l2], z.1.toList ++ [], z.2) Q)) := t_cv (as := [.ref k1]) (r := []) k_123_36 rfl rfl (Nat.le_of_ble_eq_true rfl) (Nat.le_of_ble_eq_true rfl) (Nat.le_of_ble_eq_true rfl)
theorem k_123_39 : lk 123 39 = some (.ifCond .eq 7, 42, 46, 0, .null) := by decide +kernel
theorem x_123_39 : Tr sc d 123 (39, [l0, l1, l2], [.int i0], h) Q = if i0 = 0 then Tr sc d 123 (46, [l0, l1, l2], [], h) Q else Tr sc d 123 (42, [l0, l1, l2], [], h) Q := t_if k_123_39 rfl
theorem k_123_42 : lk 123 42 = some (.iconst 1, 43, 0, 0, .int 1) := by decide +kernel
theorem x_123_42 : Tr sc d 123 (42, [l0, l1, l2], [], h) Q = Tr sc d 123 (43, [l0, l1, l2], [.int 1], h) Q := t_go k_123_42 rfl
theorem k_123_43 : lk 123 43 = some (.goto 4, 46, 47, 0, .null) := by decide +kernel
theorem x_123_43 : Tr sc d 123 (43, [l0, l1, l2], [.int i0], h) Q = Tr sc d 123 (47, [l0, l1, l2], [.int i0], h) Q := t_go k_123_43 rfl
theorem k_123_46 : lk 123 46 = some (.iconst 0, 47, 0, 0, .int 0) := by decide +kernel
theorem x_123_46 : Tr sc d 123 (46, [l0, l1, l2], [], h) Q = Tr sc d 123 (47, [l0, l1, l2], [.int 0], h) Q := t_go k_123_46 rfl
theorem k_123_47 : lk 123 47 = some (.ireturn, 48, 0, 0, .null) := by decide +kernel
theorem x_123_47 : Tr sc d 123 (47, [l0, l1, l2], [.int i0], h) Q = Q (some (.int i0), h) := t_ret k_123_47 (by rw [r_123]; rfl)
theorem e_123 : Tr sc d 123 (ent0 123 [.ref k0, .int i1] h) Q = Tr sc d 123 (0, [some (.ref k0), some (.int i1), none], [], h) Q := by
  have e : mL 123 = 3 := by decide +kernel
  unfold ent0
  rw [e]
  rfl
theorem r_124 : mR 124 = some .int := by decide +kernel
theorem k_124_0 : lk 124 0 = some (.aload_n 0, 1, 0, 0, .null) := by decide +kernel
theorem x_124_0 : Tr sc d 124 (0, [some (.ref xk), l1, l2, l3], [], h) Q = Tr sc d 124 (1, [some (.ref xk), l1, l2, l3], [.ref xk], h) Q := t_aload_n k_124_0 rfl
theorem k_124_1 : lk 124 1 = some (.iload_n 1, 2, 1, 0, .null) := by decide +kernel
theorem x_124_1 : Tr sc d 124 (1, [l0, some (.int x), l2, l3], [.ref k0], h) Q = Tr sc d 124 (2, [l0, some (.int x), l2, l3], [.int x, .ref k0], h) Q := t_iload_n k_124_1 rfl
theorem k_124_2 : lk 124 2 = some (.iload_n 2, 3, 2, 0, .null) := by decide +kernel
theorem x_124_2 : Tr sc d 124 (2, [l0, l1, some (.int x), l3], [.int i1, .ref k0], h) Q = Tr sc d 124 (3, [l0, l1, some (.int x), l3], [.int x, .int i1, .ref k0], h) Q := t_iload_n k_124_2 rfl
theorem k_124_3 : lk 124 3 = some (.iconst 3, 4, 0, 0, .int 3) := by decide +kernel
theorem x_124_3 : Tr sc d 124 (3, [l0, l1, l2, l3], [.int i2, .int i1, .ref k0], h) Q = Tr sc d 124 (4, [l0, l1, l2, l3], [.int 3, .int i2, .int i1, .ref k0], h) Q := t_go k_124_3 rfl
theorem k_124_4 : lk 124 4 = some (.invokestatic 270, 7, 144, 2, .null) := by decide +kernel
theorem x_124_4 : Tr sc (d + 1) 124 (4, [l0, l1, l2, l3], [.int i3, .int i2, .int i1, .ref k0], h) Q = Tr sc d 144 (ent0 144 [.int i2, .int i3] h) (fun z => Tr sc (d + 1) 124 (7, [l0, l1, l2, l3], z.1.toList ++ [.int i1, .ref k0], z.2) Q) := t_cs (as := [.int i2, .int i3]) (r := [.int i1, .ref k0]) k_124_4 (by decide) rfl rfl (Nat.le_of_ble_eq_true rfl) (Nat.le_of_ble_eq_true rfl)
theorem k_124_7 : lk 124 7 = some (.invokevirtual 300, 10, 147, 2, .null) := by decide +kernel
theorem x_124_7 : Tr sc (d + 1) 124 (7, [l0, l1, l2, l3], [.int i2, .int i1, .ref k0], h) Q = (okp h k0 9 = true ∧ Tr sc d 147 (ent0 147 [.ref k0, .int i1, .int i2] h) (fun z => Tr sc (d + 1) 124 (10, [l0, l1, l2, l3], z.1.toList ++ [], z.2) Q)) := t_cv (as := [.int i1, .int i2]) (r := []) k_124_7 rfl rfl (Nat.le_of_ble_eq_true rfl) (Nat.le_of_ble_eq_true rfl) (Nat.le_of_ble_eq_true rfl)
theorem k_124_10 : lk 124 10 = some (.istore_n 3, 11, 3, 0, .null) := by decide +kernel
theorem x_124_10 : Tr sc d 124 (10, [l0, l1, l2, l3], [.int i0], h) Q = Tr sc d 124 (11, [l0, l1, cl2 l2, some (.int i0)], [], h) Q := t_istore_n k_124_10 (Nat.le_of_ble_eq_true rfl)
theorem k_124_11 : lk 124 11 = some (.iload_n 3, 12, 3, 0, .null) := by decide +kernel
theorem x_124_11 : Tr sc d 124 (11, [l0, l1, l2, some (.int x)], [], h) Q = Tr sc d 124 (12, [l0, l1, l2, some (.int x)], [.int x], h) Q := t_iload_n k_124_11 rfl
theorem k_124_12 : lk 124 12 = some (.ifCond .eq 5, 15, 17, 0, .null) := by decide +kernel
theorem x_124_12 : Tr sc d 124 (12, [l0, l1, l2, l3], [.int i0], h) Q = if i0 = 0 then Tr sc d 124 (17, [l0, l1, l2, l3], [], h) Q else Tr sc d 124 (15, [l0, l1, l2, l3], [], h) Q := t_if k_124_12 rfl
theorem k_124_15 : lk 124 15 = some (.iload_n 3, 16, 3, 0, .null) := by decide +kernel
theorem x_124_15 : Tr sc d 124 (15, [l0, l1, l2, some (.int x)], [], h) Q = Tr sc d 124 (16, [l0, l1, l2, some (.int x)], [.int x], h) Q := t_iload_n k_124_15 rfl
theorem k_124_16 : lk 124 16 = some (.ireturn, 17, 0, 0, .null) := by decide +kernel
theorem x_124_16 : Tr sc d 124 (16, [l0, l1, l2, l3], [.int i0], h) Q = Q (some (.int i0), h) := t_ret k_124_16 (by rw [r_124]; rfl)
theorem k_124_17 : lk 124 17 = some (.aload_n 0, 18, 0, 0, .null) := by decide +kernel
theorem x_124_17 : Tr sc d 124 (17, [some (.ref xk), l1, l2, l3], [], h) Q = Tr sc d 124 (18, [some (.ref xk), l1, l2, l3], [.ref xk], h) Q := t_aload_n k_124_17 rfl
theorem k_124_18 : lk 124 18 = some (.iload_n 1, 19, 1, 0, .null) := by decide +kernel
theorem x_124_18 : Tr sc d 124 (18, [l0, some (.int x), l2, l3], [.ref k0], h) Q = Tr sc d 124 (19, [l0, some (.int x), l2, l3], [.int x, .ref k0], h) Q := t_iload_n k_124_18 rfl
theorem k_124_19 : lk 124 19 = some (.iload_n 2, 20, 2, 0, .null) := by decide +kernel
theorem x_124_19 : Tr sc d 124 (19, [l0, l1, some (.int x), l3], [.int i1, .ref k0], h) Q = Tr sc d 124 (20, [l0, l1, some (.int x), l3], [.int x, .int i1, .ref k0], h) Q := t_iload_n k_124_19 rfl
theorem k_124_20 : lk 124 20 = some (.invokevirtual 320, 23, 152, 2, .null) := by decide +kernel
theorem x_124_20 : Tr sc (d + 1) 124 (20, [l0, l1, l2, l3], [.int i2, .int i1, .ref k0], h) Q = (okp h k0 9 = true ∧ Tr sc d 152 (ent0 152 [.ref k0, .int i1, .int i2] h) (fun z => Tr sc (d + 1) 124 (23, [l0, l1, l2, l3], z.1.toList ++ [], z.2) Q)) := t_cv (as := [.int i1, .int i2]) (r := []) k_124_20 rfl rfl (Nat.le_of_ble_eq_true rfl) (Nat.le_of_ble_eq_true rfl) (Nat.le_of_ble_eq_true rfl)
theorem k_124_23 : lk 124 23 = some (.aload_n 0, 24, 0, 0, .null) := by decide +kernel
theorem x_124_23 : Tr sc d 124 (23, [some (.ref xk), l1, l2, l3], [], h) Q = Tr sc d 124 (24, [some (.ref xk), l1, l2, l3], [.ref xk], h) Q := t_aload_n k_124_23 rfl
theorem k_124_24 : lk 124 24 = some (.aload_n 0, 25, 0, 0, .null) := by decide +kernel
theorem x_124_24 : Tr sc d 124 (24, [some (.ref xk), l1, l2, l3], [.ref k0], h) Q = Tr sc d 124 (25, [some (.ref xk), l1, l2, l3], [.ref xk, .ref k0], h) Q := t_aload_n k_124_24 rfl
theorem k_124_25 : lk 124 25 = some (.getfield 70, 28, 9, 10, .null) := by decide +kernel
theorem x_124_25 : Tr sc d 124 (25, [l0, l1, l2, l3], [.ref k1, .ref k0], h) Q = (okp h k1 9 = true ∧ ∃ q, hR h k1 10 = some q ∧ Tr sc d 124 (28, [l0, l1, l2, l3], [.ref q, .ref k0], h) Q) := t_getr k_124_25
theorem k_124_28 : lk 124 28 = some (.getfield 323, 31, 2, 13, .int 0) := by decide +kernel
theorem x_124_28 : Tr sc d 124 (28, [l0, l1, l2, l3], [.ref k1, .ref k0], h) Q = (okp h k1 2 = true ∧ Tr sc d 124 (31, [l0, l1, l2, l3], [.int (hI h k1 13), .ref k0], h) Q) := t_gd k_124_28 rfl
theorem k_124_31 : lk 124 31 = some (.i2l, 32, 0, 0, .null) := by decide +kernel
theorem x_124_31 : Tr sc d 124 (31, [l0, l1, l2, l3], [.int i1, .ref k0], h) Q = Tr sc d 124 (32, [l0, l1, l2, l3], [.long i1.toInt64, .ref k0], h) Q := t_go k_124_31 rfl
theorem k_124_32 : lk 124 32 = some (.putfield 101, 35, 9, 16, .long 0) := by decide +kernel
theorem x_124_32 : Tr sc d 124 (32, [l0, l1, l2, l3], [.long j1, .ref k0], h) Q = (okp h k0 9 = true ∧ Tr sc d 124 (35, [l0, l1, l2, l3], [], (sL h k0 16 j1)) Q) := t_gd k_124_32 rfl
theorem k_124_35 : lk 124 35 = some (.aload_n 0, 36, 0, 0, .null) := by decide +kernel
theorem x_124_35 : Tr sc d 124 (35, [some (.ref xk), l1, l2, l3], [], h) Q = Tr sc d 124 (36, [some (.ref xk), l1, l2, l3], [.ref xk], h) Q := t_aload_n k_124_35 rfl
theorem k_124_36 : lk 124 36 = some (.getfield 70, 39, 9, 10, .null) := by decide +kernel
theorem x_124_36 : Tr sc d 124 (36, [l0, l1, l2, l3], [.ref k0], h) Q = (okp h k0 9 = true ∧ ∃ q, hR h k0 10 = some q ∧ Tr sc d 124 (39, [l0, l1, l2, l3], [.ref q], h) Q) := t_getr k_124_36
theorem k_124_39 : lk 124 39 = some (.getfield 326, 42, 2, 12, .int 0) := by decide +kernel
theorem x_124_39 : Tr sc d 124 (39, [l0, l1, l2, l3], [.ref k0], h) Q = (okp h k0 2 = true ∧ Tr sc d 124 (42, [l0, l1, l2, l3], [.int (hI h k0 12)], h) Q) := t_gd k_124_39 rfl
theorem k_124_42 : lk 124 42 = some (.ireturn, 43, 0, 0, .null) := by decide +kernel
theorem x_124_42 : Tr sc d 124 (42, [l0, l1, l2, l3], [.int i0], h) Q = Q (some (.int i0), h) := t_ret k_124_42 (by rw [r_124]; rfl)
theorem e_124 : Tr sc d 124 (ent0 124 [.ref k0, .int i1, .int i2] h) Q = Tr sc d 124 (0, [some (.ref k0), some (.int i1), some (.int i2), none], [], h) Q := by
  have e : mL 124 = 4 := by decide +kernel
  unfold ent0
  rw [e]
  rfl
theorem r_125 : mR 125 = some .int := by decide +kernel
theorem k_125_0 : lk 125 0 = some (.aload_n 0, 1, 0, 0, .null) := by decide +kernel
theorem x_125_0 : Tr sc d 125 (0, [some (.ref xk), l1, l2, l3], [], h) Q = Tr sc d 125 (1, [some (.ref xk), l1, l2, l3], [.ref xk], h) Q := t_aload_n k_125_0 rfl
theorem k_125_1 : lk 125 1 = some (.iload_n 1, 2, 1, 0, .null) := by decide +kernel
theorem x_125_1 : Tr sc d 125 (1, [l0, some (.int x), l2, l3], [.ref k0], h) Q = Tr sc d 125 (2, [l0, some (.int x), l2, l3], [.int x, .ref k0], h) Q := t_iload_n k_125_1 rfl
theorem k_125_2 : lk 125 2 = some (.iload_n 2, 3, 2, 0, .null) := by decide +kernel
theorem x_125_2 : Tr sc d 125 (2, [l0, l1, some (.int x), l3], [.int i1, .ref k0], h) Q = Tr sc d 125 (3, [l0, l1, some (.int x), l3], [.int x, .int i1, .ref k0], h) Q := t_iload_n k_125_2 rfl
theorem k_125_3 : lk 125 3 = some (.iconst 3, 4, 0, 0, .int 3) := by decide +kernel
theorem x_125_3 : Tr sc d 125 (3, [l0, l1, l2, l3], [.int i2, .int i1, .ref k0], h) Q = Tr sc d 125 (4, [l0, l1, l2, l3], [.int 3, .int i2, .int i1, .ref k0], h) Q := t_go k_125_3 rfl
theorem k_125_4 : lk 125 4 = some (.invokestatic 270, 7, 144, 2, .null) := by decide +kernel
theorem x_125_4 : Tr sc (d + 1) 125 (4, [l0, l1, l2, l3], [.int i3, .int i2, .int i1, .ref k0], h) Q = Tr sc d 144 (ent0 144 [.int i2, .int i3] h) (fun z => Tr sc (d + 1) 125 (7, [l0, l1, l2, l3], z.1.toList ++ [.int i1, .ref k0], z.2) Q) := t_cs (as := [.int i2, .int i3]) (r := [.int i1, .ref k0]) k_125_4 (by decide) rfl rfl (Nat.le_of_ble_eq_true rfl) (Nat.le_of_ble_eq_true rfl)
theorem k_125_7 : lk 125 7 = some (.invokevirtual 300, 10, 147, 2, .null) := by decide +kernel
theorem x_125_7 : Tr sc (d + 1) 125 (7, [l0, l1, l2, l3], [.int i2, .int i1, .ref k0], h) Q = (okp h k0 9 = true ∧ Tr sc d 147 (ent0 147 [.ref k0, .int i1, .int i2] h) (fun z => Tr sc (d + 1) 125 (10, [l0, l1, l2, l3], z.1.toList ++ [], z.2) Q)) := t_cv (as := [.int i1, .int i2]) (r := []) k_125_7 rfl rfl (Nat.le_of_ble_eq_true rfl) (Nat.le_of_ble_eq_true rfl) (Nat.le_of_ble_eq_true rfl)
theorem k_125_10 : lk 125 10 = some (.istore_n 3, 11, 3, 0, .null) := by decide +kernel
theorem x_125_10 : Tr sc d 125 (10, [l0, l1, l2, l3], [.int i0], h) Q = Tr sc d 125 (11, [l0, l1, cl2 l2, some (.int i0)], [], h) Q := t_istore_n k_125_10 (Nat.le_of_ble_eq_true rfl)
theorem k_125_11 : lk 125 11 = some (.iload_n 3, 12, 3, 0, .null) := by decide +kernel
theorem x_125_11 : Tr sc d 125 (11, [l0, l1, l2, some (.int x)], [], h) Q = Tr sc d 125 (12, [l0, l1, l2, some (.int x)], [.int x], h) Q := t_iload_n k_125_11 rfl
theorem k_125_12 : lk 125 12 = some (.ifCond .eq 5, 15, 17, 0, .null) := by decide +kernel
theorem x_125_12 : Tr sc d 125 (12, [l0, l1, l2, l3], [.int i0], h) Q = if i0 = 0 then Tr sc d 125 (17, [l0, l1, l2, l3], [], h) Q else Tr sc d 125 (15, [l0, l1, l2, l3], [], h) Q := t_if k_125_12 rfl
theorem k_125_15 : lk 125 15 = some (.iload_n 3, 16, 3, 0, .null) := by decide +kernel
theorem x_125_15 : Tr sc d 125 (15, [l0, l1, l2, some (.int x)], [], h) Q = Tr sc d 125 (16, [l0, l1, l2, some (.int x)], [.int x], h) Q := t_iload_n k_125_15 rfl
theorem k_125_16 : lk 125 16 = some (.ireturn, 17, 0, 0, .null) := by decide +kernel
theorem x_125_16 : Tr sc d 125 (16, [l0, l1, l2, l3], [.int i0], h) Q = Q (some (.int i0), h) := t_ret k_125_16 (by rw [r_125]; rfl)
theorem k_125_17 : lk 125 17 = some (.aload_n 0, 18, 0, 0, .null) := by decide +kernel
theorem x_125_17 : Tr sc d 125 (17, [some (.ref xk), l1, l2, l3], [], h) Q = Tr sc d 125 (18, [some (.ref xk), l1, l2, l3], [.ref xk], h) Q := t_aload_n k_125_17 rfl
theorem k_125_18 : lk 125 18 = some (.iload_n 1, 19, 1, 0, .null) := by decide +kernel
theorem x_125_18 : Tr sc d 125 (18, [l0, some (.int x), l2, l3], [.ref k0], h) Q = Tr sc d 125 (19, [l0, some (.int x), l2, l3], [.int x, .ref k0], h) Q := t_iload_n k_125_18 rfl
theorem k_125_19 : lk 125 19 = some (.iload_n 2, 20, 2, 0, .null) := by decide +kernel
theorem x_125_19 : Tr sc d 125 (19, [l0, l1, some (.int x), l3], [.int i1, .ref k0], h) Q = Tr sc d 125 (20, [l0, l1, some (.int x), l3], [.int x, .int i1, .ref k0], h) Q := t_iload_n k_125_19 rfl
theorem k_125_20 : lk 125 20 = some (.invokevirtual 320, 23, 152, 2, .null) := by decide +kernel
theorem x_125_20 : Tr sc (d + 1) 125 (20, [l0, l1, l2, l3], [.int i2, .int i1, .ref k0], h) Q = (okp h k0 9 = true ∧ Tr sc d 152 (ent0 152 [.ref k0, .int i1, .int i2] h) (fun z => Tr sc (d + 1) 125 (23, [l0, l1, l2, l3], z.1.toList ++ [], z.2) Q)) := t_cv (as := [.int i1, .int i2]) (r := []) k_125_20 rfl rfl (Nat.le_of_ble_eq_true rfl) (Nat.le_of_ble_eq_true rfl) (Nat.le_of_ble_eq_true rfl)
theorem k_125_23 : lk 125 23 = some (.aload_n 0, 24, 0, 0, .null) := by decide +kernel
theorem x_125_23 : Tr sc d 125 (23, [some (.ref xk), l1, l2, l3], [], h) Q = Tr sc d 125 (24, [some (.ref xk), l1, l2, l3], [.ref xk], h) Q := t_aload_n k_125_23 rfl
theorem k_125_24 : lk 125 24 = some (.aload_n 0, 25, 0, 0, .null) := by decide +kernel
theorem x_125_24 : Tr sc d 125 (24, [some (.ref xk), l1, l2, l3], [.ref k0], h) Q = Tr sc d 125 (25, [some (.ref xk), l1, l2, l3], [.ref xk, .ref k0], h) Q := t_aload_n k_125_24 rfl
theorem k_125_25 : lk 125 25 = some (.getfield 70, 28, 9, 10, .null) := by decide +kernel
theorem x_125_25 : Tr sc d 125 (25, [l0, l1, l2, l3], [.ref k1, .ref k0], h) Q = (okp h k1 9 = true ∧ ∃ q, hR h k1 10 = some q ∧ Tr sc d 125 (28, [l0, l1, l2, l3], [.ref q, .ref k0], h) Q) := t_getr k_125_25
theorem k_125_28 : lk 125 28 = some (.getfield 329, 31, 2, 14, .int 0) := by decide +kernel
theorem x_125_28 : Tr sc d 125 (28, [l0, l1, l2, l3], [.ref k1, .ref k0], h) Q = (okp h k1 2 = true ∧ Tr sc d 125 (31, [l0, l1, l2, l3], [.int (hI h k1 14), .ref k0], h) Q) := t_gd k_125_28 rfl
theorem k_125_31 : lk 125 31 = some (.i2l, 32, 0, 0, .null) := by decide +kernel
theorem x_125_31 : Tr sc d 125 (31, [l0, l1, l2, l3], [.int i1, .ref k0], h) Q = Tr sc d 125 (32, [l0, l1, l2, l3], [.long i1.toInt64, .ref k0], h) Q := t_go k_125_31 rfl
theorem k_125_32 : lk 125 32 = some (.putfield 101, 35, 9, 16, .long 0) := by decide +kernel
theorem x_125_32 : Tr sc d 125 (32, [l0, l1, l2, l3], [.long j1, .ref k0], h) Q = (okp h k0 9 = true ∧ Tr sc d 125 (35, [l0, l1, l2, l3], [], (sL h k0 16 j1)) Q) := t_gd k_125_32 rfl
theorem k_125_35 : lk 125 35 = some (.aload_n 0, 36, 0, 0, .null) := by decide +kernel
theorem x_125_35 : Tr sc d 125 (35, [some (.ref xk), l1, l2, l3], [], h) Q = Tr sc d 125 (36, [some (.ref xk), l1, l2, l3], [.ref xk], h) Q := t_aload_n k_125_35 rfl
theorem k_125_36 : lk 125 36 = some (.getfield 70, 39, 9, 10, .null) := by decide +kernel
theorem x_125_36 : Tr sc d 125 (36, [l0, l1, l2, l3], [.ref k0], h) Q = (okp h k0 9 = true ∧ ∃ q, hR h k0 10 = some q ∧ Tr sc d 125 (39, [l0, l1, l2, l3], [.ref q], h) Q) := t_getr k_125_36
theorem k_125_39 : lk 125 39 = some (.getfield 326, 42, 2, 12, .int 0) := by decide +kernel
theorem x_125_39 : Tr sc d 125 (39, [l0, l1, l2, l3], [.ref k0], h) Q = (okp h k0 2 = true ∧ Tr sc d 125 (42, [l0, l1, l2, l3], [.int (hI h k0 12)], h) Q) := t_gd k_125_39 rfl
theorem k_125_42 : lk 125 42 = some (.aload_n 0, 43, 0, 0, .null) := by decide +kernel
theorem x_125_42 : Tr sc d 125 (42, [some (.ref xk), l1, l2, l3], [.int i0], h) Q = Tr sc d 125 (43, [some (.ref xk), l1, l2, l3], [.ref xk, .int i0], h) Q := t_aload_n k_125_42 rfl
theorem k_125_43 : lk 125 43 = some (.getfield 51, 46, 9, 7, .null) := by decide +kernel
theorem x_125_43 : Tr sc d 125 (43, [l0, l1, l2, l3], [.ref k1, .int i0], h) Q = (okp h k1 9 = true ∧ ∃ q, hR h k1 7 = some q ∧ Tr sc d 125 (46, [l0, l1, l2, l3], [.ref q, .int i0], h) Q) := t_getr k_125_43
theorem k_125_46 : lk 125 46 = some (.getfield 280, 49, 1, 4, .int 0) := by decide +kernel
theorem x_125_46 : Tr sc d 125 (46, [l0, l1, l2, l3], [.ref k1, .int i0], h) Q = (okp h k1 1 = true ∧ Tr sc d 125 (49, [l0, l1, l2, l3], [.int (hI h k1 4), .int i0], h) Q) := t_gd k_125_46 rfl
theorem k_125_49 : lk 125 49 = some (.isub, 50, 0, 0, .null) := by decide +kernel
theorem x_125_49 : Tr sc d 125 (49, [l0, l1, l2, l3], [.int i1, .int i0], h) Q = Tr sc d 125 (50, [l0, l1, l2, l3], [.int (i0 - i1)], h) Q := t_go k_125_49 rfl
theorem k_125_50 : lk 125 50 = some (.aload_n 0, 51, 0, 0, .null) := by decide +kernel
theorem x_125_50 : Tr sc d 125 (50, [some (.ref xk), l1, l2, l3], [.int i0], h) Q = Tr sc d 125 (51, [some (.ref xk), l1, l2, l3], [.ref xk, .int i0], h) Q := t_aload_n k_125_50 rfl
theorem k_125_51 : lk 125 51 = some (.getfield 70, 54, 9, 10, .null) := by decide +kernel
theorem x_125_51 : Tr sc d 125 (51, [l0, l1, l2, l3], [.ref k1, .int i0], h) Q = (okp h k1 9 = true ∧ ∃ q, hR h k1 10 = some q ∧ Tr sc d 125 (54, [l0, l1, l2, l3], [.ref q, .int i0], h) Q) := t_getr k_125_51
theorem k_125_54 : lk 125 54 = some (.getfield 323, 57, 2, 13, .int 0) := by decide +kernel
theorem x_125_54 : Tr sc d 125 (54, [l0, l1, l2, l3], [.ref k1, .int i0], h) Q = (okp h k1 2 = true ∧ Tr sc d 125 (57, [l0, l1, l2, l3], [.int (hI h k1 13), .int i0], h) Q) := t_gd k_125_54 rfl
theorem k_125_57 : lk 125 57 = some (.iadd, 58, 0, 0, .null) := by decide +kernel
theorem x_125_57 : Tr sc d 125 (57, [l0, l1, l2, l3], [.int i1, .int i0], h) Q = Tr sc d 125 (58, [l0, l1, l2, l3], [.int (i0 + i1)], h) Q := t_go k_125_57 rfl
theorem k_125_58 : lk 125 58 = some (.ireturn, 59, 0, 0, .null) := by decide +kernel
theorem x_125_58 : Tr sc d 125 (58, [l0, l1, l2, l3], [.int i0], h) Q = Q (some (.int i0), h) := t_ret k_125_58 (by rw [r_125]; rfl)
theorem e_125 : Tr sc d 125 (ent0 125 [.ref k0, .int i1, .int i2] h) Q = Tr sc d 125 (0, [some (.ref k0), some (.int i1), some (.int i2), none], [], h) Q := by
  have e : mL 125 = 4 := by decide +kernel
  unfold ent0
  rw [e]
  rfl
theorem r_126 : mR 126 = some .int := by decide +kernel
theorem k_126_0 : lk 126 0 = some (.iload_n 2, 1, 2, 0, .null) := by decide +kernel
theorem x_126_0 : Tr sc d 126 (0, [l0, l1, some (.int x), l3, l4, l5, l6], [], h) Q = Tr sc d 126 (1, [l0, l1, some (.int x), l3, l4, l5, l6], [.int x], h) Q := t_iload_n k_126_0 rfl
theorem k_126_1 : lk 126 1 = some (.sipush (-200), 4, 0, 0, .int (-200)) := by decide +kernel
theorem x_126_1 : Tr sc d 126 (1, [l0, l1, l2, l3, l4, l5, l6], [.int i0], h) Q = Tr sc d 126 (4, [l0, l1, l2, l3, l4, l5, l6], [.int (-200), .int i0], h) Q := t_go k_126_1 rfl
theorem k_126_4 : lk 126 4 = some (.if_icmp .lt 41, 7, 45, 0, .null) := by decide +kernel
theorem x_126_4 : Tr sc d 126 (4, [l0, l1, l2, l3, l4, l5, l6], [.int i1, .int i0], h) Q = if i0 < i1 then Tr sc d 126 (45, [l0, l1, l2, l3, l4, l5, l6], [], h) Q else Tr sc d 126 (7, [l0, l1, l2, l3, l4, l5, l6], [], h) Q := t_if k_126_4 rfl
theorem k_126_7 : lk 126 7 = some (.iload_n 2, 8, 2, 0, .null) := by decide +kernel
theorem x_126_7 : Tr sc d 126 (7, [l0, l1, some (.int x), l3, l4, l5, l6], [], h) Q = Tr sc d 126 (8, [l0, l1, some (.int x), l3, l4, l5, l6], [.int x], h) Q := t_iload_n k_126_7 rfl
theorem k_126_8 : lk 126 8 = some (.sipush 200, 11, 0, 0, .int 200) := by decide +kernel
theorem x_126_8 : Tr sc d 126 (8, [l0, l1, l2, l3, l4, l5, l6], [.int i0], h) Q = Tr sc d 126 (11, [l0, l1, l2, l3, l4, l5, l6], [.int 200, .int i0], h) Q := t_go k_126_8 rfl
theorem k_126_11 : lk 126 11 = some (.if_icmp .gt 34, 14, 45, 0, .null) := by decide +kernel
theorem x_126_11 : Tr sc d 126 (11, [l0, l1, l2, l3, l4, l5, l6], [.int i1, .int i0], h) Q = if i1 < i0 then Tr sc d 126 (45, [l0, l1, l2, l3, l4, l5, l6], [], h) Q else Tr sc d 126 (14, [l0, l1, l2, l3, l4, l5, l6], [], h) Q := t_if k_126_11 rfl
theorem k_126_14 : lk 126 14 = some (.iload_n 3, 15, 3, 0, .null) := by decide +kernel
theorem x_126_14 : Tr sc d 126 (14, [l0, l1, l2, some (.int x), l4, l5, l6], [], h) Q = Tr sc d 126 (15, [l0, l1, l2, some (.int x), l4, l5, l6], [.int x], h) Q := t_iload_n k_126_14 rfl
theorem k_126_15 : lk 126 15 = some (.sipush (-200), 18, 0, 0, .int (-200)) := by decide +kernel
theorem x_126_15 : Tr sc d 126 (15, [l0, l1, l2, l3, l4, l5, l6], [.int i0], h) Q = Tr sc d 126 (18, [l0, l1, l2, l3, l4, l5, l6], [.int (-200), .int i0], h) Q := t_go k_126_15 rfl
theorem k_126_18 : lk 126 18 = some (.if_icmp .lt 27, 21, 45, 0, .null) := by decide +kernel
theorem x_126_18 : Tr sc d 126 (18, [l0, l1, l2, l3, l4, l5, l6], [.int i1, .int i0], h) Q = if i0 < i1 then Tr sc d 126 (45, [l0, l1, l2, l3, l4, l5, l6], [], h) Q else Tr sc d 126 (21, [l0, l1, l2, l3, l4, l5, l6], [], h) Q := t_if k_126_18 rfl
theorem k_126_21 : lk 126 21 = some (.iload_n 3, 22, 3, 0, .null) := by decide +kernel
theorem x_126_21 : Tr sc d 126 (21, [l0, l1, l2, some (.int x), l4, l5, l6], [], h) Q = Tr sc d 126 (22, [l0, l1, l2, some (.int x), l4, l5, l6], [.int x], h) Q := t_iload_n k_126_21 rfl
theorem k_126_22 : lk 126 22 = some (.sipush 200, 25, 0, 0, .int 200) := by decide +kernel
theorem x_126_22 : Tr sc d 126 (22, [l0, l1, l2, l3, l4, l5, l6], [.int i0], h) Q = Tr sc d 126 (25, [l0, l1, l2, l3, l4, l5, l6], [.int 200, .int i0], h) Q := t_go k_126_22 rfl
theorem k_126_25 : lk 126 25 = some (.if_icmp .gt 20, 28, 45, 0, .null) := by decide +kernel
theorem x_126_25 : Tr sc d 126 (25, [l0, l1, l2, l3, l4, l5, l6], [.int i1, .int i0], h) Q = if i1 < i0 then Tr sc d 126 (45, [l0, l1, l2, l3, l4, l5, l6], [], h) Q else Tr sc d 126 (28, [l0, l1, l2, l3, l4, l5, l6], [], h) Q := t_if k_126_25 rfl
theorem k_126_28 : lk 126 28 = some (.iload 4, 30, 4, 0, .null) := by decide +kernel
theorem x_126_28 : Tr sc d 126 (28, [l0, l1, l2, l3, some (.int x), l5, l6], [], h) Q = Tr sc d 126 (30, [l0, l1, l2, l3, some (.int x), l5, l6], [.int x], h) Q := t_iload k_126_28 rfl
theorem k_126_30 : lk 126 30 = some (.iconst 1, 31, 0, 0, .int 1) := by decide +kernel
theorem x_126_30 : Tr sc d 126 (30, [l0, l1, l2, l3, l4, l5, l6], [.int i0], h) Q = Tr sc d 126 (31, [l0, l1, l2, l3, l4, l5, l6], [.int 1, .int i0], h) Q := t_go k_126_30 rfl
theorem k_126_31 : lk 126 31 = some (.if_icmp .lt 14, 34, 45, 0, .null) := by decide +kernel
theorem x_126_31 : Tr sc d 126 (31, [l0, l1, l2, l3, l4, l5, l6], [.int i1, .int i0], h) Q = if i0 < i1 then Tr sc d 126 (45, [l0, l1, l2, l3, l4, l5, l6], [], h) Q else Tr sc d 126 (34, [l0, l1, l2, l3, l4, l5, l6], [], h) Q := t_if k_126_31 rfl
theorem k_126_34 : lk 126 34 = some (.iload 4, 36, 4, 0, .null) := by decide +kernel
theorem x_126_34 : Tr sc d 126 (34, [l0, l1, l2, l3, some (.int x), l5, l6], [], h) Q = Tr sc d 126 (36, [l0, l1, l2, l3, some (.int x), l5, l6], [.int x], h) Q := t_iload k_126_34 rfl
theorem k_126_36 : lk 126 36 = some (.bipush 12, 38, 0, 0, .int 12) := by decide +kernel
theorem x_126_36 : Tr sc d 126 (36, [l0, l1, l2, l3, l4, l5, l6], [.int i0], h) Q = Tr sc d 126 (38, [l0, l1, l2, l3, l4, l5, l6], [.int 12, .int i0], h) Q := t_go k_126_36 rfl
theorem k_126_38 : lk 126 38 = some (.if_icmp .gt 7, 41, 45, 0, .null) := by decide +kernel
theorem x_126_38 : Tr sc d 126 (38, [l0, l1, l2, l3, l4, l5, l6], [.int i1, .int i0], h) Q = if i1 < i0 then Tr sc d 126 (45, [l0, l1, l2, l3, l4, l5, l6], [], h) Q else Tr sc d 126 (41, [l0, l1, l2, l3, l4, l5, l6], [], h) Q := t_if k_126_38 rfl
theorem k_126_41 : lk 126 41 = some (.iconst 1, 42, 0, 0, .int 1) := by decide +kernel
theorem x_126_41 : Tr sc d 126 (41, [l0, l1, l2, l3, l4, l5, l6], [], h) Q = Tr sc d 126 (42, [l0, l1, l2, l3, l4, l5, l6], [.int 1], h) Q := t_go k_126_41 rfl
theorem k_126_42 : lk 126 42 = some (.goto 4, 45, 46, 0, .null) := by decide +kernel
theorem x_126_42 : Tr sc d 126 (42, [l0, l1, l2, l3, l4, l5, l6], [.int i0], h) Q = Tr sc d 126 (46, [l0, l1, l2, l3, l4, l5, l6], [.int i0], h) Q := t_go k_126_42 rfl
theorem k_126_45 : lk 126 45 = some (.iconst 0, 46, 0, 0, .int 0) := by decide +kernel
theorem x_126_45 : Tr sc d 126 (45, [l0, l1, l2, l3, l4, l5, l6], [], h) Q = Tr sc d 126 (46, [l0, l1, l2, l3, l4, l5, l6], [.int 0], h) Q := t_go k_126_45 rfl
theorem k_126_46 : lk 126 46 = some (.istore 5, 48, 5, 0, .null) := by decide +kernel
theorem x_126_46 : Tr sc d 126 (46, [l0, l1, l2, l3, l4, l5, l6], [.int i0], h) Q = Tr sc d 126 (48, [l0, l1, l2, l3, cl2 l4, some (.int i0), l6], [], h) Q := t_istore k_126_46 (Nat.le_of_ble_eq_true rfl)
theorem k_126_48 : lk 126 48 = some (.aload_n 0, 49, 0, 0, .null) := by decide +kernel
theorem x_126_48 : Tr sc d 126 (48, [some (.ref xk), l1, l2, l3, l4, l5, l6], [], h) Q = Tr sc d 126 (49, [some (.ref xk), l1, l2, l3, l4, l5, l6], [.ref xk], h) Q := t_aload_n k_126_48 rfl
theorem k_126_49 : lk 126 49 = some (.iload_n 1, 50, 1, 0, .null) := by decide +kernel
theorem x_126_49 : Tr sc d 126 (49, [l0, some (.int x), l2, l3, l4, l5, l6], [.ref k0], h) Q = Tr sc d 126 (50, [l0, some (.int x), l2, l3, l4, l5, l6], [.int x, .ref k0], h) Q := t_iload_n k_126_49 rfl
theorem k_126_50 : lk 126 50 = some (.iload 5, 52, 5, 0, .null) := by decide +kernel
theorem x_126_50 : Tr sc d 126 (50, [l0, l1, l2, l3, l4, some (.int x), l6], [.int i1, .ref k0], h) Q = Tr sc d 126 (52, [l0, l1, l2, l3, l4, some (.int x), l6], [.int x, .int i1, .ref k0], h) Q := t_iload k_126_50 rfl
theorem k_126_52 : lk 126 52 = some (.invokevirtual 300, 55, 147, 2, .null) := by decide +kernel
theorem x_126_52 : Tr sc (d + 1) 126 (52, [l0, l1, l2, l3, l4, l5, l6], [.int i2, .int i1, .ref k0], h) Q = (okp h k0 9 = true ∧ Tr sc d 147 (ent0 147 [.ref k0, .int i1, .int i2] h) (fun z => Tr sc (d + 1) 126 (55, [l0, l1, l2, l3, l4, l5, l6], z.1.toList ++ [], z.2) Q)) := t_cv (as := [.int i1, .int i2]) (r := []) k_126_52 rfl rfl (Nat.le_of_ble_eq_true rfl) (Nat.le_of_ble_eq_true rfl) (Nat.le_of_ble_eq_true rfl)
theorem k_126_55 : lk 126 55 = some (.istore 6, 57, 6, 0, .null) := by decide +kernel
theorem x_126_55 : Tr sc d 126 (55, [l0, l1, l2, l3, l4, l5, l6], [.int i0], h) Q = Tr sc d 126 (57, [l0, l1, l2, l3, l4, cl2 l5, some (.int i0)], [], h) Q := t_istore k_126_55 (Nat.le_of_ble_eq_true rfl)
theorem k_126_57 : lk 126 57 = some (.iload 6, 59, 6, 0, .null) := by decide +kernel
theorem x_126_57 : Tr sc d 126 (57, [l0, l1, l2, l3, l4, l5, some (.int x)], [], h) Q = Tr sc d 126 (59, [l0, l1, l2, l3, l4, l5, some (.int x)], [.int x], h) Q := t_iload k_126_57 rfl
theorem k_126_59 : lk 126 59 = some (.ifCond .eq 6, 62, 65, 0, .null) := by decide +kernel
theorem x_126_59 : Tr sc d 126 (59, [l0, l1, l2, l3, l4, l5, l6], [.int i0], h) Q = if i0 = 0 then Tr sc d 126 (65, [l0, l1, l2, l3, l4, l5, l6], [], h) Q else Tr sc d 126 (62, [l0, l1, l2, l3, l4, l5, l6], [], h) Q := t_if k_126_59 rfl
theorem k_126_62 : lk 126 62 = some (.iload 6, 64, 6, 0, .null) := by decide +kernel
theorem x_126_62 : Tr sc d 126 (62, [l0, l1, l2, l3, l4, l5, some (.int x)], [], h) Q = Tr sc d 126 (64, [l0, l1, l2, l3, l4, l5, some (.int x)], [.int x], h) Q := t_iload k_126_62 rfl
theorem k_126_64 : lk 126 64 = some (.ireturn, 65, 0, 0, .null) := by decide +kernel
theorem x_126_64 : Tr sc d 126 (64, [l0, l1, l2, l3, l4, l5, l6], [.int i0], h) Q = Q (some (.int i0), h) := t_ret k_126_64 (by rw [r_126]; rfl)
theorem k_126_65 : lk 126 65 = some (.aload_n 0, 66, 0, 0, .null) := by decide +kernel
theorem x_126_65 : Tr sc d 126 (65, [some (.ref xk), l1, l2, l3, l4, l5, l6], [], h) Q = Tr sc d 126 (66, [some (.ref xk), l1, l2, l3, l4, l5, l6], [.ref xk], h) Q := t_aload_n k_126_65 rfl
theorem k_126_66 : lk 126 66 = some (.getfield 79, 69, 9, 11, .null) := by decide +kernel
theorem x_126_66 : Tr sc d 126 (66, [l0, l1, l2, l3, l4, l5, l6], [.ref k0], h) Q = (okp h k0 9 = true ∧ ∃ q, hR h k0 11 = some q ∧ Tr sc d 126 (69, [l0, l1, l2, l3, l4, l5, l6], [.ref q], h) Q) := t_getr k_126_66
theorem k_126_69 : lk 126 69 = some (.aload_n 0, 70, 0, 0, .null) := by decide +kernel
theorem x_126_69 : Tr sc d 126 (69, [some (.ref xk), l1, l2, l3, l4, l5, l6], [.ref k0], h) Q = Tr sc d 126 (70, [some (.ref xk), l1, l2, l3, l4, l5, l6], [.ref xk, .ref k0], h) Q := t_aload_n k_126_69 rfl
theorem k_126_70 : lk 126 70 = some (.getfield 20, 73, 9, 2, .null) := by decide +kernel
theorem x_126_70 : Tr sc d 126 (70, [l0, l1, l2, l3, l4, l5, l6], [.ref k1, .ref k0], h) Q = (okp h k1 9 = true ∧ ∃ q, hR h k1 2 = some q ∧ Tr sc d 126 (73, [l0, l1, l2, l3, l4, l5, l6], [.ref q, .ref k0], h) Q) := t_getr k_126_70
theorem k_126_73 : lk 126 73 = some (.iload_n 1, 74, 1, 0, .null) := by decide +kernel
theorem x_126_73 : Tr sc d 126 (73, [l0, some (.int x), l2, l3, l4, l5, l6], [.ref k1, .ref k0], h) Q = Tr sc d 126 (74, [l0, some (.int x), l2, l3, l4, l5, l6], [.int x, .ref k1, .ref k0], h) Q := t_iload_n k_126_73 rfl
theorem k_126_74 : lk 126 74 = some (.aaload, 75, 0, 0, .null) := by decide +kernel
theorem x_126_74 : Tr sc d 126 (74, [l0, l1, l2, l3, l4, l5, l6], [.int i2, .ref k1, .ref k0], h) Q = (((okp h k1 14 || okp h k1 15) && inb i2 (LN k1)) = true ∧ ∃ q, hR h k1 i2.toNatClampNeg = some q ∧ Tr sc d 126 (75, [l0, l1, l2, l3, l4, l5, l6], [.ref q, .ref k0], h) Q) := t_aald k_126_74
theorem k_126_75 : lk 126 75 = some (.iload 4, 77, 4, 0, .null) := by decide +kernel
theorem x_126_75 : Tr sc d 126 (75, [l0, l1, l2, l3, some (.int x), l5, l6], [.ref k1, .ref k0], h) Q = Tr sc d 126 (77, [l0, l1, l2, l3, some (.int x), l5, l6], [.int x, .ref k1, .ref k0], h) Q := t_iload k_126_75 rfl
theorem k_126_77 : lk 126 77 = some (.invokevirtual 332, 80, 87, 2, .null) := by decide +kernel
theorem x_126_77 : Tr sc (d + 1) 126 (77, [l0, l1, l2, l3, l4, l5, l6], [.int i2, .ref k1, .ref k0], h) Q = (okp h k0 8 = true ∧ Tr sc d 87 (ent0 87 [.ref k0, .ref k1, .int i2] h) (fun z => Tr sc (d + 1) 126 (80, [l0, l1, l2, l3, l4, l5, l6], z.1.toList ++ [], z.2) Q)) := t_cv (as := [.ref k1, .int i2]) (r := []) k_126_77 rfl rfl (Nat.le_of_ble_eq_true rfl) (Nat.le_of_ble_eq_true rfl) (Nat.le_of_ble_eq_true rfl)
theorem k_126_80 : lk 126 80 = some (.aload_n 0, 81, 0, 0, .null) := by decide +kernel
theorem x_126_80 : Tr sc d 126 (80, [some (.ref xk), l1, l2, l3, l4, l5, l6], [], h) Q = Tr sc d 126 (81, [some (.ref xk), l1, l2, l3, l4, l5, l6], [.ref xk], h) Q := t_aload_n k_126_80 rfl
theorem k_126_81 : lk 126 81 = some (.getfield 79, 84, 9, 11, .null) := by decide +kernel
theorem x_126_81 : Tr sc d 126 (81, [l0, l1, l2, l3, l4, l5, l6], [.ref k0], h) Q = (okp h k0 9 = true ∧ ∃ q, hR h k0 11 = some q ∧ Tr sc d 126 (84, [l0, l1, l2, l3, l4, l5, l6], [.ref q], h) Q) := t_getr k_126_81
theorem k_126_84 : lk 126 84 = some (.iload_n 2, 85, 2, 0, .null) := by decide +kernel
theorem x_126_84 : Tr sc d 126 (84, [l0, l1, some (.int x), l3, l4, l5, l6], [.ref k0], h) Q = Tr sc d 126 (85, [l0, l1, some (.int x), l3, l4, l5, l6], [.int x, .ref k0], h) Q := t_iload_n k_126_84 rfl
theorem k_126_85 : lk 126 85 = some (.iload_n 3, 86, 3, 0, .null) := by decide +kernel
theorem x_126_85 : Tr sc d 126 (85, [l0, l1, l2, some (.int x), l4, l5, l6], [.int i1, .ref k0], h) Q = Tr sc d 126 (86, [l0, l1, l2, some (.int x), l4, l5, l6], [.int x, .int i1, .ref k0], h) Q := t_iload_n k_126_85 rfl
theorem k_126_86 : lk 126 86 = some (.invokevirtual 335, 89, 91, 2, .null) := by decide +kernel
theorem x_126_86 : Tr sc (d + 1) 126 (86, [l0, l1, l2, l3, l4, l5, l6], [.int i2, .int i1, .ref k0], h) Q = (okp h k0 8 = true ∧ Tr sc d 91 (ent0 91 [.ref k0, .int i1, .int i2] h) (fun z => Tr sc (d + 1) 126 (89, [l0, l1, l2, l3, l4, l5, l6], z.1.toList ++ [], z.2) Q)) := t_cv (as := [.int i1, .int i2]) (r := []) k_126_86 rfl rfl (Nat.le_of_ble_eq_true rfl) (Nat.le_of_ble_eq_true rfl) (Nat.le_of_ble_eq_true rfl)
theorem k_126_89 : lk 126 89 = some (.ifCond .ne 6, 92, 95, 0, .null) := by decide +kernel
theorem x_126_89 : Tr sc d 126 (89, [l0, l1, l2, l3, l4, l5, l6], [.int i0], h) Q = if i0 = 0 then Tr sc d 126 (92, [l0, l1, l2, l3, l4, l5, l6], [], h) Q else Tr sc d 126 (95, [l0, l1, l2, l3, l4, l5, l6], [], h) Q := t_if k_126_89 rfl
theorem k_126_92 : lk 126 92 = some (.bipush (-6), 94, 0, 0, .int (-6)) := by decide +kernel
theorem x_126_92 : Tr sc d 126 (92, [l0, l1, l2, l3, l4, l5, l6], [], h) Q = Tr sc d 126 (94, [l0, l1, l2, l3, l4, l5, l6], [.int (-6)], h) Q := t_go k_126_92 rfl
theorem k_126_94 : lk 126 94 = some (.ireturn, 95, 0, 0, .null) := by decide +kernel
theorem x_126_94 : Tr sc d 126 (94, [l0, l1, l2, l3, l4, l5, l6], [.int i0], h) Q = Q (some (.int i0), h) := t_ret k_126_94 (by rw [r_126]; rfl)
theorem k_126_95 : lk 126 95 = some (.aload_n 0, 96, 0, 0, .null) := by decide +kernel
theorem x_126_95 : Tr sc d 126 (95, [some (.ref xk), l1, l2, l3, l4, l5, l6], [], h) Q = Tr sc d 126 (96, [some (.ref xk), l1, l2, l3, l4, l5, l6], [.ref xk], h) Q := t_aload_n k_126_95 rfl
theorem k_126_96 : lk 126 96 = some (.aload_n 0, 97, 0, 0, .null) := by decide +kernel
theorem x_126_96 : Tr sc d 126 (96, [some (.ref xk), l1, l2, l3, l4, l5, l6], [.ref k0], h) Q = Tr sc d 126 (97, [some (.ref xk), l1, l2, l3, l4, l5, l6], [.ref xk, .ref k0], h) Q := t_aload_n k_126_96 rfl
theorem k_126_97 : lk 126 97 = some (.getfield 79, 100, 9, 11, .null) := by decide +kernel
theorem x_126_97 : Tr sc d 126 (97, [l0, l1, l2, l3, l4, l5, l6], [.ref k1, .ref k0], h) Q = (okp h k1 9 = true ∧ ∃ q, hR h k1 11 = some q ∧ Tr sc d 126 (100, [l0, l1, l2, l3, l4, l5, l6], [.ref q, .ref k0], h) Q) := t_getr k_126_97
theorem k_126_100 : lk 126 100 = some (.invokevirtual 338, 103, 93, 0, .null) := by decide +kernel
theorem x_126_100 : Tr sc (d + 1) 126 (100, [l0, l1, l2, l3, l4, l5, l6], [.ref k1, .ref k0], h) Q = (okp h k1 8 = true ∧ Tr sc d 93 (ent0 93 [.ref k1] h) (fun z => Tr sc (d + 1) 126 (103, [l0, l1, l2, l3, l4, l5, l6], z.1.toList ++ [.ref k0], z.2) Q)) := t_cv (as := []) (r := [.ref k0]) k_126_100 rfl rfl (Nat.le_of_ble_eq_true rfl) (Nat.le_of_ble_eq_true rfl) (Nat.le_of_ble_eq_true rfl)
theorem k_126_103 : lk 126 103 = some (.putfield 98, 106, 9, 15, .int 0) := by decide +kernel
theorem x_126_103 : Tr sc d 126 (103, [l0, l1, l2, l3, l4, l5, l6], [.int i1, .ref k0], h) Q = (okp h k0 9 = true ∧ Tr sc d 126 (106, [l0, l1, l2, l3, l4, l5, l6], [], (sI h k0 15 i1)) Q) := t_gd k_126_103 rfl
theorem k_126_106 : lk 126 106 = some (.aload_n 0, 107, 0, 0, .null) := by decide +kernel
theorem x_126_106 : Tr sc d 126 (106, [some (.ref xk), l1, l2, l3, l4, l5, l6], [], h) Q = Tr sc d 126 (107, [some (.ref xk), l1, l2, l3, l4, l5, l6], [.ref xk], h) Q := t_aload_n k_126_106 rfl
theorem k_126_107 : lk 126 107 = some (.getfield 98, 110, 9, 15, .int 0) := by decide +kernel
theorem x_126_107 : Tr sc d 126 (107, [l0, l1, l2, l3, l4, l5, l6], [.ref k0], h) Q = (okp h k0 9 = true ∧ Tr sc d 126 (110, [l0, l1, l2, l3, l4, l5, l6], [.int (hI h k0 15)], h) Q) := t_gd k_126_107 rfl
theorem k_126_110 : lk 126 110 = some (.ifCond .le 7, 113, 117, 0, .null) := by decide +kernel
theorem x_126_110 : Tr sc d 126 (110, [l0, l1, l2, l3, l4, l5, l6], [.int i0], h) Q = if i0 ≤ 0 then Tr sc d 126 (117, [l0, l1, l2, l3, l4, l5, l6], [], h) Q else Tr sc d 126 (113, [l0, l1, l2, l3, l4, l5, l6], [], h) Q := t_if k_126_110 rfl
theorem k_126_113 : lk 126 113 = some (.iconst 1, 114, 0, 0, .int 1) := by decide +kernel
theorem x_126_113 : Tr sc d 126 (113, [l0, l1, l2, l3, l4, l5, l6], [], h) Q = Tr sc d 126 (114, [l0, l1, l2, l3, l4, l5, l6], [.int 1], h) Q := t_go k_126_113 rfl
theorem k_126_114 : lk 126 114 = some (.goto 4, 117, 118, 0, .null) := by decide +kernel
theorem x_126_114 : Tr sc d 126 (114, [l0, l1, l2, l3, l4, l5, l6], [.int i0], h) Q = Tr sc d 126 (118, [l0, l1, l2, l3, l4, l5, l6], [.int i0], h) Q := t_go k_126_114 rfl
theorem k_126_117 : lk 126 117 = some (.iconst 0, 118, 0, 0, .int 0) := by decide +kernel
theorem x_126_117 : Tr sc d 126 (117, [l0, l1, l2, l3, l4, l5, l6], [], h) Q = Tr sc d 126 (118, [l0, l1, l2, l3, l4, l5, l6], [.int 0], h) Q := t_go k_126_117 rfl
theorem k_126_118 : lk 126 118 = some (.ireturn, 119, 0, 0, .null) := by decide +kernel
theorem x_126_118 : Tr sc d 126 (118, [l0, l1, l2, l3, l4, l5, l6], [.int i0], h) Q = Q (some (.int i0), h) := t_ret k_126_118 (by rw [r_126]; rfl)
theorem e_126 : Tr sc d 126 (ent0 126 [.ref k0, .int i1, .int i2, .int i3, .int i4] h) Q = Tr sc d 126 (0, [some (.ref k0), some (.int i1), some (.int i2), some (.int i3), some (.int i4), none, none], [], h) Q := by
  have e : mL 126 = 7 := by decide +kernel
  unfold ent0
  rw [e]
  rfl
theorem r_127 : mR 127 = some .int := by decide +kernel
theorem k_127_0 : lk 127 0 = some (.aload_n 0, 1, 0, 0, .null) := by decide +kernel
theorem x_127_0 : Tr sc d 127 (0, [some (.ref xk), l1, l2, l3], [], h) Q = Tr sc d 127 (1, [some (.ref xk), l1, l2, l3], [.ref xk], h) Q := t_aload_n k_127_0 rfl
theorem k_127_1 : lk 127 1 = some (.iload_n 1, 2, 1, 0, .null) := by decide +kernel
theorem x_127_1 : Tr sc d 127 (1, [l0, some (.int x), l2, l3], [.ref k0], h) Q = Tr sc d 127 (2, [l0, some (.int x), l2, l3], [.int x, .ref k0], h) Q := t_iload_n k_127_1 rfl
theorem k_127_2 : lk 127 2 = some (.iload_n 2, 3, 2, 0, .null) := by decide +kernel
theorem x_127_2 : Tr sc d 127 (2, [l0, l1, some (.int x), l3], [.int i1, .ref k0], h) Q = Tr sc d 127 (3, [l0, l1, some (.int x), l3], [.int x, .int i1, .ref k0], h) Q := t_iload_n k_127_2 rfl
theorem k_127_3 : lk 127 3 = some (.ifCond .lt 13, 6, 16, 0, .null) := by decide +kernel
theorem x_127_3 : Tr sc d 127 (3, [l0, l1, l2, l3], [.int i2, .int i1, .ref k0], h) Q = if i2 < 0 then Tr sc d 127 (16, [l0, l1, l2, l3], [.int i1, .ref k0], h) Q else Tr sc d 127 (6, [l0, l1, l2, l3], [.int i1, .ref k0], h) Q := t_if k_127_3 rfl
theorem k_127_6 : lk 127 6 = some (.iload_n 2, 7, 2, 0, .null) := by decide +kernel
theorem x_127_6 : Tr sc d 127 (6, [l0, l1, some (.int x), l3], [.int i1, .ref k0], h) Q = Tr sc d 127 (7, [l0, l1, some (.int x), l3], [.int x, .int i1, .ref k0], h) Q := t_iload_n k_127_6 rfl
theorem k_127_7 : lk 127 7 = some (.bipush 6, 9, 0, 0, .int 6) := by decide +kernel
theorem x_127_7 : Tr sc d 127 (7, [l0, l1, l2, l3], [.int i2, .int i1, .ref k0], h) Q = Tr sc d 127 (9, [l0, l1, l2, l3], [.int 6, .int i2, .int i1, .ref k0], h) Q := t_go k_127_7 rfl
theorem k_127_9 : lk 127 9 = some (.if_icmp .gt 7, 12, 16, 0, .null) := by decide +kernel
theorem x_127_9 : Tr sc d 127 (9, [l0, l1, l2, l3], [.int i3, .int i2, .int i1, .ref k0], h) Q = if i3 < i2 then Tr sc d 127 (16, [l0, l1, l2, l3], [.int i1, .ref k0], h) Q else Tr sc d 127 (12, [l0, l1, l2, l3], [.int i1, .ref k0], h) Q := t_if k_127_9 rfl
theorem k_127_12 : lk 127 12 = some (.iconst 1, 13, 0, 0, .int 1) := by decide +kernel
theorem x_127_12 : Tr sc d 127 (12, [l0, l1, l2, l3], [.int i1, .ref k0], h) Q = Tr sc d 127 (13, [l0, l1, l2, l3], [.int 1, .int i1, .ref k0], h) Q := t_go k_127_12 rfl
theorem k_127_13 : lk 127 13 = some (.goto 4, 16, 17, 0, .null) := by decide +kernel
theorem x_127_13 : Tr sc d 127 (13, [l0, l1, l2, l3], [.int i2, .int i1, .ref k0], h) Q = Tr sc d 127 (17, [l0, l1, l2, l3], [.int i2, .int i1, .ref k0], h) Q := t_go k_127_13 rfl
theorem k_127_16 : lk 127 16 = some (.iconst 0, 17, 0, 0, .int 0) := by decide +kernel
theorem x_127_16 : Tr sc d 127 (16, [l0, l1, l2, l3], [.int i1, .ref k0], h) Q = Tr sc d 127 (17, [l0, l1, l2, l3], [.int 0, .int i1, .ref k0], h) Q := t_go k_127_16 rfl
theorem k_127_17 : lk 127 17 = some (.invokevirtual 300, 20, 147, 2, .null) := by decide +kernel
theorem x_127_17 : Tr sc (d + 1) 127 (17, [l0, l1, l2, l3], [.int i2, .int i1, .ref k0], h) Q = (okp h k0 9 = true ∧ Tr sc d 147 (ent0 147 [.ref k0, .int i1, .int i2] h) (fun z => Tr sc (d + 1) 127 (20, [l0, l1, l2, l3], z.1.toList ++ [], z.2) Q)) := t_cv (as := [.int i1, .int i2]) (r := []) k_127_17 rfl rfl (Nat.le_of_ble_eq_true rfl) (Nat.le_of_ble_eq_true rfl) (Nat.le_of_ble_eq_true rfl)
theorem k_127_20 : lk 127 20 = some (.istore_n 3, 21, 3, 0, .null) := by decide +kernel
theorem x_127_20 : Tr sc d 127 (20, [l0, l1, l2, l3], [.int i0], h) Q = Tr sc d 127 (21, [l0, l1, cl2 l2, some (.int i0)], [], h) Q := t_istore_n k_127_20 (Nat.le_of_ble_eq_true rfl)
theorem k_127_21 : lk 127 21 = some (.iload_n 3, 22, 3, 0, .null) := by decide +kernel
theorem x_127_21 : Tr sc d 127 (21, [l0, l1, l2, some (.int x)], [], h) Q = Tr sc d 127 (22, [l0, l1, l2, some (.int x)], [.int x], h) Q := t_iload_n k_127_21 rfl
theorem k_127_22 : lk 127 22 = some (.ifCond .eq 5, 25, 27, 0, .null) := by decide +kernel
theorem x_127_22 : Tr sc d 127 (22, [l0, l1, l2, l3], [.int i0], h) Q = if i0 = 0 then Tr sc d 127 (27, [l0, l1, l2, l3], [], h) Q else Tr sc d 127 (25, [l0, l1, l2, l3], [], h) Q := t_if k_127_22 rfl
theorem k_127_25 : lk 127 25 = some (.iload_n 3, 26, 3, 0, .null) := by decide +kernel
theorem x_127_25 : Tr sc d 127 (25, [l0, l1, l2, some (.int x)], [], h) Q = Tr sc d 127 (26, [l0, l1, l2, some (.int x)], [.int x], h) Q := t_iload_n k_127_25 rfl
theorem k_127_26 : lk 127 26 = some (.ireturn, 27, 0, 0, .null) := by decide +kernel
theorem x_127_26 : Tr sc d 127 (26, [l0, l1, l2, l3], [.int i0], h) Q = Q (some (.int i0), h) := t_ret k_127_26 (by rw [r_127]; rfl)
theorem k_127_27 : lk 127 27 = some (.aload_n 0, 28, 0, 0, .null) := by decide +kernel
theorem x_127_27 : Tr sc d 127 (27, [some (.ref xk), l1, l2, l3], [], h) Q = Tr sc d 127 (28, [some (.ref xk), l1, l2, l3], [.ref xk], h) Q := t_aload_n k_127_27 rfl
theorem k_127_28 : lk 127 28 = some (.getfield 61, 31, 9, 9, .null) := by decide +kernel
theorem x_127_28 : Tr sc d 127 (28, [l0, l1, l2, l3], [.ref k0], h) Q = (okp h k0 9 = true ∧ ∃ q, hR h k0 9 = some q ∧ Tr sc d 127 (31, [l0, l1, l2, l3], [.ref q], h) Q) := t_getr k_127_28
theorem k_127_31 : lk 127 31 = some (.aload_n 0, 32, 0, 0, .null) := by decide +kernel
theorem x_127_31 : Tr sc d 127 (31, [some (.ref xk), l1, l2, l3], [.ref k0], h) Q = Tr sc d 127 (32, [some (.ref xk), l1, l2, l3], [.ref xk, .ref k0], h) Q := t_aload_n k_127_31 rfl
theorem k_127_32 : lk 127 32 = some (.getfield 20, 35, 9, 2, .null) := by decide +kernel
theorem x_127_32 : Tr sc d 127 (32, [l0, l1, l2, l3], [.ref k1, .ref k0], h) Q = (okp h k1 9 = true ∧ ∃ q, hR h k1 2 = some q ∧ Tr sc d 127 (35, [l0, l1, l2, l3], [.ref q, .ref k0], h) Q) := t_getr k_127_32
theorem k_127_35 : lk 127 35 = some (.iload_n 1, 36, 1, 0, .null) := by decide +kernel
theorem x_127_35 : Tr sc d 127 (35, [l0, some (.int x), l2, l3], [.ref k1, .ref k0], h) Q = Tr sc d 127 (36, [l0, some (.int x), l2, l3], [.int x, .ref k1, .ref k0], h) Q := t_iload_n k_127_35 rfl
theorem k_127_36 : lk 127 36 = some (.aaload, 37, 0, 0, .null) := by decide +kernel
theorem x_127_36 : Tr sc d 127 (36, [l0, l1, l2, l3], [.int i2, .ref k1, .ref k0], h) Q = (((okp h k1 14 || okp h k1 15) && inb i2 (LN k1)) = true ∧ ∃ q, hR h k1 i2.toNatClampNeg = some q ∧ Tr sc d 127 (37, [l0, l1, l2, l3], [.ref q, .ref k0], h) Q) := t_aald k_127_36
theorem k_127_37 : lk 127 37 = some (.invokevirtual 303, 40, 73, 1, .null) := by decide +kernel
theorem x_127_37 : Tr sc (d + 1) 127 (37, [l0, l1, l2, l3], [.ref k1, .ref k0], h) Q = (okp h k0 7 = true ∧ Tr sc d 73 (ent0 73 [.ref k0, .ref k1] h) (fun z => Tr sc (d + 1) 127 (40, [l0, l1, l2, l3], z.1.toList ++ [], z.2) Q)) := t_cv (as := [.ref k1]) (r := []) k_127_37 rfl rfl (Nat.le_of_ble_eq_true rfl) (Nat.le_of_ble_eq_true rfl) (Nat.le_of_ble_eq_true rfl)
theorem k_127_40 : lk 127 40 = some (.aload_n 0, 41, 0, 0, .null) := by decide +kernel
theorem x_127_40 : Tr sc d 127 (40, [some (.ref xk), l1, l2, l3], [], h) Q = Tr sc d 127 (41, [some (.ref xk), l1, l2, l3], [.ref xk], h) Q := t_aload_n k_127_40 rfl
theorem k_127_41 : lk 127 41 = some (.aload_n 0, 42, 0, 0, .null) := by decide +kernel
theorem x_127_41 : Tr sc d 127 (41, [some (.ref xk), l1, l2, l3], [.ref k0], h) Q = Tr sc d 127 (42, [some (.ref xk), l1, l2, l3], [.ref xk, .ref k0], h) Q := t_aload_n k_127_41 rfl
theorem k_127_42 : lk 127 42 = some (.getfield 61, 45, 9, 9, .null) := by decide +kernel
theorem x_127_42 : Tr sc d 127 (42, [l0, l1, l2, l3], [.ref k1, .ref k0], h) Q = (okp h k1 9 = true ∧ ∃ q, hR h k1 9 = some q ∧ Tr sc d 127 (45, [l0, l1, l2, l3], [.ref q, .ref k0], h) Q) := t_getr k_127_42
theorem k_127_45 : lk 127 45 = some (.iload_n 2, 46, 2, 0, .null) := by decide +kernel
theorem x_127_45 : Tr sc d 127 (45, [l0, l1, some (.int x), l3], [.ref k1, .ref k0], h) Q = Tr sc d 127 (46, [l0, l1, some (.int x), l3], [.int x, .ref k1, .ref k0], h) Q := t_iload_n k_127_45 rfl
theorem k_127_46 : lk 127 46 = some (.invokevirtual 341, 49, 84, 1, .null) := by decide +kernel
theorem x_127_46 : Tr sc (d + 1) 127 (46, [l0, l1, l2, l3], [.int i2, .ref k1, .ref k0], h) Q = (okp h k1 7 = true ∧ Tr sc d 84 (ent0 84 [.ref k1, .int i2] h) (fun z => Tr sc (d + 1) 127 (49, [l0, l1, l2, l3], z.1.toList ++ [.ref k0], z.2) Q)) := t_cv (as := [.int i2]) (r := [.ref k0]) k_127_46 rfl rfl (Nat.le_of_ble_eq_true rfl) (Nat.le_of_ble_eq_true rfl) (Nat.le_of_ble_eq_true rfl)
theorem k_127_49 : lk 127 49 = some (.putfield 101, 52, 9, 16, .long 0) := by decide +kernel
theorem x_127_49 : Tr sc d 127 (49, [l0, l1, l2, l3], [.long j1, .ref k0], h) Q = (okp h k0 9 = true ∧ Tr sc d 127 (52, [l0, l1, l2, l3], [], (sL h k0 16 j1)) Q) := t_gd k_127_49 rfl
theorem k_127_52 : lk 127 52 = some (.iconst 1, 53, 0, 0, .int 1) := by decide +kernel
theorem x_127_52 : Tr sc d 127 (52, [l0, l1, l2, l3], [], h) Q = Tr sc d 127 (53, [l0, l1, l2, l3], [.int 1], h) Q := t_go k_127_52 rfl
theorem k_127_53 : lk 127 53 = some (.ireturn, 54, 0, 0, .null) := by decide +kernel
theorem x_127_53 : Tr sc d 127 (53, [l0, l1, l2, l3], [.int i0], h) Q = Q (some (.int i0), h) := t_ret k_127_53 (by rw [r_127]; rfl)
theorem e_127 : Tr sc d 127 (ent0 127 [.ref k0, .int i1, .int i2] h) Q = Tr sc d 127 (0, [some (.ref k0), some (.int i1), some (.int i2), none], [], h) Q := by
  have e : mL 127 = 4 := by decide +kernel
  unfold ent0
  rw [e]
  rfl
theorem r_128 : mR 128 = some .int := by decide +kernel
theorem k_128_0 : lk 128 0 = some (.aload_n 0, 1, 0, 0, .null) := by decide +kernel
theorem x_128_0 : Tr sc d 128 (0, [some (.ref xk), l1, l2, l3], [], h) Q = Tr sc d 128 (1, [some (.ref xk), l1, l2, l3], [.ref xk], h) Q := t_aload_n k_128_0 rfl
theorem k_128_1 : lk 128 1 = some (.iload_n 1, 2, 1, 0, .null) := by decide +kernel
theorem x_128_1 : Tr sc d 128 (1, [l0, some (.int x), l2, l3], [.ref k0], h) Q = Tr sc d 128 (2, [l0, some (.int x), l2, l3], [.int x, .ref k0], h) Q := t_iload_n k_128_1 rfl
theorem k_128_2 : lk 128 2 = some (.iconst 1, 3, 0, 0, .int 1) := by decide +kernel
theorem x_128_2 : Tr sc d 128 (2, [l0, l1, l2, l3], [.int i1, .ref k0], h) Q = Tr sc d 128 (3, [l0, l1, l2, l3], [.int 1, .int i1, .ref k0], h) Q := t_go k_128_2 rfl
theorem k_128_3 : lk 128 3 = some (.invokevirtual 196, 6, 146, 2, .null) := by decide +kernel
theorem x_128_3 : Tr sc (d + 1) 128 (3, [l0, l1, l2, l3], [.int i2, .int i1, .ref k0], h) Q = (okp h k0 9 = true ∧ Tr sc d 146 (ent0 146 [.ref k0, .int i1, .int i2] h) (fun z => Tr sc (d + 1) 128 (6, [l0, l1, l2, l3], z.1.toList ++ [], z.2) Q)) := t_cv (as := [.int i1, .int i2]) (r := []) k_128_3 rfl rfl (Nat.le_of_ble_eq_true rfl) (Nat.le_of_ble_eq_true rfl) (Nat.le_of_ble_eq_true rfl)
theorem k_128_6 : lk 128 6 = some (.istore_n 3, 7, 3, 0, .null) := by decide +kernel
theorem x_128_6 : Tr sc d 128 (6, [l0, l1, l2, l3], [.int i0], h) Q = Tr sc d 128 (7, [l0, l1, cl2 l2, some (.int i0)], [], h) Q := t_istore_n k_128_6 (Nat.le_of_ble_eq_true rfl)
theorem k_128_7 : lk 128 7 = some (.iload_n 3, 8, 3, 0, .null) := by decide +kernel
theorem x_128_7 : Tr sc d 128 (7, [l0, l1, l2, some (.int x)], [], h) Q = Tr sc d 128 (8, [l0, l1, l2, some (.int x)], [.int x], h) Q := t_iload_n k_128_7 rfl
theorem k_128_8 : lk 128 8 = some (.ifCond .eq 5, 11, 13, 0, .null) := by decide +kernel
theorem x_128_8 : Tr sc d 128 (8, [l0, l1, l2, l3], [.int i0], h) Q = if i0 = 0 then Tr sc d 128 (13, [l0, l1, l2, l3], [], h) Q else Tr sc d 128 (11, [l0, l1, l2, l3], [], h) Q := t_if k_128_8 rfl
theorem k_128_11 : lk 128 11 = some (.iload_n 3, 12, 3, 0, .null) := by decide +kernel
theorem x_128_11 : Tr sc d 128 (11, [l0, l1, l2, some (.int x)], [], h) Q = Tr sc d 128 (12, [l0, l1, l2, some (.int x)], [.int x], h) Q := t_iload_n k_128_11 rfl
theorem k_128_12 : lk 128 12 = some (.ireturn, 13, 0, 0, .null) := by decide +kernel
theorem x_128_12 : Tr sc d 128 (12, [l0, l1, l2, l3], [.int i0], h) Q = Q (some (.int i0), h) := t_ret k_128_12 (by rw [r_128]; rfl)
theorem k_128_13 : lk 128 13 = some (.aload_n 0, 14, 0, 0, .null) := by decide +kernel
theorem x_128_13 : Tr sc d 128 (13, [some (.ref xk), l1, l2, l3], [], h) Q = Tr sc d 128 (14, [some (.ref xk), l1, l2, l3], [.ref xk], h) Q := t_aload_n k_128_13 rfl
theorem k_128_14 : lk 128 14 = some (.getfield 20, 17, 9, 2, .null) := by decide +kernel
theorem x_128_14 : Tr sc d 128 (14, [l0, l1, l2, l3], [.ref k0], h) Q = (okp h k0 9 = true ∧ ∃ q, hR h k0 2 = some q ∧ Tr sc d 128 (17, [l0, l1, l2, l3], [.ref q], h) Q) := t_getr k_128_14
theorem k_128_17 : lk 128 17 = some (.iload_n 1, 18, 1, 0, .null) := by decide +kernel
theorem x_128_17 : Tr sc d 128 (17, [l0, some (.int x), l2, l3], [.ref k0], h) Q = Tr sc d 128 (18, [l0, some (.int x), l2, l3], [.int x, .ref k0], h) Q := t_iload_n k_128_17 rfl
theorem k_128_18 : lk 128 18 = some (.aaload, 19, 0, 0, .null) := by decide +kernel
theorem x_128_18 : Tr sc d 128 (18, [l0, l1, l2, l3], [.int i1, .ref k0], h) Q = (((okp h k0 14 || okp h k0 15) && inb i1 (LN k0)) = true ∧ ∃ q, hR h k0 i1.toNatClampNeg = some q ∧ Tr sc d 128 (19, [l0, l1, l2, l3], [.ref q], h) Q) := t_aald k_128_18
theorem k_128_19 : lk 128 19 = some (.getfield 200, 22, 6, 6, .int 0) := by decide +kernel
theorem x_128_19 : Tr sc d 128 (19, [l0, l1, l2, l3], [.ref k0], h) Q = (okp h k0 6 = true ∧ Tr sc d 128 (22, [l0, l1, l2, l3], [.int (hI h k0 6)], h) Q) := t_gd k_128_19 rfl
theorem k_128_22 : lk 128 22 = some (.iconst 4, 23, 0, 0, .int 4) := by decide +kernel
theorem x_128_22 : Tr sc d 128 (22, [l0, l1, l2, l3], [.int i0], h) Q = Tr sc d 128 (23, [l0, l1, l2, l3], [.int 4, .int i0], h) Q := t_go k_128_22 rfl
theorem k_128_23 : lk 128 23 = some (.if_icmp .ne 9, 26, 32, 0, .null) := by decide +kernel
theorem x_128_23 : Tr sc d 128 (23, [l0, l1, l2, l3], [.int i1, .int i0], h) Q = if i0 = i1 then Tr sc d 128 (26, [l0, l1, l2, l3], [], h) Q else Tr sc d 128 (32, [l0, l1, l2, l3], [], h) Q := t_if k_128_23 rfl
theorem k_128_26 : lk 128 26 = some (.aload_n 0, 27, 0, 0, .null) := by decide +kernel
theorem x_128_26 : Tr sc d 128 (26, [some (.ref xk), l1, l2, l3], [], h) Q = Tr sc d 128 (27, [some (.ref xk), l1, l2, l3], [.ref xk], h) Q := t_aload_n k_128_26 rfl
theorem k_128_27 : lk 128 27 = some (.iconst 3, 28, 0, 0, .int 3) := by decide +kernel
theorem x_128_27 : Tr sc d 128 (27, [l0, l1, l2, l3], [.ref k0], h) Q = Tr sc d 128 (28, [l0, l1, l2, l3], [.int 3, .ref k0], h) Q := t_go k_128_27 rfl
theorem k_128_28 : lk 128 28 = some (.invokevirtual 118, 31, 145, 1, .null) := by decide +kernel
theorem x_128_28 : Tr sc (d + 1) 128 (28, [l0, l1, l2, l3], [.int i1, .ref k0], h) Q = (okp h k0 9 = true ∧ Tr sc d 145 (ent0 145 [.ref k0, .int i1] h) (fun z => Tr sc (d + 1) 128 (31, [l0, l1, l2, l3], z.1.toList ++ [], z.2) Q)) := t_cv (as := [.int i1]) (r := []) k_128_28 rfl rfl (Nat.le_of_ble_eq_true rfl) (Nat.le_of_ble_eq_true rfl) (Nat.le_of_ble_eq_true rfl)
theorem k_128_31 : lk 128 31 = some (.ireturn, 32, 0, 0, .null) := by decide +kernel
theorem x_128_31 : Tr sc d 128 (31, [l0, l1, l2, l3], [.int i0], h) Q = Q (some (.int i0), h) := t_ret k_128_31 (by rw [r_128]; rfl)
theorem k_128_32 : lk 128 32 = some (.aload_n 0, 33, 0, 0, .null) := by decide +kernel
theorem x_128_32 : Tr sc d 128 (32, [some (.ref xk), l1, l2, l3], [], h) Q = Tr sc d 128 (33, [some (.ref xk), l1, l2, l3], [.ref xk], h) Q := t_aload_n k_128_32 rfl
theorem k_128_33 : lk 128 33 = some (.getfield 43, 36, 9, 6, .null) := by decide +kernel
theorem x_128_33 : Tr sc d 128 (33, [l0, l1, l2, l3], [.ref k0], h) Q = (okp h k0 9 = true ∧ ∃ q, hR h k0 6 = some q ∧ Tr sc d 128 (36, [l0, l1, l2, l3], [.ref q], h) Q) := t_getr k_128_33
theorem k_128_36 : lk 128 36 = some (.aload_n 0, 37, 0, 0, .null) := by decide +kernel
theorem x_128_36 : Tr sc d 128 (36, [some (.ref xk), l1, l2, l3], [.ref k0], h) Q = Tr sc d 128 (37, [some (.ref xk), l1, l2, l3], [.ref xk, .ref k0], h) Q := t_aload_n k_128_36 rfl
theorem k_128_37 : lk 128 37 = some (.getfield 20, 40, 9, 2, .null) := by decide +kernel
theorem x_128_37 : Tr sc d 128 (37, [l0, l1, l2, l3], [.ref k1, .ref k0], h) Q = (okp h k1 9 = true ∧ ∃ q, hR h k1 2 = some q ∧ Tr sc d 128 (40, [l0, l1, l2, l3], [.ref q, .ref k0], h) Q) := t_getr k_128_37
theorem k_128_40 : lk 128 40 = some (.iload_n 1, 41, 1, 0, .null) := by decide +kernel
theorem x_128_40 : Tr sc d 128 (40, [l0, some (.int x), l2, l3], [.ref k1, .ref k0], h) Q = Tr sc d 128 (41, [l0, some (.int x), l2, l3], [.int x, .ref k1, .ref k0], h) Q := t_iload_n k_128_40 rfl
theorem k_128_41 : lk 128 41 = some (.aaload, 42, 0, 0, .null) := by decide +kernel
theorem x_128_41 : Tr sc d 128 (41, [l0, l1, l2, l3], [.int i2, .ref k1, .ref k0], h) Q = (((okp h k1 14 || okp h k1 15) && inb i2 (LN k1)) = true ∧ ∃ q, hR h k1 i2.toNatClampNeg = some q ∧ Tr sc d 128 (42, [l0, l1, l2, l3], [.ref q, .ref k0], h) Q) := t_aald k_128_41
theorem k_128_42 : lk 128 42 = some (.invokevirtual 344, 45, 4, 1, .null) := by decide +kernel
theorem x_128_42 : Tr sc (d + 1) 128 (42, [l0, l1, l2, l3], [.ref k1, .ref k0], h) Q = (okp h k0 0 = true ∧ Tr sc d 4 (ent0 4 [.ref k0, .ref k1] h) (fun z => Tr sc (d + 1) 128 (45, [l0, l1, l2, l3], z.1.toList ++ [], z.2) Q)) := t_cv (as := [.ref k1]) (r := []) k_128_42 rfl rfl (Nat.le_of_ble_eq_true rfl) (Nat.le_of_ble_eq_true rfl) (Nat.le_of_ble_eq_true rfl)
theorem k_128_45 : lk 128 45 = some (.aload_n 0, 46, 0, 0, .null) := by decide +kernel
theorem x_128_45 : Tr sc d 128 (45, [some (.ref xk), l1, l2, l3], [], h) Q = Tr sc d 128 (46, [some (.ref xk), l1, l2, l3], [.ref xk], h) Q := t_aload_n k_128_45 rfl
theorem k_128_46 : lk 128 46 = some (.iload_n 2, 47, 2, 0, .null) := by decide +kernel
theorem x_128_46 : Tr sc d 128 (46, [l0, l1, some (.int x), l3], [.ref k0], h) Q = Tr sc d 128 (47, [l0, l1, some (.int x), l3], [.int x, .ref k0], h) Q := t_iload_n k_128_46 rfl
theorem k_128_47 : lk 128 47 = some (.ifCond .eq 13, 50, 60, 0, .null) := by decide +kernel
theorem x_128_47 : Tr sc d 128 (47, [l0, l1, l2, l3], [.int i1, .ref k0], h) Q = if i1 = 0 then Tr sc d 128 (60, [l0, l1, l2, l3], [.ref k0], h) Q else Tr sc d 128 (50, [l0, l1, l2, l3], [.ref k0], h) Q := t_if k_128_47 rfl
theorem k_128_50 : lk 128 50 = some (.aload_n 0, 51, 0, 0, .null) := by decide +kernel
theorem x_128_50 : Tr sc d 128 (50, [some (.ref xk), l1, l2, l3], [.ref k0], h) Q = Tr sc d 128 (51, [some (.ref xk), l1, l2, l3], [.ref xk, .ref k0], h) Q := t_aload_n k_128_50 rfl
theorem k_128_51 : lk 128 51 = some (.getfield 43, 54, 9, 6, .null) := by decide +kernel
theorem x_128_51 : Tr sc d 128 (51, [l0, l1, l2, l3], [.ref k1, .ref k0], h) Q = (okp h k1 9 = true ∧ ∃ q, hR h k1 6 = some q ∧ Tr sc d 128 (54, [l0, l1, l2, l3], [.ref q, .ref k0], h) Q) := t_getr k_128_51
theorem k_128_54 : lk 128 54 = some (.invokevirtual 250, 57, 7, 0, .null) := by decide +kernel
theorem x_128_54 : Tr sc (d + 1) 128 (54, [l0, l1, l2, l3], [.ref k1, .ref k0], h) Q = (okp h k1 0 = true ∧ Tr sc d 7 (ent0 7 [.ref k1] h) (fun z => Tr sc (d + 1) 128 (57, [l0, l1, l2, l3], z.1.toList ++ [.ref k0], z.2) Q)) := t_cv (as := []) (r := [.ref k0]) k_128_54 rfl rfl (Nat.le_of_ble_eq_true rfl) (Nat.le_of_ble_eq_true rfl) (Nat.le_of_ble_eq_true rfl)
theorem k_128_57 : lk 128 57 = some (.goto 10, 60, 67, 0, .null) := by decide +kernel
theorem x_128_57 : Tr sc d 128 (57, [l0, l1, l2, l3], [.long j1, .ref k0], h) Q = Tr sc d 128 (67, [l0, l1, l2, l3], [.long j1, .ref k0], h) Q := t_go k_128_57 rfl
theorem k_128_60 : lk 128 60 = some (.aload_n 0, 61, 0, 0, .null) := by decide +kernel
theorem x_128_60 : Tr sc d 128 (60, [some (.ref xk), l1, l2, l3], [.ref k0], h) Q = Tr sc d 128 (61, [some (.ref xk), l1, l2, l3], [.ref xk, .ref k0], h) Q := t_aload_n k_128_60 rfl
theorem k_128_61 : lk 128 61 = some (.getfield 43, 64, 9, 6, .null) := by decide +kernel
theorem x_128_61 : Tr sc d 128 (61, [l0, l1, l2, l3], [.ref k1, .ref k0], h) Q = (okp h k1 9 = true ∧ ∃ q, hR h k1 6 = some q ∧ Tr sc d 128 (64, [l0, l1, l2, l3], [.ref q, .ref k0], h) Q) := t_getr k_128_61
theorem k_128_64 : lk 128 64 = some (.invokevirtual 241, 67, 6, 0, .null) := by decide +kernel
theorem x_128_64 : Tr sc (d + 1) 128 (64, [l0, l1, l2, l3], [.ref k1, .ref k0], h) Q = (okp h k1 0 = true ∧ Tr sc d 6 (ent0 6 [.ref k1] h) (fun z => Tr sc (d + 1) 128 (67, [l0, l1, l2, l3], z.1.toList ++ [.ref k0], z.2) Q)) := t_cv (as := []) (r := [.ref k0]) k_128_64 rfl rfl (Nat.le_of_ble_eq_true rfl) (Nat.le_of_ble_eq_true rfl) (Nat.le_of_ble_eq_true rfl)
theorem k_128_67 : lk 128 67 = some (.aload_n 0, 68, 0, 0, .null) := by decide +kernel
theorem x_128_67 : Tr sc d 128 (67, [some (.ref xk), l1, l2, l3], [.long j1, .ref k0], h) Q = Tr sc d 128 (68, [some (.ref xk), l1, l2, l3], [.ref xk, .long j1, .ref k0], h) Q := t_aload_n k_128_67 rfl
theorem k_128_68 : lk 128 68 = some (.getfield 43, 71, 9, 6, .null) := by decide +kernel
theorem x_128_68 : Tr sc d 128 (68, [l0, l1, l2, l3], [.ref k2, .long j1, .ref k0], h) Q = (okp h k2 9 = true ∧ ∃ q, hR h k2 6 = some q ∧ Tr sc d 128 (71, [l0, l1, l2, l3], [.ref q, .long j1, .ref k0], h) Q) := t_getr k_128_68
theorem k_128_71 : lk 128 71 = some (.invokevirtual 238, 74, 5, 0, .null) := by decide +kernel
theorem x_128_71 : Tr sc (d + 1) 128 (71, [l0, l1, l2, l3], [.ref k2, .long j1, .ref k0], h) Q = (okp h k2 0 = true ∧ Tr sc d 5 (ent0 5 [.ref k2] h) (fun z => Tr sc (d + 1) 128 (74, [l0, l1, l2, l3], z.1.toList ++ [.long j1, .ref k0], z.2) Q)) := t_cv (as := []) (r := [.long j1, .ref k0]) k_128_71 rfl rfl (Nat.le_of_ble_eq_true rfl) (Nat.le_of_ble_eq_true rfl) (Nat.le_of_ble_eq_true rfl)
theorem k_128_74 : lk 128 74 = some (.invokevirtual 262, 77, 154, 2, .null) := by decide +kernel
theorem x_128_74 : Tr sc (d + 1) 128 (74, [l0, l1, l2, l3], [.long j2, .long j1, .ref k0], h) Q = (okp h k0 9 = true ∧ Tr sc d 154 (ent0 154 [.ref k0, .long j1, .long j2] h) (fun z => Tr sc (d + 1) 128 (77, [l0, l1, l2, l3], z.1.toList ++ [], z.2) Q)) := t_cv (as := [.long j1, .long j2]) (r := []) k_128_74 rfl rfl (Nat.le_of_ble_eq_true rfl) (Nat.le_of_ble_eq_true rfl) (Nat.le_of_ble_eq_true rfl)
theorem k_128_77 : lk 128 77 = some (.iconst 1, 78, 0, 0, .int 1) := by decide +kernel
theorem x_128_77 : Tr sc d 128 (77, [l0, l1, l2, l3], [], h) Q = Tr sc d 128 (78, [l0, l1, l2, l3], [.int 1], h) Q := t_go k_128_77 rfl
theorem k_128_78 : lk 128 78 = some (.ireturn, 79, 0, 0, .null) := by decide +kernel
theorem x_128_78 : Tr sc d 128 (78, [l0, l1, l2, l3], [.int i0], h) Q = Q (some (.int i0), h) := t_ret k_128_78 (by rw [r_128]; rfl)
theorem e_128 : Tr sc d 128 (ent0 128 [.ref k0, .int i1, .int i2] h) Q = Tr sc d 128 (0, [some (.ref k0), some (.int i1), some (.int i2), none], [], h) Q := by
  have e : mL 128 = 4 := by decide +kernel
  unfold ent0
  rw [e]
  rfl
theorem r_129 : mR 129 = some .int := by decide +kernel
theorem k_129_0 : lk 129 0 = some (.aload_n 0, 1, 0, 0, .null) := by decide +kernel
theorem x_129_0 : Tr sc d 129 (0, [some (.ref xk), l1, l2, l3, l4, l5], [], h) Q = Tr sc d 129 (1, [some (.ref xk), l1, l2, l3, l4, l5], [.ref xk], h) Q := t_aload_n k_129_0 rfl
theorem k_129_1 : lk 129 1 = some (.iload_n 1, 2, 1, 0, .null) := by decide +kernel
theorem x_129_1 : Tr sc d 129 (1, [l0, some (.int x), l2, l3, l4, l5], [.ref k0], h) Q = Tr sc d 129 (2, [l0, some (.int x), l2, l3, l4, l5], [.int x, .ref k0], h) Q := t_iload_n k_129_1 rfl
theorem k_129_2 : lk 129 2 = some (.iload_n 2, 3, 2, 0, .null) := by decide +kernel
theorem x_129_2 : Tr sc d 129 (2, [l0, l1, some (.int x), l3, l4, l5], [.int i1, .ref k0], h) Q = Tr sc d 129 (3, [l0, l1, some (.int x), l3, l4, l5], [.int x, .int i1, .ref k0], h) Q := t_iload_n k_129_2 rfl
theorem k_129_3 : lk 129 3 = some (.iconst 5, 4, 0, 0, .int 5) := by decide +kernel
theorem x_129_3 : Tr sc d 129 (3, [l0, l1, l2, l3, l4, l5], [.int i2, .int i1, .ref k0], h) Q = Tr sc d 129 (4, [l0, l1, l2, l3, l4, l5], [.int 5, .int i2, .int i1, .ref k0], h) Q := t_go k_129_3 rfl
theorem k_129_4 : lk 129 4 = some (.invokestatic 270, 7, 144, 2, .null) := by decide +kernel
theorem x_129_4 : Tr sc (d + 1) 129 (4, [l0, l1, l2, l3, l4, l5], [.int i3, .int i2, .int i1, .ref k0], h) Q = Tr sc d 144 (ent0 144 [.int i2, .int i3] h) (fun z => Tr sc (d + 1) 129 (7, [l0, l1, l2, l3, l4, l5], z.1.toList ++ [.int i1, .ref k0], z.2) Q) := t_cs (as := [.int i2, .int i3]) (r := [.int i1, .ref k0]) k_129_4 (by decide) rfl rfl (Nat.le_of_ble_eq_true rfl) (Nat.le_of_ble_eq_true rfl)
theorem k_129_7 : lk 129 7 = some (.invokevirtual 196, 10, 146, 2, .null) := by decide +kernel
theorem x_129_7 : Tr sc (d + 1) 129 (7, [l0, l1, l2, l3, l4, l5], [.int i2, .int i1, .ref k0], h) Q = (okp h k0 9 = true ∧ Tr sc d 146 (ent0 146 [.ref k0, .int i1, .int i2] h) (fun z => Tr sc (d + 1) 129 (10, [l0, l1, l2, l3, l4, l5], z.1.toList ++ [], z.2) Q)) := t_cv (as := [.int i1, .int i2]) (r := []) k_129_7 rfl rfl (Nat.le_of_ble_eq_true rfl) (Nat.le_of_ble_eq_true rfl) (Nat.le_of_ble_eq_true rfl)
theorem k_129_10 : lk 129 10 = some (.istore 5, 12, 5, 0, .null) := by decide +kernel
theorem x_129_10 : Tr sc d 129 (10, [l0, l1, l2, l3, l4, l5], [.int i0], h) Q = Tr sc d 129 (12, [l0, l1, l2, l3, cl2 l4, some (.int i0)], [], h) Q := t_istore k_129_10 (Nat.le_of_ble_eq_true rfl)
theorem k_129_12 : lk 129 12 = some (.iload 5, 14, 5, 0, .null) := by decide +kernel
theorem x_129_12 : Tr sc d 129 (12, [l0, l1, l2, l3, l4, some (.int x)], [], h) Q = Tr sc d 129 (14, [l0, l1, l2, l3, l4, some (.int x)], [.int x], h) Q := t_iload k_129_12 rfl
theorem k_129_14 : lk 129 14 = some (.ifCond .eq 6, 17, 20, 0, .null) := by decide +kernel
theorem x_129_14 : Tr sc d 129 (14, [l0, l1, l2, l3, l4, l5], [.int i0], h) Q = if i0 = 0 then Tr sc d 129 (20, [l0, l1, l2, l3, l4, l5], [], h) Q else Tr sc d 129 (17, [l0, l1, l2, l3, l4, l5], [], h) Q := t_if k_129_14 rfl
theorem k_129_17 : lk 129 17 = some (.iload 5, 19, 5, 0, .null) := by decide +kernel
theorem x_129_17 : Tr sc d 129 (17, [l0, l1, l2, l3, l4, some (.int x)], [], h) Q = Tr sc d 129 (19, [l0, l1, l2, l3, l4, some (.int x)], [.int x], h) Q := t_iload k_129_17 rfl
theorem k_129_19 : lk 129 19 = some (.ireturn, 20, 0, 0, .null) := by decide +kernel
theorem x_129_19 : Tr sc d 129 (19, [l0, l1, l2, l3, l4, l5], [.int i0], h) Q = Q (some (.int i0), h) := t_ret k_129_19 (by rw [r_129]; rfl)
theorem k_129_20 : lk 129 20 = some (.aload_n 0, 21, 0, 0, .null) := by decide +kernel
theorem x_129_20 : Tr sc d 129 (20, [some (.ref xk), l1, l2, l3, l4, l5], [], h) Q = Tr sc d 129 (21, [some (.ref xk), l1, l2, l3, l4, l5], [.ref xk], h) Q := t_aload_n k_129_20 rfl
theorem k_129_21 : lk 129 21 = some (.getfield 20, 24, 9, 2, .null) := by decide +kernel
theorem x_129_21 : Tr sc d 129 (21, [l0, l1, l2, l3, l4, l5], [.ref k0], h) Q = (okp h k0 9 = true ∧ ∃ q, hR h k0 2 = some q ∧ Tr sc d 129 (24, [l0, l1, l2, l3, l4, l5], [.ref q], h) Q) := t_getr k_129_21
theorem k_129_24 : lk 129 24 = some (.iload_n 1, 25, 1, 0, .null) := by decide +kernel
theorem x_129_24 : Tr sc d 129 (24, [l0, some (.int x), l2, l3, l4, l5], [.ref k0], h) Q = Tr sc d 129 (25, [l0, some (.int x), l2, l3, l4, l5], [.int x, .ref k0], h) Q := t_iload_n k_129_24 rfl
theorem k_129_25 : lk 129 25 = some (.aaload, 26, 0, 0, .null) := by decide +kernel
theorem x_129_25 : Tr sc d 129 (25, [l0, l1, l2, l3, l4, l5], [.int i1, .ref k0], h) Q = (((okp h k0 14 || okp h k0 15) && inb i1 (LN k0)) = true ∧ ∃ q, hR h k0 i1.toNatClampNeg = some q ∧ Tr sc d 129 (26, [l0, l1, l2, l3, l4, l5], [.ref q], h) Q) := t_aald k_129_25
theorem k_129_26 : lk 129 26 = some (.getfield 200, 29, 6, 6, .int 0) := by decide +kernel
theorem x_129_26 : Tr sc d 129 (26, [l0, l1, l2, l3, l4, l5], [.ref k0], h) Q = (okp h k0 6 = true ∧ Tr sc d 129 (29, [l0, l1, l2, l3, l4, l5], [.int (hI h k0 6)], h) Q) := t_gd k_129_26 rfl
theorem k_129_29 : lk 129 29 = some (.iconst 3, 30, 0, 0, .int 3) := by decide +kernel
theorem x_129_29 : Tr sc d 129 (29, [l0, l1, l2, l3, l4, l5], [.int i0], h) Q = Tr sc d 129 (30, [l0, l1, l2, l3, l4, l5], [.int 3, .int i0], h) Q := t_go k_129_29 rfl
theorem k_129_30 : lk 129 30 = some (.if_icmp .eq 9, 33, 39, 0, .null) := by decide +kernel
theorem x_129_30 : Tr sc d 129 (30, [l0, l1, l2, l3, l4, l5], [.int i1, .int i0], h) Q = if i0 = i1 then Tr sc d 129 (39, [l0, l1, l2, l3, l4, l5], [], h) Q else Tr sc d 129 (33, [l0, l1, l2, l3, l4, l5], [], h) Q := t_if k_129_30 rfl
theorem k_129_33 : lk 129 33 = some (.aload_n 0, 34, 0, 0, .null) := by decide +kernel
theorem x_129_33 : Tr sc d 129 (33, [some (.ref xk), l1, l2, l3, l4, l5], [], h) Q = Tr sc d 129 (34, [some (.ref xk), l1, l2, l3, l4, l5], [.ref xk], h) Q := t_aload_n k_129_33 rfl
theorem k_129_34 : lk 129 34 = some (.iconst 3, 35, 0, 0, .int 3) := by decide +kernel
theorem x_129_34 : Tr sc d 129 (34, [l0, l1, l2, l3, l4, l5], [.ref k0], h) Q = Tr sc d 129 (35, [l0, l1, l2, l3, l4, l5], [.int 3, .ref k0], h) Q := t_go k_129_34 rfl
theorem k_129_35 : lk 129 35 = some (.invokevirtual 118, 38, 145, 1, .null) := by decide +kernel
theorem x_129_35 : Tr sc (d + 1) 129 (35, [l0, l1, l2, l3, l4, l5], [.int i1, .ref k0], h) Q = (okp h k0 9 = true ∧ Tr sc d 145 (ent0 145 [.ref k0, .int i1] h) (fun z => Tr sc (d + 1) 129 (38, [l0, l1, l2, l3, l4, l5], z.1.toList ++ [], z.2) Q)) := t_cv (as := [.int i1]) (r := []) k_129_35 rfl rfl (Nat.le_of_ble_eq_true rfl) (Nat.le_of_ble_eq_true rfl) (Nat.le_of_ble_eq_true rfl)
theorem k_129_38 : lk 129 38 = some (.ireturn, 39, 0, 0, .null) := by decide +kernel
theorem x_129_38 : Tr sc d 129 (38, [l0, l1, l2, l3, l4, l5], [.int i0], h) Q = Q (some (.int i0), h) := t_ret k_129_38 (by rw [r_129]; rfl)
theorem k_129_39 : lk 129 39 = some (.aload_n 0, 40, 0, 0, .null) := by decide +kernel
theorem x_129_39 : Tr sc d 129 (39, [some (.ref xk), l1, l2, l3, l4, l5], [], h) Q = Tr sc d 129 (40, [some (.ref xk), l1, l2, l3, l4, l5], [.ref xk], h) Q := t_aload_n k_129_39 rfl
theorem k_129_40 : lk 129 40 = some (.aload_n 0, 41, 0, 0, .null) := by decide +kernel
theorem x_129_40 : Tr sc d 129 (40, [some (.ref xk), l1, l2, l3, l4, l5], [.ref k0], h) Q = Tr sc d 129 (41, [some (.ref xk), l1, l2, l3, l4, l5], [.ref xk, .ref k0], h) Q := t_aload_n k_129_40 rfl
theorem k_129_41 : lk 129 41 = some (.getfield 20, 44, 9, 2, .null) := by decide +kernel
theorem x_129_41 : Tr sc d 129 (41, [l0, l1, l2, l3, l4, l5], [.ref k1, .ref k0], h) Q = (okp h k1 9 = true ∧ ∃ q, hR h k1 2 = some q ∧ Tr sc d 129 (44, [l0, l1, l2, l3, l4, l5], [.ref q, .ref k0], h) Q) := t_getr k_129_41
theorem k_129_44 : lk 129 44 = some (.iload_n 1, 45, 1, 0, .null) := by decide +kernel
theorem x_129_44 : Tr sc d 129 (44, [l0, some (.int x), l2, l3, l4, l5], [.ref k1, .ref k0], h) Q = Tr sc d 129 (45, [l0, some (.int x), l2, l3, l4, l5], [.int x, .ref k1, .ref k0], h) Q := t_iload_n k_129_44 rfl
theorem k_129_45 : lk 129 45 = some (.aaload, 46, 0, 0, .null) := by decide +kernel
theorem x_129_45 : Tr sc d 129 (45, [l0, l1, l2, l3, l4, l5], [.int i2, .ref k1, .ref k0], h) Q = (((okp h k1 14 || okp h k1 15) && inb i2 (LN k1)) = true ∧ ∃ q, hR h k1 i2.toNatClampNeg = some q ∧ Tr sc d 129 (46, [l0, l1, l2, l3, l4, l5], [.ref q, .ref k0], h) Q) := t_aald k_129_45
theorem k_129_46 : lk 129 46 = some (.iload_n 2, 47, 2, 0, .null) := by decide +kernel
theorem x_129_46 : Tr sc d 129 (46, [l0, l1, some (.int x), l3, l4, l5], [.ref k1, .ref k0], h) Q = Tr sc d 129 (47, [l0, l1, some (.int x), l3, l4, l5], [.int x, .ref k1, .ref k0], h) Q := t_iload_n k_129_46 rfl
theorem k_129_47 : lk 129 47 = some (.iload_n 3, 48, 3, 0, .null) := by decide +kernel
theorem x_129_47 : Tr sc d 129 (47, [l0, l1, l2, some (.int x), l4, l5], [.int i2, .ref k1, .ref k0], h) Q = Tr sc d 129 (48, [l0, l1, l2, some (.int x), l4, l5], [.int x, .int i2, .ref k1, .ref k0], h) Q := t_iload_n k_129_47 rfl
theorem k_129_48 : lk 129 48 = some (.iload 4, 50, 4, 0, .null) := by decide +kernel
theorem x_129_48 : Tr sc d 129 (48, [l0, l1, l2, l3, some (.int x), l5], [.int i3, .int i2, .ref k1, .ref k0], h) Q = Tr sc d 129 (50, [l0, l1, l2, l3, some (.int x), l5], [.int x, .int i3, .int i2, .ref k1, .ref k0], h) Q := t_iload k_129_48 rfl
theorem k_129_50 : lk 129 50 = some (.invokevirtual 347, 53, 69, 3, .null) := by decide +kernel
theorem x_129_50 : Tr sc (d + 1) 129 (50, [l0, l1, l2, l3, l4, l5], [.int i4, .int i3, .int i2, .ref k1, .ref k0], h) Q = (okp h k1 6 = true ∧ Tr sc d 69 (ent0 69 [.ref k1, .int i2, .int i3, .int i4] h) (fun z => Tr sc (d + 1) 129 (53, [l0, l1, l2, l3, l4, l5], z.1.toList ++ [.ref k0], z.2) Q)) := t_cv (as := [.int i2, .int i3, .int i4]) (r := [.ref k0]) k_129_50 rfl rfl (Nat.le_of_ble_eq_true rfl) (Nat.le_of_ble_eq_true rfl) (Nat.le_of_ble_eq_true rfl)
theorem k_129_53 : lk 129 53 = some (.putfield 101, 56, 9, 16, .long 0) := by decide +kernel
theorem x_129_53 : Tr sc d 129 (53, [l0, l1, l2, l3, l4, l5], [.long j1, .ref k0], h) Q = (okp h k0 9 = true ∧ Tr sc d 129 (56, [l0, l1, l2, l3, l4, l5], [], (sL h k0 16 j1)) Q) := t_gd k_129_53 rfl
theorem k_129_56 : lk 129 56 = some (.iconst 1, 57, 0, 0, .int 1) := by decide +kernel
theorem x_129_56 : Tr sc d 129 (56, [l0, l1, l2, l3, l4, l5], [], h) Q = Tr sc d 129 (57, [l0, l1, l2, l3, l4, l5], [.int 1], h) Q := t_go k_129_56 rfl
theorem k_129_57 : lk 129 57 = some (.ireturn, 58, 0, 0, .null) := by decide +kernel
theorem x_129_57 : Tr sc d 129 (57, [l0, l1, l2, l3, l4, l5], [.int i0], h) Q = Q (some (.int i0), h) := t_ret k_129_57 (by rw [r_129]; rfl)
theorem e_129 : Tr sc d 129 (ent0 129 [.ref k0, .int i1, .int i2, .int i3, .int i4] h) Q = Tr sc d 129 (0, [some (.ref k0), some (.int i1), some (.int i2), some (.int i3), some (.int i4), none], [], h) Q := by
  have e : mL 129 = 6 := by decide +kernel
  unfold ent0
  rw [e]
  rfl
theorem r_130 : mR 130 = some .int := by decide +kernel
theorem k_130_0 : lk 130 0 = some (.aload_n 0, 1, 0, 0, .null) := by decide +kernel
theorem x_130_0 : Tr sc d 130 (0, [some (.ref xk), l1, l2, l3], [], h) Q = Tr sc d 130 (1, [some (.ref xk), l1, l2, l3], [.ref xk], h) Q := t_aload_n k_130_0 rfl
theorem k_130_1 : lk 130 1 = some (.iload_n 1, 2, 1, 0, .null) := by decide +kernel
theorem x_130_1 : Tr sc d 130 (1, [l0, some (.int x), l2, l3], [.ref k0], h) Q = Tr sc d 130 (2, [l0, some (.int x), l2, l3], [.int x, .ref k0], h) Q := t_iload_n k_130_1 rfl
theorem k_130_2 : lk 130 2 = some (.iload_n 2, 3, 2, 0, .null) := by decide +kernel
theorem x_130_2 : Tr sc d 130 (2, [l0, l1, some (.int x), l3], [.int i1, .ref k0], h) Q = Tr sc d 130 (3, [l0, l1, some (.int x), l3], [.int x, .int i1, .ref k0], h) Q := t_iload_n k_130_2 rfl
theorem k_130_3 : lk 130 3 = some (.iconst 3, 4, 0, 0, .int 3) := by decide +kernel
theorem x_130_3 : Tr sc d 130 (3, [l0, l1, l2, l3], [.int i2, .int i1, .ref k0], h) Q = Tr sc d 130 (4, [l0, l1, l2, l3], [.int 3, .int i2, .int i1, .ref k0], h) Q := t_go k_130_3 rfl
theorem k_130_4 : lk 130 4 = some (.invokestatic 270, 7, 144, 2, .null) := by decide +kernel
theorem x_130_4 : Tr sc (d + 1) 130 (4, [l0, l1, l2, l3], [.int i3, .int i2, .int i1, .ref k0], h) Q = Tr sc d 144 (ent0 144 [.int i2, .int i3] h) (fun z => Tr sc (d + 1) 130 (7, [l0, l1, l2, l3], z.1.toList ++ [.int i1, .ref k0], z.2) Q) := t_cs (as := [.int i2, .int i3]) (r := [.int i1, .ref k0]) k_130_4 (by decide) rfl rfl (Nat.le_of_ble_eq_true rfl) (Nat.le_of_ble_eq_true rfl)
theorem k_130_7 : lk 130 7 = some (.invokevirtual 196, 10, 146, 2, .null) := by decide +kernel
theorem x_130_7 : Tr sc (d + 1) 130 (7, [l0, l1, l2, l3], [.int i2, .int i1, .ref k0], h) Q = (okp h k0 9 = true ∧ Tr sc d 146 (ent0 146 [.ref k0, .int i1, .int i2] h) (fun z => Tr sc (d + 1) 130 (10, [l0, l1, l2, l3], z.1.toList ++ [], z.2) Q)) := t_cv (as := [.int i1, .int i2]) (r := []) k_130_7 rfl rfl (Nat.le_of_ble_eq_true rfl) (Nat.le_of_ble_eq_true rfl) (Nat.le_of_ble_eq_true rfl)
theorem k_130_10 : lk 130 10 = some (.istore_n 3, 11, 3, 0, .null) := by decide +kernel
theorem x_130_10 : Tr sc d 130 (10, [l0, l1, l2, l3], [.int i0], h) Q = Tr sc d 130 (11, [l0, l1, cl2 l2, some (.int i0)], [], h) Q := t_istore_n k_130_10 (Nat.le_of_ble_eq_true rfl)
theorem k_130_11 : lk 130 11 = some (.iload_n 3, 12, 3, 0, .null) := by decide +kernel
theorem x_130_11 : Tr sc d 130 (11, [l0, l1, l2, some (.int x)], [], h) Q = Tr sc d 130 (12, [l0, l1, l2, some (.int x)], [.int x], h) Q := t_iload_n k_130_11 rfl
theorem k_130_12 : lk 130 12 = some (.ifCond .eq 5, 15, 17, 0, .null) := by decide +kernel
theorem x_130_12 : Tr sc d 130 (12, [l0, l1, l2, l3], [.int i0], h) Q = if i0 = 0 then Tr sc d 130 (17, [l0, l1, l2, l3], [], h) Q else Tr sc d 130 (15, [l0, l1, l2, l3], [], h) Q := t_if k_130_12 rfl
theorem k_130_15 : lk 130 15 = some (.iload_n 3, 16, 3, 0, .null) := by decide +kernel
theorem x_130_15 : Tr sc d 130 (15, [l0, l1, l2, some (.int x)], [], h) Q = Tr sc d 130 (16, [l0, l1, l2, some (.int x)], [.int x], h) Q := t_iload_n k_130_15 rfl
theorem k_130_16 : lk 130 16 = some (.ireturn, 17, 0, 0, .null) := by decide +kernel
theorem x_130_16 : Tr sc d 130 (16, [l0, l1, l2, l3], [.int i0], h) Q = Q (some (.int i0), h) := t_ret k_130_16 (by rw [r_130]; rfl)
theorem k_130_17 : lk 130 17 = some (.aload_n 0, 18, 0, 0, .null) := by decide +kernel
theorem x_130_17 : Tr sc d 130 (17, [some (.ref xk), l1, l2, l3], [], h) Q = Tr sc d 130 (18, [some (.ref xk), l1, l2, l3], [.ref xk], h) Q := t_aload_n k_130_17 rfl
theorem k_130_18 : lk 130 18 = some (.getfield 51, 21, 9, 7, .null) := by decide +kernel
theorem x_130_18 : Tr sc d 130 (18, [l0, l1, l2, l3], [.ref k0], h) Q = (okp h k0 9 = true ∧ ∃ q, hR h k0 7 = some q ∧ Tr sc d 130 (21, [l0, l1, l2, l3], [.ref q], h) Q) := t_getr k_130_18
theorem k_130_21 : lk 130 21 = some (.aload_n 0, 22, 0, 0, .null) := by decide +kernel
theorem x_130_21 : Tr sc d 130 (21, [some (.ref xk), l1, l2, l3], [.ref k0], h) Q = Tr sc d 130 (22, [some (.ref xk), l1, l2, l3], [.ref xk, .ref k0], h) Q := t_aload_n k_130_21 rfl
theorem k_130_22 : lk 130 22 = some (.getfield 20, 25, 9, 2, .null) := by decide +kernel
theorem x_130_22 : Tr sc d 130 (22, [l0, l1, l2, l3], [.ref k1, .ref k0], h) Q = (okp h k1 9 = true ∧ ∃ q, hR h k1 2 = some q ∧ Tr sc d 130 (25, [l0, l1, l2, l3], [.ref q, .ref k0], h) Q) := t_getr k_130_22
theorem k_130_25 : lk 130 25 = some (.iload_n 1, 26, 1, 0, .null) := by decide +kernel
theorem x_130_25 : Tr sc d 130 (25, [l0, some (.int x), l2, l3], [.ref k1, .ref k0], h) Q = Tr sc d 130 (26, [l0, some (.int x), l2, l3], [.int x, .ref k1, .ref k0], h) Q := t_iload_n k_130_25 rfl
theorem k_130_26 : lk 130 26 = some (.aaload, 27, 0, 0, .null) := by decide +kernel
theorem x_130_26 : Tr sc d 130 (26, [l0, l1, l2, l3], [.int i2, .ref k1, .ref k0], h) Q = (((okp h k1 14 || okp h k1 15) && inb i2 (LN k1)) = true ∧ ∃ q, hR h k1 i2.toNatClampNeg = some q ∧ Tr sc d 130 (27, [l0, l1, l2, l3], [.ref q, .ref k0], h) Q) := t_aald k_130_26
theorem k_130_27 : lk 130 27 = some (.iload_n 2, 28, 2, 0, .null) := by decide +kernel
theorem x_130_27 : Tr sc d 130 (27, [l0, l1, some (.int x), l3], [.ref k1, .ref k0], h) Q = Tr sc d 130 (28, [l0, l1, some (.int x), l3], [.int x, .ref k1, .ref k0], h) Q := t_iload_n k_130_27 rfl
theorem k_130_28 : lk 130 28 = some (.invokevirtual 273, 31, 10, 2, .null) := by decide +kernel
theorem x_130_28 : Tr sc (d + 1) 130 (28, [l0, l1, l2, l3], [.int i2, .ref k1, .ref k0], h) Q = (okp h k0 1 = true ∧ Tr sc d 10 (ent0 10 [.ref k0, .ref k1, .int i2] h) (fun z => Tr sc (d + 1) 130 (31, [l0, l1, l2, l3], z.1.toList ++ [], z.2) Q)) := t_cv (as := [.ref k1, .int i2]) (r := []) k_130_28 rfl rfl (Nat.le_of_ble_eq_true rfl) (Nat.le_of_ble_eq_true rfl) (Nat.le_of_ble_eq_true rfl)
theorem k_130_31 : lk 130 31 = some (.aload_n 0, 32, 0, 0, .null) := by decide +kernel
theorem x_130_31 : Tr sc d 130 (31, [some (.ref xk), l1, l2, l3], [], h) Q = Tr sc d 130 (32, [some (.ref xk), l1, l2, l3], [.ref xk], h) Q := t_aload_n k_130_31 rfl
theorem k_130_32 : lk 130 32 = some (.getfield 51, 35, 9, 7, .null) := by decide +kernel
theorem x_130_32 : Tr sc d 130 (32, [l0, l1, l2, l3], [.ref k0], h) Q = (okp h k0 9 = true ∧ ∃ q, hR h k0 7 = some q ∧ Tr sc d 130 (35, [l0, l1, l2, l3], [.ref q], h) Q) := t_getr k_130_32
theorem k_130_35 : lk 130 35 = some (.getfield 280, 38, 1, 4, .int 0) := by decide +kernel
theorem x_130_35 : Tr sc d 130 (35, [l0, l1, l2, l3], [.ref k0], h) Q = (okp h k0 1 = true ∧ Tr sc d 130 (38, [l0, l1, l2, l3], [.int (hI h k0 4)], h) Q) := t_gd k_130_35 rfl
theorem k_130_38 : lk 130 38 = some (.ifCond .ne 5, 41, 43, 0, .null) := by decide +kernel
theorem x_130_38 : Tr sc d 130 (38, [l0, l1, l2, l3], [.int i0], h) Q = if i0 = 0 then Tr sc d 130 (41, [l0, l1, l2, l3], [], h) Q else Tr sc d 130 (43, [l0, l1, l2, l3], [], h) Q := t_if k_130_38 rfl
theorem k_130_41 : lk 130 41 = some (.iconst 0, 42, 0, 0, .int 0) := by decide +kernel
theorem x_130_41 : Tr sc d 130 (41, [l0, l1, l2, l3], [], h) Q = Tr sc d 130 (42, [l0, l1, l2, l3], [.int 0], h) Q := t_go k_130_41 rfl
theorem k_130_42 : lk 130 42 = some (.ireturn, 43, 0, 0, .null) := by decide +kernel
theorem x_130_42 : Tr sc d 130 (42, [l0, l1, l2, l3], [.int i0], h) Q = Q (some (.int i0), h) := t_ret k_130_42 (by rw [r_130]; rfl)
theorem k_130_43 : lk 130 43 = some (.aload_n 0, 44, 0, 0, .null) := by decide +kernel
theorem x_130_43 : Tr sc d 130 (43, [some (.ref xk), l1, l2, l3], [], h) Q = Tr sc d 130 (44, [some (.ref xk), l1, l2, l3], [.ref xk], h) Q := t_aload_n k_130_43 rfl
theorem k_130_44 : lk 130 44 = some (.getfield 86, 47, 9, 12, .null) := by decide +kernel
theorem x_130_44 : Tr sc d 130 (44, [l0, l1, l2, l3], [.ref k0], h) Q = (okp h k0 9 = true ∧ ∃ q, hR h k0 12 = some q ∧ Tr sc d 130 (47, [l0, l1, l2, l3], [.ref q], h) Q) := t_getr k_130_44
theorem k_130_47 : lk 130 47 = some (.aload_n 0, 48, 0, 0, .null) := by decide +kernel
theorem x_130_47 : Tr sc d 130 (47, [some (.ref xk), l1, l2, l3], [.ref k0], h) Q = Tr sc d 130 (48, [some (.ref xk), l1, l2, l3], [.ref xk, .ref k0], h) Q := t_aload_n k_130_47 rfl
theorem k_130_48 : lk 130 48 = some (.getfield 51, 51, 9, 7, .null) := by decide +kernel
theorem x_130_48 : Tr sc d 130 (48, [l0, l1, l2, l3], [.ref k1, .ref k0], h) Q = (okp h k1 9 = true ∧ ∃ q, hR h k1 7 = some q ∧ Tr sc d 130 (51, [l0, l1, l2, l3], [.ref q, .ref k0], h) Q) := t_getr k_130_48
theorem k_130_51 : lk 130 51 = some (.invokevirtual 351, 54, 31, 1, .null) := by decide +kernel
theorem x_130_51 : Tr sc (d + 1) 130 (51, [l0, l1, l2, l3], [.ref k1, .ref k0], h) Q = (okp h k0 3 = true ∧ Tr sc d 31 (ent0 31 [.ref k0, .ref k1] h) (fun z => Tr sc (d + 1) 130 (54, [l0, l1, l2, l3], z.1.toList ++ [], z.2) Q)) := t_cv (as := [.ref k1]) (r := []) k_130_51 rfl rfl (Nat.le_of_ble_eq_true rfl) (Nat.le_of_ble_eq_true rfl) (Nat.le_of_ble_eq_true rfl)
theorem k_130_54 : lk 130 54 = some (.ifCond .ne 6, 57, 60, 0, .null) := by decide +kernel
theorem x_130_54 : Tr sc d 130 (54, [l0, l1, l2, l3], [.int i0], h) Q = if i0 = 0 then Tr sc d 130 (57, [l0, l1, l2, l3], [], h) Q else Tr sc d 130 (60, [l0, l1, l2, l3], [], h) Q := t_if k_130_54 rfl
theorem k_130_57 : lk 130 57 = some (.bipush (-6), 59, 0, 0, .int (-6)) := by decide +kernel
theorem x_130_57 : Tr sc d 130 (57, [l0, l1, l2, l3], [], h) Q = Tr sc d 130 (59, [l0, l1, l2, l3], [.int (-6)], h) Q := t_go k_130_57 rfl
theorem k_130_59 : lk 130 59 = some (.ireturn, 60, 0, 0, .null) := by decide +kernel
theorem x_130_59 : Tr sc d 130 (59, [l0, l1, l2, l3], [.int i0], h) Q = Q (some (.int i0), h) := t_ret k_130_59 (by rw [r_130]; rfl)
theorem k_130_60 : lk 130 60 = some (.aload_n 0, 61, 0, 0, .null) := by decide +kernel
theorem x_130_60 : Tr sc d 130 (60, [some (.ref xk), l1, l2, l3], [], h) Q = Tr sc d 130 (61, [some (.ref xk), l1, l2, l3], [.ref xk], h) Q := t_aload_n k_130_60 rfl
theorem k_130_61 : lk 130 61 = some (.getfield 86, 64, 9, 12, .null) := by decide +kernel
theorem x_130_61 : Tr sc d 130 (61, [l0, l1, l2, l3], [.ref k0], h) Q = (okp h k0 9 = true ∧ ∃ q, hR h k0 12 = some q ∧ Tr sc d 130 (64, [l0, l1, l2, l3], [.ref q], h) Q) := t_getr k_130_61
theorem k_130_64 : lk 130 64 = some (.invokevirtual 355, 67, 32, 0, .null) := by decide +kernel
theorem x_130_64 : Tr sc (d + 1) 130 (64, [l0, l1, l2, l3], [.ref k0], h) Q = (okp h k0 3 = true ∧ Tr sc d 32 (ent0 32 [.ref k0] h) (fun z => Tr sc (d + 1) 130 (67, [l0, l1, l2, l3], z.1.toList ++ [], z.2) Q)) := t_cv (as := []) (r := []) k_130_64 rfl rfl (Nat.le_of_ble_eq_true rfl) (Nat.le_of_ble_eq_true rfl) (Nat.le_of_ble_eq_true rfl)
theorem k_130_67 : lk 130 67 = some (.ireturn, 68, 0, 0, .null) := by decide +kernel
theorem x_130_67 : Tr sc d 130 (67, [l0, l1, l2, l3], [.int i0], h) Q = Q (some (.int i0), h) := t_ret k_130_67 (by rw [r_130]; rfl)
theorem e_130 : Tr sc d 130 (ent0 130 [.ref k0, .int i1, .int i2] h) Q = Tr sc d 130 (0, [some (.ref k0), some (.int i1), some (.int i2), none], [], h) Q := by
  have e : mL 130 = 4 := by decide +kernel
  unfold ent0
  rw [e]
  rfl
theorem r_131 : mR 131 = some .int := by decide +kernel
theorem k_131_0 : lk 131 0 = some (.aload_n 0, 1, 0, 0, .null) := by decide +kernel
theorem x_131_0 : Tr sc d 131 (0, [some (.ref xk), l1, l2, l3, l4], [], h) Q = Tr sc d 131 (1, [some (.ref xk), l1, l2, l3, l4], [.ref xk], h) Q := t_aload_n k_131_0 rfl
theorem k_131_1 : lk 131 1 = some (.iload_n 1, 2, 1, 0, .null) := by decide +kernel
theorem x_131_1 : Tr sc d 131 (1, [l0, some (.int x), l2, l3, l4], [.ref k0], h) Q = Tr sc d 131 (2, [l0, some (.int x), l2, l3, l4], [.int x, .ref k0], h) Q := t_iload_n k_131_1 rfl
theorem k_131_2 : lk 131 2 = some (.iload_n 2, 3, 2, 0, .null) := by decide +kernel
theorem x_131_2 : Tr sc d 131 (2, [l0, l1, some (.int x), l3, l4], [.int i1, .ref k0], h) Q = Tr sc d 131 (3, [l0, l1, some (.int x), l3, l4], [.int x, .int i1, .ref k0], h) Q := t_iload_n k_131_2 rfl
theorem k_131_3 : lk 131 3 = some (.iconst 3, 4, 0, 0, .int 3) := by decide +kernel
theorem x_131_3 : Tr sc d 131 (3, [l0, l1, l2, l3, l4], [.int i2, .int i1, .ref k0], h) Q = Tr sc d 131 (4, [l0, l1, l2, l3, l4], [.int 3, .int i2, .int i1, .ref k0], h) Q := t_go k_131_3 rfl
theorem k_131_4 : lk 131 4 = some (.invokestatic 270, 7, 144, 2, .null) := by decide +kernel
theorem x_131_4 : Tr sc (d + 1) 131 (4, [l0, l1, l2, l3, l4], [.int i3, .int i2, .int i1, .ref k0], h) Q = Tr sc d 144 (ent0 144 [.int i2, .int i3] h) (fun z => Tr sc (d + 1) 131 (7, [l0, l1, l2, l3, l4], z.1.toList ++ [.int i1, .ref k0], z.2) Q) := t_cs (as := [.int i2, .int i3]) (r := [.int i1, .ref k0]) k_131_4 (by decide) rfl rfl (Nat.le_of_ble_eq_true rfl) (Nat.le_of_ble_eq_true rfl)
theorem k_131_7 : lk 131 7 = some (.invokevirtual 196, 10, 146, 2, .null) := by decide +kernel
theorem x_131_7 : Tr sc (d + 1) 131 (7, [l0, l1, l2, l3, l4], [.int i2, .int i1, .ref k0], h) Q = (okp h k0 9 = true ∧ Tr sc d 146 (ent0 146 [.ref k0, .int i1, .int i2] h) (fun z => Tr sc (d + 1) 131 (10, [l0, l1, l2, l3, l4], z.1.toList ++ [], z.2) Q)) := t_cv (as := [.int i1, .int i2]) (r := []) k_131_7 rfl rfl (Nat.le_of_ble_eq_true rfl) (Nat.le_of_ble_eq_true rfl) (Nat.le_of_ble_eq_true rfl)
theorem k_131_10 : lk 131 10 = some (.istore 4, 12, 4, 0, .null) := by decide +kernel
theorem x_131_10 : Tr sc d 131 (10, [l0, l1, l2, l3, l4], [.int i0], h) Q = Tr sc d 131 (12, [l0, l1, l2, cl2 l3, some (.int i0)], [], h) Q := t_istore k_131_10 (Nat.le_of_ble_eq_true rfl)
theorem k_131_12 : lk 131 12 = some (.iload 4, 14, 4, 0, .null) := by decide +kernel
theorem x_131_12 : Tr sc d 131 (12, [l0, l1, l2, l3, some (.int x)], [], h) Q = Tr sc d 131 (14, [l0, l1, l2, l3, some (.int x)], [.int x], h) Q := t_iload k_131_12 rfl
theorem k_131_14 : lk 131 14 = some (.ifCond .eq 6, 17, 20, 0, .null) := by decide +kernel
theorem x_131_14 : Tr sc d 131 (14, [l0, l1, l2, l3, l4], [.int i0], h) Q = if i0 = 0 then Tr sc d 131 (20, [l0, l1, l2, l3, l4], [], h) Q else Tr sc d 131 (17, [l0, l1, l2, l3, l4], [], h) Q := t_if k_131_14 rfl
theorem k_131_17 : lk 131 17 = some (.iload 4, 19, 4, 0, .null) := by decide +kernel
theorem x_131_17 : Tr sc d 131 (17, [l0, l1, l2, l3, some (.int x)], [], h) Q = Tr sc d 131 (19, [l0, l1, l2, l3, some (.int x)], [.int x], h) Q := t_iload k_131_17 rfl
theorem k_131_19 : lk 131 19 = some (.ireturn, 20, 0, 0, .null) := by decide +kernel
theorem x_131_19 : Tr sc d 131 (19, [l0, l1, l2, l3, l4], [.int i0], h) Q = Q (some (.int i0), h) := t_ret k_131_19 (by rw [r_131]; rfl)
theorem k_131_20 : lk 131 20 = some (.aload_n 0, 21, 0, 0, .null) := by decide +kernel
theorem x_131_20 : Tr sc d 131 (20, [some (.ref xk), l1, l2, l3, l4], [], h) Q = Tr sc d 131 (21, [some (.ref xk), l1, l2, l3, l4], [.ref xk], h) Q := t_aload_n k_131_20 rfl
theorem k_131_21 : lk 131 21 = some (.getfield 51, 24, 9, 7, .null) := by decide +kernel
theorem x_131_21 : Tr sc d 131 (21, [l0, l1, l2, l3, l4], [.ref k0], h) Q = (okp h k0 9 = true ∧ ∃ q, hR h k0 7 = some q ∧ Tr sc d 131 (24, [l0, l1, l2, l3, l4], [.ref q], h) Q) := t_getr k_131_21
theorem k_131_24 : lk 131 24 = some (.aload_n 0, 25, 0, 0, .null) := by decide +kernel
theorem x_131_24 : Tr sc d 131 (24, [some (.ref xk), l1, l2, l3, l4], [.ref k0], h) Q = Tr sc d 131 (25, [some (.ref xk), l1, l2, l3, l4], [.ref xk, .ref k0], h) Q := t_aload_n k_131_24 rfl
theorem k_131_25 : lk 131 25 = some (.getfield 20, 28, 9, 2, .null) := by decide +kernel
theorem x_131_25 : Tr sc d 131 (25, [l0, l1, l2, l3, l4], [.ref k1, .ref k0], h) Q = (okp h k1 9 = true ∧ ∃ q, hR h k1 2 = some q ∧ Tr sc d 131 (28, [l0, l1, l2, l3, l4], [.ref q, .ref k0], h) Q) := t_getr k_131_25
theorem k_131_28 : lk 131 28 = some (.iload_n 1, 29, 1, 0, .null) := by decide +kernel
theorem x_131_28 : Tr sc d 131 (28, [l0, some (.int x), l2, l3, l4], [.ref k1, .ref k0], h) Q = Tr sc d 131 (29, [l0, some (.int x), l2, l3, l4], [.int x, .ref k1, .ref k0], h) Q := t_iload_n k_131_28 rfl
theorem k_131_29 : lk 131 29 = some (.aaload, 30, 0, 0, .null) := by decide +kernel
theorem x_131_29 : Tr sc d 131 (29, [l0, l1, l2, l3, l4], [.int i2, .ref k1, .ref k0], h) Q = (((okp h k1 14 || okp h k1 15) && inb i2 (LN k1)) = true ∧ ∃ q, hR h k1 i2.toNatClampNeg = some q ∧ Tr sc d 131 (30, [l0, l1, l2, l3, l4], [.ref q, .ref k0], h) Q) := t_aald k_131_29
theorem k_131_30 : lk 131 30 = some (.iload_n 2, 31, 2, 0, .null) := by decide +kernel
theorem x_131_30 : Tr sc d 131 (30, [l0, l1, some (.int x), l3, l4], [.ref k1, .ref k0], h) Q = Tr sc d 131 (31, [l0, l1, some (.int x), l3, l4], [.int x, .ref k1, .ref k0], h) Q := t_iload_n k_131_30 rfl
theorem k_131_31 : lk 131 31 = some (.invokevirtual 273, 34, 10, 2, .null) := by decide +kernel
theorem x_131_31 : Tr sc (d + 1) 131 (31, [l0, l1, l2, l3, l4], [.int i2, .ref k1, .ref k0], h) Q = (okp h k0 1 = true ∧ Tr sc d 10 (ent0 10 [.ref k0, .ref k1, .int i2] h) (fun z => Tr sc (d + 1) 131 (34, [l0, l1, l2, l3, l4], z.1.toList ++ [], z.2) Q)) := t_cv (as := [.ref k1, .int i2]) (r := []) k_131_31 rfl rfl (Nat.le_of_ble_eq_true rfl) (Nat.le_of_ble_eq_true rfl) (Nat.le_of_ble_eq_true rfl)
theorem k_131_34 : lk 131 34 = some (.aload_n 0, 35, 0, 0, .null) := by decide +kernel
theorem x_131_34 : Tr sc d 131 (34, [some (.ref xk), l1, l2, l3, l4], [], h) Q = Tr sc d 131 (35, [some (.ref xk), l1, l2, l3, l4], [.ref xk], h) Q := t_aload_n k_131_34 rfl
theorem k_131_35 : lk 131 35 = some (.getfield 51, 38, 9, 7, .null) := by decide +kernel
theorem x_131_35 : Tr sc d 131 (35, [l0, l1, l2, l3, l4], [.ref k0], h) Q = (okp h k0 9 = true ∧ ∃ q, hR h k0 7 = some q ∧ Tr sc d 131 (38, [l0, l1, l2, l3, l4], [.ref q], h) Q) := t_getr k_131_35
theorem k_131_38 : lk 131 38 = some (.getfield 280, 41, 1, 4, .int 0) := by decide +kernel
theorem x_131_38 : Tr sc d 131 (38, [l0, l1, l2, l3, l4], [.ref k0], h) Q = (okp h k0 1 = true ∧ Tr sc d 131 (41, [l0, l1, l2, l3, l4], [.int (hI h k0 4)], h) Q) := t_gd k_131_38 rfl
theorem k_131_41 : lk 131 41 = some (.ifCond .ne 9, 44, 50, 0, .null) := by decide +kernel
theorem x_131_41 : Tr sc d 131 (41, [l0, l1, l2, l3, l4], [.int i0], h) Q = if i0 = 0 then Tr sc d 131 (44, [l0, l1, l2, l3, l4], [], h) Q else Tr sc d 131 (50, [l0, l1, l2, l3, l4], [], h) Q := t_if k_131_41 rfl
theorem k_131_44 : lk 131 44 = some (.aload_n 0, 45, 0, 0, .null) := by decide +kernel
theorem x_131_44 : Tr sc d 131 (44, [some (.ref xk), l1, l2, l3, l4], [], h) Q = Tr sc d 131 (45, [some (.ref xk), l1, l2, l3, l4], [.ref xk], h) Q := t_aload_n k_131_44 rfl
theorem k_131_45 : lk 131 45 = some (.iconst 4, 46, 0, 0, .int 4) := by decide +kernel
theorem x_131_45 : Tr sc d 131 (45, [l0, l1, l2, l3, l4], [.ref k0], h) Q = Tr sc d 131 (46, [l0, l1, l2, l3, l4], [.int 4, .ref k0], h) Q := t_go k_131_45 rfl
theorem k_131_46 : lk 131 46 = some (.invokevirtual 118, 49, 145, 1, .null) := by decide +kernel
theorem x_131_46 : Tr sc (d + 1) 131 (46, [l0, l1, l2, l3, l4], [.int i1, .ref k0], h) Q = (okp h k0 9 = true ∧ Tr sc d 145 (ent0 145 [.ref k0, .int i1] h) (fun z => Tr sc (d + 1) 131 (49, [l0, l1, l2, l3, l4], z.1.toList ++ [], z.2) Q)) := t_cv (as := [.int i1]) (r := []) k_131_46 rfl rfl (Nat.le_of_ble_eq_true rfl) (Nat.le_of_ble_eq_true rfl) (Nat.le_of_ble_eq_true rfl)
theorem k_131_49 : lk 131 49 = some (.ireturn, 50, 0, 0, .null) := by decide +kernel
theorem x_131_49 : Tr sc d 131 (49, [l0, l1, l2, l3, l4], [.int i0], h) Q = Q (some (.int i0), h) := t_ret k_131_49 (by rw [r_131]; rfl)
theorem k_131_50 : lk 131 50 = some (.iload_n 3, 51, 3, 0, .null) := by decide +kernel
theorem x_131_50 : Tr sc d 131 (50, [l0, l1, l2, some (.int x), l4], [], h) Q = Tr sc d 131 (51, [l0, l1, l2, some (.int x), l4], [.int x], h) Q := t_iload_n k_131_50 rfl
theorem k_131_51 : lk 131 51 = some (.ifCond .lt 22, 54, 73, 0, .null) := by decide +kernel
theorem x_131_51 : Tr sc d 131 (51, [l0, l1, l2, l3, l4], [.int i0], h) Q = if i0 < 0 then Tr sc d 131 (73, [l0, l1, l2, l3, l4], [], h) Q else Tr sc d 131 (54, [l0, l1, l2, l3, l4], [], h) Q := t_if k_131_51 rfl
theorem k_131_54 : lk 131 54 = some (.iload_n 3, 55, 3, 0, .null) := by decide +kernel
theorem x_131_54 : Tr sc d 131 (54, [l0, l1, l2, some (.int x), l4], [], h) Q = Tr sc d 131 (55, [l0, l1, l2, some (.int x), l4], [.int x], h) Q := t_iload_n k_131_54 rfl
theorem k_131_55 : lk 131 55 = some (.aload_n 0, 56, 0, 0, .null) := by decide +kernel
theorem x_131_55 : Tr sc d 131 (55, [some (.ref xk), l1, l2, l3, l4], [.int i0], h) Q = Tr sc d 131 (56, [some (.ref xk), l1, l2, l3, l4], [.ref xk, .int i0], h) Q := t_aload_n k_131_55 rfl
theorem k_131_56 : lk 131 56 = some (.getfield 51, 59, 9, 7, .null) := by decide +kernel
theorem x_131_56 : Tr sc d 131 (56, [l0, l1, l2, l3, l4], [.ref k1, .int i0], h) Q = (okp h k1 9 = true ∧ ∃ q, hR h k1 7 = some q ∧ Tr sc d 131 (59, [l0, l1, l2, l3, l4], [.ref q, .int i0], h) Q) := t_getr k_131_56
theorem k_131_59 : lk 131 59 = some (.getfield 297, 62, 1, 9, .int 0) := by decide +kernel
theorem x_131_59 : Tr sc d 131 (59, [l0, l1, l2, l3, l4], [.ref k1, .int i0], h) Q = (okp h k1 1 = true ∧ Tr sc d 131 (62, [l0, l1, l2, l3, l4], [.int (hI h k1 9), .int i0], h) Q) := t_gd k_131_59 rfl
theorem k_131_62 : lk 131 62 = some (.aload_n 0, 63, 0, 0, .null) := by decide +kernel
theorem x_131_62 : Tr sc d 131 (62, [some (.ref xk), l1, l2, l3, l4], [.int i1, .int i0], h) Q = Tr sc d 131 (63, [some (.ref xk), l1, l2, l3, l4], [.ref xk, .int i1, .int i0], h) Q := t_aload_n k_131_62 rfl
theorem k_131_63 : lk 131 63 = some (.getfield 51, 66, 9, 7, .null) := by decide +kernel
theorem x_131_63 : Tr sc d 131 (63, [l0, l1, l2, l3, l4], [.ref k2, .int i1, .int i0], h) Q = (okp h k2 9 = true ∧ ∃ q, hR h k2 7 = some q ∧ Tr sc d 131 (66, [l0, l1, l2, l3, l4], [.ref q, .int i1, .int i0], h) Q) := t_getr k_131_63
theorem k_131_66 : lk 131 66 = some (.getfield 294, 69, 1, 8, .int 0) := by decide +kernel
theorem x_131_66 : Tr sc d 131 (66, [l0, l1, l2, l3, l4], [.ref k2, .int i1, .int i0], h) Q = (okp h k2 1 = true ∧ Tr sc d 131 (69, [l0, l1, l2, l3, l4], [.int (hI h k2 8), .int i1, .int i0], h) Q) := t_gd k_131_66 rfl
theorem k_131_69 : lk 131 69 = some (.isub, 70, 0, 0, .null) := by decide +kernel
theorem x_131_69 : Tr sc d 131 (69, [l0, l1, l2, l3, l4], [.int i2, .int i1, .int i0], h) Q = Tr sc d 131 (70, [l0, l1, l2, l3, l4], [.int (i1 - i2), .int i0], h) Q := t_go k_131_69 rfl
theorem k_131_70 : lk 131 70 = some (.if_icmp .le 9, 73, 79, 0, .null) := by decide +kernel
theorem x_131_70 : Tr sc d 131 (70, [l0, l1, l2, l3, l4], [.int i1, .int i0], h) Q = if i0 ≤ i1 then Tr sc d 131 (79, [l0, l1, l2, l3, l4], [], h) Q else Tr sc d 131 (73, [l0, l1, l2, l3, l4], [], h) Q := t_if k_131_70 rfl
theorem k_131_73 : lk 131 73 = some (.aload_n 0, 74, 0, 0, .null) := by decide +kernel
theorem x_131_73 : Tr sc d 131 (73, [some (.ref xk), l1, l2, l3, l4], [], h) Q = Tr sc d 131 (74, [some (.ref xk), l1, l2, l3, l4], [.ref xk], h) Q := t_aload_n k_131_73 rfl
theorem k_131_74 : lk 131 74 = some (.iconst 2, 75, 0, 0, .int 2) := by decide +kernel
theorem x_131_74 : Tr sc d 131 (74, [l0, l1, l2, l3, l4], [.ref k0], h) Q = Tr sc d 131 (75, [l0, l1, l2, l3, l4], [.int 2, .ref k0], h) Q := t_go k_131_74 rfl
theorem k_131_75 : lk 131 75 = some (.invokevirtual 118, 78, 145, 1, .null) := by decide +kernel
theorem x_131_75 : Tr sc (d + 1) 131 (75, [l0, l1, l2, l3, l4], [.int i1, .ref k0], h) Q = (okp h k0 9 = true ∧ Tr sc d 145 (ent0 145 [.ref k0, .int i1] h) (fun z => Tr sc (d + 1) 131 (78, [l0, l1, l2, l3, l4], z.1.toList ++ [], z.2) Q)) := t_cv (as := [.int i1]) (r := []) k_131_75 rfl rfl (Nat.le_of_ble_eq_true rfl) (Nat.le_of_ble_eq_true rfl) (Nat.le_of_ble_eq_true rfl)
theorem k_131_78 : lk 131 78 = some (.ireturn, 79, 0, 0, .null) := by decide +kernel
theorem x_131_78 : Tr sc d 131 (78, [l0, l1, l2, l3, l4], [.int i0], h) Q = Q (some (.int i0), h) := t_ret k_131_78 (by rw [r_131]; rfl)
theorem k_131_79 : lk 131 79 = some (.aload_n 0, 80, 0, 0, .null) := by decide +kernel
theorem x_131_79 : Tr sc d 131 (79, [some (.ref xk), l1, l2, l3, l4], [], h) Q = Tr sc d 131 (80, [some (.ref xk), l1, l2, l3, l4], [.ref xk], h) Q := t_aload_n k_131_79 rfl
theorem k_131_80 : lk 131 80 = some (.getfield 51, 83, 9, 7, .null) := by decide +kernel
theorem x_131_80 : Tr sc d 131 (80, [l0, l1, l2, l3, l4], [.ref k0], h) Q = (okp h k0 9 = true ∧ ∃ q, hR h k0 7 = some q ∧ Tr sc d 131 (83, [l0, l1, l2, l3, l4], [.ref q], h) Q) := t_getr k_131_80
theorem k_131_83 : lk 131 83 = some (.getfield 291, 86, 1, 7, .int 0) := by decide +kernel
theorem x_131_83 : Tr sc d 131 (83, [l0, l1, l2, l3, l4], [.ref k0], h) Q = (okp h k0 1 = true ∧ Tr sc d 131 (86, [l0, l1, l2, l3, l4], [.int (hI h k0 7)], h) Q) := t_gd k_131_83 rfl
theorem k_131_86 : lk 131 86 = some (.aload_n 0, 87, 0, 0, .null) := by decide +kernel
theorem x_131_86 : Tr sc d 131 (86, [some (.ref xk), l1, l2, l3, l4], [.int i0], h) Q = Tr sc d 131 (87, [some (.ref xk), l1, l2, l3, l4], [.ref xk, .int i0], h) Q := t_aload_n k_131_86 rfl
theorem k_131_87 : lk 131 87 = some (.getfield 51, 90, 9, 7, .null) := by decide +kernel
theorem x_131_87 : Tr sc d 131 (87, [l0, l1, l2, l3, l4], [.ref k1, .int i0], h) Q = (okp h k1 9 = true ∧ ∃ q, hR h k1 7 = some q ∧ Tr sc d 131 (90, [l0, l1, l2, l3, l4], [.ref q, .int i0], h) Q) := t_getr k_131_87
theorem k_131_90 : lk 131 90 = some (.getfield 288, 93, 1, 6, .int 0) := by decide +kernel
theorem x_131_90 : Tr sc d 131 (90, [l0, l1, l2, l3, l4], [.ref k1, .int i0], h) Q = (okp h k1 1 = true ∧ Tr sc d 131 (93, [l0, l1, l2, l3, l4], [.int (hI h k1 6), .int i0], h) Q) := t_gd k_131_90 rfl
theorem k_131_93 : lk 131 93 = some (.isub, 94, 0, 0, .null) := by decide +kernel
theorem x_131_93 : Tr sc d 131 (93, [l0, l1, l2, l3, l4], [.int i1, .int i0], h) Q = Tr sc d 131 (94, [l0, l1, l2, l3, l4], [.int (i0 - i1)], h) Q := t_go k_131_93 rfl
theorem k_131_94 : lk 131 94 = some (.bipush 60, 96, 0, 0, .int 60) := by decide +kernel
theorem x_131_94 : Tr sc d 131 (94, [l0, l1, l2, l3, l4], [.int i0], h) Q = Tr sc d 131 (96, [l0, l1, l2, l3, l4], [.int 60, .int i0], h) Q := t_go k_131_94 rfl
theorem k_131_96 : lk 131 96 = some (.if_icmp .lt 6, 99, 102, 0, .null) := by decide +kernel
theorem x_131_96 : Tr sc d 131 (96, [l0, l1, l2, l3, l4], [.int i1, .int i0], h) Q = if i0 < i1 then Tr sc d 131 (102, [l0, l1, l2, l3, l4], [], h) Q else Tr sc d 131 (99, [l0, l1, l2, l3, l4], [], h) Q := t_if k_131_96 rfl
theorem k_131_99 : lk 131 99 = some (.bipush (-6), 101, 0, 0, .int (-6)) := by decide +kernel
theorem x_131_99 : Tr sc d 131 (99, [l0, l1, l2, l3, l4], [], h) Q = Tr sc d 131 (101, [l0, l1, l2, l3, l4], [.int (-6)], h) Q := t_go k_131_99 rfl
theorem k_131_101 : lk 131 101 = some (.ireturn, 102, 0, 0, .null) := by decide +kernel
theorem x_131_101 : Tr sc d 131 (101, [l0, l1, l2, l3, l4], [.int i0], h) Q = Q (some (.int i0), h) := t_ret k_131_101 (by rw [r_131]; rfl)
theorem k_131_102 : lk 131 102 = some (.aload_n 0, 103, 0, 0, .null) := by decide +kernel
theorem x_131_102 : Tr sc d 131 (102, [some (.ref xk), l1, l2, l3, l4], [], h) Q = Tr sc d 131 (103, [some (.ref xk), l1, l2, l3, l4], [.ref xk], h) Q := t_aload_n k_131_102 rfl
theorem k_131_103 : lk 131 103 = some (.aload_n 0, 104, 0, 0, .null) := by decide +kernel
theorem x_131_103 : Tr sc d 131 (103, [some (.ref xk), l1, l2, l3, l4], [.ref k0], h) Q = Tr sc d 131 (104, [some (.ref xk), l1, l2, l3, l4], [.ref xk, .ref k0], h) Q := t_aload_n k_131_103 rfl
theorem k_131_104 : lk 131 104 = some (.getfield 51, 107, 9, 7, .null) := by decide +kernel
theorem x_131_104 : Tr sc d 131 (104, [l0, l1, l2, l3, l4], [.ref k1, .ref k0], h) Q = (okp h k1 9 = true ∧ ∃ q, hR h k1 7 = some q ∧ Tr sc d 131 (107, [l0, l1, l2, l3, l4], [.ref q, .ref k0], h) Q) := t_getr k_131_104
theorem k_131_107 : lk 131 107 = some (.iload_n 3, 108, 3, 0, .null) := by decide +kernel
theorem x_131_107 : Tr sc d 131 (107, [l0, l1, l2, some (.int x), l4], [.ref k1, .ref k0], h) Q = Tr sc d 131 (108, [l0, l1, l2, some (.int x), l4], [.int x, .ref k1, .ref k0], h) Q := t_iload_n k_131_107 rfl
theorem k_131_108 : lk 131 108 = some (.invokevirtual 358, 111, 20, 1, .null) := by decide +kernel
theorem x_131_108 : Tr sc (d + 1) 131 (108, [l0, l1, l2, l3, l4], [.int i2, .ref k1, .ref k0], h) Q = (okp h k1 1 = true ∧ Tr sc d 20 (ent0 20 [.ref k1, .int i2] h) (fun z => Tr sc (d + 1) 131 (111, [l0, l1, l2, l3, l4], z.1.toList ++ [.ref k0], z.2) Q)) := t_cv (as := [.int i2]) (r := [.ref k0]) k_131_108 rfl rfl (Nat.le_of_ble_eq_true rfl) (Nat.le_of_ble_eq_true rfl) (Nat.le_of_ble_eq_true rfl)
theorem k_131_111 : lk 131 111 = some (.putfield 101, 114, 9, 16, .long 0) := by decide +kernel
theorem x_131_111 : Tr sc d 131 (111, [l0, l1, l2, l3, l4], [.long j1, .ref k0], h) Q = (okp h k0 9 = true ∧ Tr sc d 131 (114, [l0, l1, l2, l3, l4], [], (sL h k0 16 j1)) Q) := t_gd k_131_111 rfl
theorem k_131_114 : lk 131 114 = some (.aload_n 0, 115, 0, 0, .null) := by decide +kernel
theorem x_131_114 : Tr sc d 131 (114, [some (.ref xk), l1, l2, l3, l4], [], h) Q = Tr sc d 131 (115, [some (.ref xk), l1, l2, l3, l4], [.ref xk], h) Q := t_aload_n k_131_114 rfl
theorem k_131_115 : lk 131 115 = some (.getfield 101, 118, 9, 16, .long 0) := by decide +kernel
theorem x_131_115 : Tr sc d 131 (115, [l0, l1, l2, l3, l4], [.ref k0], h) Q = (okp h k0 9 = true ∧ Tr sc d 131 (118, [l0, l1, l2, l3, l4], [.long (hL h k0 16)], h) Q) := t_gd k_131_115 rfl
theorem k_131_118 : lk 131 118 = some (.invokestatic 361, 121, 253, 1, .null) := by decide +kernel
theorem x_131_118 : Tr sc (d + 1) 131 (118, [l0, l1, l2, l3, l4], [.long j0], h) Q = Tr sc d 253 (ent0 253 [.long j0] h) (fun z => Tr sc (d + 1) 131 (121, [l0, l1, l2, l3, l4], z.1.toList ++ [], z.2) Q) := t_cs (as := [.long j0]) (r := []) k_131_118 (by decide) rfl rfl (Nat.le_of_ble_eq_true rfl) (Nat.le_of_ble_eq_true rfl)
theorem k_131_121 : lk 131 121 = some (.ireturn, 122, 0, 0, .null) := by decide +kernel
theorem x_131_121 : Tr sc d 131 (121, [l0, l1, l2, l3, l4], [.int i0], h) Q = Q (some (.int i0), h) := t_ret k_131_121 (by rw [r_131]; rfl)
theorem e_131 : Tr sc d 131 (ent0 131 [.ref k0, .int i1, .int i2, .int i3] h) Q = Tr sc d 131 (0, [some (.ref k0), some (.int i1), some (.int i2), some (.int i3), none], [], h) Q := by
  have e : mL 131 = 5 := by decide +kernel
  unfold ent0
  rw [e]
  rfl
theorem r_132 : mR 132 = some .int := by decide +kernel
theorem k_132_0 : lk 132 0 = some (.iload_n 1, 1, 1, 0, .null) := by decide +kernel
theorem x_132_0 : Tr sc d 132 (0, [l0, some (.int x), l2, l3, l4, l5], [], h) Q = Tr sc d 132 (1, [l0, some (.int x), l2, l3, l4, l5], [.int x], h) Q := t_iload_n k_132_0 rfl
theorem k_132_1 : lk 132 1 = some (.invokestatic 159, 4, 143, 1, .null) := by decide +kernel
theorem x_132_1 : Tr sc (d + 1) 132 (1, [l0, l1, l2, l3, l4, l5], [.int i0], h) Q = Tr sc d 143 (ent0 143 [.int i0] h) (fun z => Tr sc (d + 1) 132 (4, [l0, l1, l2, l3, l4, l5], z.1.toList ++ [], z.2) Q) := t_cs (as := [.int i0]) (r := []) k_132_1 (by decide) rfl rfl (Nat.le_of_ble_eq_true rfl) (Nat.le_of_ble_eq_true rfl)
theorem k_132_4 : lk 132 4 = some (.ifCond .eq 18, 7, 22, 0, .null) := by decide +kernel
theorem x_132_4 : Tr sc d 132 (4, [l0, l1, l2, l3, l4, l5], [.int i0], h) Q = if i0 = 0 then Tr sc d 132 (22, [l0, l1, l2, l3, l4, l5], [], h) Q else Tr sc d 132 (7, [l0, l1, l2, l3, l4, l5], [], h) Q := t_if k_132_4 rfl
theorem k_132_7 : lk 132 7 = some (.iload_n 2, 8, 2, 0, .null) := by decide +kernel
theorem x_132_7 : Tr sc d 132 (7, [l0, l1, some (.int x), l3, l4, l5], [], h) Q = Tr sc d 132 (8, [l0, l1, some (.int x), l3, l4, l5], [.int x], h) Q := t_iload_n k_132_7 rfl
theorem k_132_8 : lk 132 8 = some (.invokestatic 159, 11, 143, 1, .null) := by decide +kernel
theorem x_132_8 : Tr sc (d + 1) 132 (8, [l0, l1, l2, l3, l4, l5], [.int i0], h) Q = Tr sc d 143 (ent0 143 [.int i0] h) (fun z => Tr sc (d + 1) 132 (11, [l0, l1, l2, l3, l4, l5], z.1.toList ++ [], z.2) Q) := t_cs (as := [.int i0]) (r := []) k_132_8 (by decide) rfl rfl (Nat.le_of_ble_eq_true rfl) (Nat.le_of_ble_eq_true rfl)
theorem k_132_11 : lk 132 11 = some (.ifCond .eq 11, 14, 22, 0, .null) := by decide +kernel
theorem x_132_11 : Tr sc d 132 (11, [l0, l1, l2, l3, l4, l5], [.int i0], h) Q = if i0 = 0 then Tr sc d 132 (22, [l0, l1, l2, l3, l4, l5], [], h) Q else Tr sc d 132 (14, [l0, l1, l2, l3, l4, l5], [], h) Q := t_if k_132_11 rfl
theorem k_132_14 : lk 132 14 = some (.iload_n 3, 15, 3, 0, .null) := by decide +kernel
theorem x_132_14 : Tr sc d 132 (14, [l0, l1, l2, some (.int x), l4, l5], [], h) Q = Tr sc d 132 (15, [l0, l1, l2, some (.int x), l4, l5], [.int x], h) Q := t_iload_n k_132_14 rfl
theorem k_132_15 : lk 132 15 = some (.iconst 4, 16, 0, 0, .int 4) := by decide +kernel
theorem x_132_15 : Tr sc d 132 (15, [l0, l1, l2, l3, l4, l5], [.int i0], h) Q = Tr sc d 132 (16, [l0, l1, l2, l3, l4, l5], [.int 4, .int i0], h) Q := t_go k_132_15 rfl
theorem k_132_16 : lk 132 16 = some (.invokestatic 270, 19, 144, 2, .null) := by decide +kernel
theorem x_132_16 : Tr sc (d + 1) 132 (16, [l0, l1, l2, l3, l4, l5], [.int i1, .int i0], h) Q = Tr sc d 144 (ent0 144 [.int i0, .int i1] h) (fun z => Tr sc (d + 1) 132 (19, [l0, l1, l2, l3, l4, l5], z.1.toList ++ [], z.2) Q) := t_cs (as := [.int i0, .int i1]) (r := []) k_132_16 (by decide) rfl rfl (Nat.le_of_ble_eq_true rfl) (Nat.le_of_ble_eq_true rfl)
theorem k_132_19 : lk 132 19 = some (.ifCond .ne 5, 22, 24, 0, .null) := by decide +kernel
theorem x_132_19 : Tr sc d 132 (19, [l0, l1, l2, l3, l4, l5], [.int i0], h) Q = if i0 = 0 then Tr sc d 132 (22, [l0, l1, l2, l3, l4, l5], [], h) Q else Tr sc d 132 (24, [l0, l1, l2, l3, l4, l5], [], h) Q := t_if k_132_19 rfl
theorem k_132_22 : lk 132 22 = some (.iconst (-1), 23, 0, 0, .int (-1)) := by decide +kernel
theorem x_132_22 : Tr sc d 132 (22, [l0, l1, l2, l3, l4, l5], [], h) Q = Tr sc d 132 (23, [l0, l1, l2, l3, l4, l5], [.int (-1)], h) Q := t_go k_132_22 rfl
theorem k_132_23 : lk 132 23 = some (.ireturn, 24, 0, 0, .null) := by decide +kernel
theorem x_132_23 : Tr sc d 132 (23, [l0, l1, l2, l3, l4, l5], [.int i0], h) Q = Q (some (.int i0), h) := t_ret k_132_23 (by rw [r_132]; rfl)
theorem k_132_24 : lk 132 24 = some (.aload_n 0, 25, 0, 0, .null) := by decide +kernel
theorem x_132_24 : Tr sc d 132 (24, [some (.ref xk), l1, l2, l3, l4, l5], [], h) Q = Tr sc d 132 (25, [some (.ref xk), l1, l2, l3, l4, l5], [.ref xk], h) Q := t_aload_n k_132_24 rfl
theorem k_132_25 : lk 132 25 = some (.getfield 20, 28, 9, 2, .null) := by decide +kernel
theorem x_132_25 : Tr sc d 132 (25, [l0, l1, l2, l3, l4, l5], [.ref k0], h) Q = (okp h k0 9 = true ∧ ∃ q, hR h k0 2 = some q ∧ Tr sc d 132 (28, [l0, l1, l2, l3, l4, l5], [.ref q], h) Q) := t_getr k_132_25
theorem k_132_28 : lk 132 28 = some (.iload_n 1, 29, 1, 0, .null) := by decide +kernel
theorem x_132_28 : Tr sc d 132 (28, [l0, some (.int x), l2, l3, l4, l5], [.ref k0], h) Q = Tr sc d 132 (29, [l0, some (.int x), l2, l3, l4, l5], [.int x, .ref k0], h) Q := t_iload_n k_132_28 rfl
theorem k_132_29 : lk 132 29 = some (.aaload, 30, 0, 0, .null) := by decide +kernel
theorem x_132_29 : Tr sc d 132 (29, [l0, l1, l2, l3, l4, l5], [.int i1, .ref k0], h) Q = (((okp h k0 14 || okp h k0 15) && inb i1 (LN k0)) = true ∧ ∃ q, hR h k0 i1.toNatClampNeg = some q ∧ Tr sc d 132 (30, [l0, l1, l2, l3, l4, l5], [.ref q], h) Q) := t_aald k_132_29
theorem k_132_30 : lk 132 30 = some (.invokevirtual 366, 33, 48, 0, .null) := by decide +kernel
theorem x_132_30 : Tr sc (d + 1) 132 (30, [l0, l1, l2, l3, l4, l5], [.ref k0], h) Q = (okp h k0 6 = true ∧ Tr sc d 48 (ent0 48 [.ref k0] h) (fun z => Tr sc (d + 1) 132 (33, [l0, l1, l2, l3, l4, l5], z.1.toList ++ [], z.2) Q)) := t_cv (as := []) (r := []) k_132_30 rfl rfl (Nat.le_of_ble_eq_true rfl) (Nat.le_of_ble_eq_true rfl) (Nat.le_of_ble_eq_true rfl)
theorem k_132_33 : lk 132 33 = some (.ifCond .ne 15, 36, 48, 0, .null) := by decide +kernel
theorem x_132_33 : Tr sc d 132 (33, [l0, l1, l2, l3, l4, l5], [.int i0], h) Q = if i0 = 0 then Tr sc d 132 (36, [l0, l1, l2, l3, l4, l5], [], h) Q else Tr sc d 132 (48, [l0, l1, l2, l3, l4, l5], [], h) Q := t_if k_132_33 rfl
theorem k_132_36 : lk 132 36 = some (.aload_n 0, 37, 0, 0, .null) := by decide +kernel
theorem x_132_36 : Tr sc d 132 (36, [some (.ref xk), l1, l2, l3, l4, l5], [], h) Q = Tr sc d 132 (37, [some (.ref xk), l1, l2, l3, l4, l5], [.ref xk], h) Q := t_aload_n k_132_36 rfl
theorem k_132_37 : lk 132 37 = some (.getfield 20, 40, 9, 2, .null) := by decide +kernel
theorem x_132_37 : Tr sc d 132 (37, [l0, l1, l2, l3, l4, l5], [.ref k0], h) Q = (okp h k0 9 = true ∧ ∃ q, hR h k0 2 = some q ∧ Tr sc d 132 (40, [l0, l1, l2, l3, l4, l5], [.ref q], h) Q) := t_getr k_132_37
theorem k_132_40 : lk 132 40 = some (.iload_n 2, 41, 2, 0, .null) := by decide +kernel
theorem x_132_40 : Tr sc d 132 (40, [l0, l1, some (.int x), l3, l4, l5], [.ref k0], h) Q = Tr sc d 132 (41, [l0, l1, some (.int x), l3, l4, l5], [.int x, .ref k0], h) Q := t_iload_n k_132_40 rfl
theorem k_132_41 : lk 132 41 = some (.aaload, 42, 0, 0, .null) := by decide +kernel
theorem x_132_41 : Tr sc d 132 (41, [l0, l1, l2, l3, l4, l5], [.int i1, .ref k0], h) Q = (((okp h k0 14 || okp h k0 15) && inb i1 (LN k0)) = true ∧ ∃ q, hR h k0 i1.toNatClampNeg = some q ∧ Tr sc d 132 (42, [l0, l1, l2, l3, l4, l5], [.ref q], h) Q) := t_aald k_132_41
theorem k_132_42 : lk 132 42 = some (.invokevirtual 366, 45, 48, 0, .null) := by decide +kernel
theorem x_132_42 : Tr sc (d + 1) 132 (42, [l0, l1, l2, l3, l4, l5], [.ref k0], h) Q = (okp h k0 6 = true ∧ Tr sc d 48 (ent0 48 [.ref k0] h) (fun z => Tr sc (d + 1) 132 (45, [l0, l1, l2, l3, l4, l5], z.1.toList ++ [], z.2) Q)) := t_cv (as := []) (r := []) k_132_42 rfl rfl (Nat.le_of_ble_eq_true rfl) (Nat.le_of_ble_eq_true rfl) (Nat.le_of_ble_eq_true rfl)
theorem k_132_45 : lk 132 45 = some (.ifCond .eq 9, 48, 54, 0, .null) := by decide +kernel
theorem x_132_45 : Tr sc d 132 (45, [l0, l1, l2, l3, l4, l5], [.int i0], h) Q = if i0 = 0 then Tr sc d 132 (54, [l0, l1, l2, l3, l4, l5], [], h) Q else Tr sc d 132 (48, [l0, l1, l2, l3, l4, l5], [], h) Q := t_if k_132_45 rfl
theorem k_132_48 : lk 132 48 = some (.aload_n 0, 49, 0, 0, .null) := by decide +kernel
theorem x_132_48 : Tr sc d 132 (48, [some (.ref xk), l1, l2, l3, l4, l5], [], h) Q = Tr sc d 132 (49, [some (.ref xk), l1, l2, l3, l4, l5], [.ref xk], h) Q := t_aload_n k_132_48 rfl
theorem k_132_49 : lk 132 49 = some (.iconst 1, 50, 0, 0, .int 1) := by decide +kernel
theorem x_132_49 : Tr sc d 132 (49, [l0, l1, l2, l3, l4, l5], [.ref k0], h) Q = Tr sc d 132 (50, [l0, l1, l2, l3, l4, l5], [.int 1, .ref k0], h) Q := t_go k_132_49 rfl
theorem k_132_50 : lk 132 50 = some (.invokevirtual 118, 53, 145, 1, .null) := by decide +kernel
theorem x_132_50 : Tr sc (d + 1) 132 (50, [l0, l1, l2, l3, l4, l5], [.int i1, .ref k0], h) Q = (okp h k0 9 = true ∧ Tr sc d 145 (ent0 145 [.ref k0, .int i1] h) (fun z => Tr sc (d + 1) 132 (53, [l0, l1, l2, l3, l4, l5], z.1.toList ++ [], z.2) Q)) := t_cv (as := [.int i1]) (r := []) k_132_50 rfl rfl (Nat.le_of_ble_eq_true rfl) (Nat.le_of_ble_eq_true rfl) (Nat.le_of_ble_eq_true rfl)
theorem k_132_53 : lk 132 53 = some (.ireturn, 54, 0, 0, .null) := by decide +kernel
theorem x_132_53 : Tr sc d 132 (53, [l0, l1, l2, l3, l4, l5], [.int i0], h) Q = Q (some (.int i0), h) := t_ret k_132_53 (by rw [r_132]; rfl)
theorem k_132_54 : lk 132 54 = some (.aload_n 0, 55, 0, 0, .null) := by decide +kernel
theorem x_132_54 : Tr sc d 132 (54, [some (.ref xk), l1, l2, l3, l4, l5], [], h) Q = Tr sc d 132 (55, [some (.ref xk), l1, l2, l3, l4, l5], [.ref xk], h) Q := t_aload_n k_132_54 rfl
theorem k_132_55 : lk 132 55 = some (.getfield 51, 58, 9, 7, .null) := by decide +kernel
theorem x_132_55 : Tr sc d 132 (55, [l0, l1, l2, l3, l4, l5], [.ref k0], h) Q = (okp h k0 9 = true ∧ ∃ q, hR h k0 7 = some q ∧ Tr sc d 132 (58, [l0, l1, l2, l3, l4, l5], [.ref q], h) Q) := t_getr k_132_55
theorem k_132_58 : lk 132 58 = some (.aload_n 0, 59, 0, 0, .null) := by decide +kernel
theorem x_132_58 : Tr sc d 132 (58, [some (.ref xk), l1, l2, l3, l4, l5], [.ref k0], h) Q = Tr sc d 132 (59, [some (.ref xk), l1, l2, l3, l4, l5], [.ref xk, .ref k0], h) Q := t_aload_n k_132_58 rfl
theorem k_132_59 : lk 132 59 = some (.getfield 20, 62, 9, 2, .null) := by decide +kernel
theorem x_132_59 : Tr sc d 132 (59, [l0, l1, l2, l3, l4, l5], [.ref k1, .ref k0], h) Q = (okp h k1 9 = true ∧ ∃ q, hR h k1 2 = some q ∧ Tr sc d 132 (62, [l0, l1, l2, l3, l4, l5], [.ref q, .ref k0], h) Q) := t_getr k_132_59
theorem k_132_62 : lk 132 62 = some (.iload_n 1, 63, 1, 0, .null) := by decide +kernel
theorem x_132_62 : Tr sc d 132 (62, [l0, some (.int x), l2, l3, l4, l5], [.ref k1, .ref k0], h) Q = Tr sc d 132 (63, [l0, some (.int x), l2, l3, l4, l5], [.int x, .ref k1, .ref k0], h) Q := t_iload_n k_132_62 rfl
theorem k_132_63 : lk 132 63 = some (.aaload, 64, 0, 0, .null) := by decide +kernel
theorem x_132_63 : Tr sc d 132 (63, [l0, l1, l2, l3, l4, l5], [.int i2, .ref k1, .ref k0], h) Q = (((okp h k1 14 || okp h k1 15) && inb i2 (LN k1)) = true ∧ ∃ q, hR h k1 i2.toNatClampNeg = some q ∧ Tr sc d 132 (64, [l0, l1, l2, l3, l4, l5], [.ref q, .ref k0], h) Q) := t_aald k_132_63
theorem k_132_64 : lk 132 64 = some (.iload_n 3, 65, 3, 0, .null) := by decide +kernel
theorem x_132_64 : Tr sc d 132 (64, [l0, l1, l2, some (.int x), l4, l5], [.ref k1, .ref k0], h) Q = Tr sc d 132 (65, [l0, l1, l2, some (.int x), l4, l5], [.int x, .ref k1, .ref k0], h) Q := t_iload_n k_132_64 rfl
theorem k_132_65 : lk 132 65 = some (.invokevirtual 273, 68, 10, 2, .null) := by decide +kernel
theorem x_132_65 : Tr sc (d + 1) 132 (65, [l0, l1, l2, l3, l4, l5], [.int i2, .ref k1, .ref k0], h) Q = (okp h k0 1 = true ∧ Tr sc d 10 (ent0 10 [.ref k0, .ref k1, .int i2] h) (fun z => Tr sc (d + 1) 132 (68, [l0, l1, l2, l3, l4, l5], z.1.toList ++ [], z.2) Q)) := t_cv (as := [.ref k1, .int i2]) (r := []) k_132_65 rfl rfl (Nat.le_of_ble_eq_true rfl) (Nat.le_of_ble_eq_true rfl) (Nat.le_of_ble_eq_true rfl)
theorem k_132_68 : lk 132 68 = some (.aload_n 0, 69, 0, 0, .null) := by decide +kernel
theorem x_132_68 : Tr sc d 132 (68, [some (.ref xk), l1, l2, l3, l4, l5], [], h) Q = Tr sc d 132 (69, [some (.ref xk), l1, l2, l3, l4, l5], [.ref xk], h) Q := t_aload_n k_132_68 rfl
theorem k_132_69 : lk 132 69 = some (.getfield 55, 72, 9, 8, .null) := by decide +kernel
theorem x_132_69 : Tr sc d 132 (69, [l0, l1, l2, l3, l4, l5], [.ref k0], h) Q = (okp h k0 9 = true ∧ ∃ q, hR h k0 8 = some q ∧ Tr sc d 132 (72, [l0, l1, l2, l3, l4, l5], [.ref q], h) Q) := t_getr k_132_69
theorem k_132_72 : lk 132 72 = some (.aload_n 0, 73, 0, 0, .null) := by decide +kernel
theorem x_132_72 : Tr sc d 132 (72, [some (.ref xk), l1, l2, l3, l4, l5], [.ref k0], h) Q = Tr sc d 132 (73, [some (.ref xk), l1, l2, l3, l4, l5], [.ref xk, .ref k0], h) Q := t_aload_n k_132_72 rfl
theorem k_132_73 : lk 132 73 = some (.getfield 20, 76, 9, 2, .null) := by decide +kernel
theorem x_132_73 : Tr sc d 132 (73, [l0, l1, l2, l3, l4, l5], [.ref k1, .ref k0], h) Q = (okp h k1 9 = true ∧ ∃ q, hR h k1 2 = some q ∧ Tr sc d 132 (76, [l0, l1, l2, l3, l4, l5], [.ref q, .ref k0], h) Q) := t_getr k_132_73
theorem k_132_76 : lk 132 76 = some (.iload_n 2, 77, 2, 0, .null) := by decide +kernel
theorem x_132_76 : Tr sc d 132 (76, [l0, l1, some (.int x), l3, l4, l5], [.ref k1, .ref k0], h) Q = Tr sc d 132 (77, [l0, l1, some (.int x), l3, l4, l5], [.int x, .ref k1, .ref k0], h) Q := t_iload_n k_132_76 rfl
theorem k_132_77 : lk 132 77 = some (.aaload, 78, 0, 0, .null) := by decide +kernel
theorem x_132_77 : Tr sc d 132 (77, [l0, l1, l2, l3, l4, l5], [.int i2, .ref k1, .ref k0], h) Q = (((okp h k1 14 || okp h k1 15) && inb i2 (LN k1)) = true ∧ ∃ q, hR h k1 i2.toNatClampNeg = some q ∧ Tr sc d 132 (78, [l0, l1, l2, l3, l4, l5], [.ref q, .ref k0], h) Q) := t_aald k_132_77
theorem k_132_78 : lk 132 78 = some (.iload_n 3, 79, 3, 0, .null) := by decide +kernel
theorem x_132_78 : Tr sc d 132 (78, [l0, l1, l2, some (.int x), l4, l5], [.ref k1, .ref k0], h) Q = Tr sc d 132 (79, [l0, l1, l2, some (.int x), l4, l5], [.int x, .ref k1, .ref k0], h) Q := t_iload_n k_132_78 rfl
theorem k_132_79 : lk 132 79 = some (.invokevirtual 273, 82, 10, 2, .null) := by decide +kernel
theorem x_132_79 : Tr sc (d + 1) 132 (79, [l0, l1, l2, l3, l4, l5], [.int i2, .ref k1, .ref k0], h) Q = (okp h k0 1 = true ∧ Tr sc d 10 (ent0 10 [.ref k0, .ref k1, .int i2] h) (fun z => Tr sc (d + 1) 132 (82, [l0, l1, l2, l3, l4, l5], z.1.toList ++ [], z.2) Q)) := t_cv (as := [.ref k1, .int i2]) (r := []) k_132_79 rfl rfl (Nat.le_of_ble_eq_true rfl) (Nat.le_of_ble_eq_true rfl) (Nat.le_of_ble_eq_true rfl)
theorem k_132_82 : lk 132 82 = some (.aload_n 0, 83, 0, 0, .null) := by decide +kernel
theorem x_132_82 : Tr sc d 132 (82, [some (.ref xk), l1, l2, l3, l4, l5], [], h) Q = Tr sc d 132 (83, [some (.ref xk), l1, l2, l3, l4, l5], [.ref xk], h) Q := t_aload_n k_132_82 rfl
theorem k_132_83 : lk 132 83 = some (.getfield 51, 86, 9, 7, .null) := by decide +kernel
theorem x_132_83 : Tr sc d 132 (83, [l0, l1, l2, l3, l4, l5], [.ref k0], h) Q = (okp h k0 9 = true ∧ ∃ q, hR h k0 7 = some q ∧ Tr sc d 132 (86, [l0, l1, l2, l3, l4, l5], [.ref q], h) Q) := t_getr k_132_83
theorem k_132_86 : lk 132 86 = some (.getfield 280, 89, 1, 4, .int 0) := by decide +kernel
theorem x_132_86 : Tr sc d 132 (86, [l0, l1, l2, l3, l4, l5], [.ref k0], h) Q = (okp h k0 1 = true ∧ Tr sc d 132 (89, [l0, l1, l2, l3, l4, l5], [.int (hI h k0 4)], h) Q) := t_gd k_132_86 rfl
theorem k_132_89 : lk 132 89 = some (.aload_n 0, 90, 0, 0, .null) := by decide +kernel
theorem x_132_89 : Tr sc d 132 (89, [some (.ref xk), l1, l2, l3, l4, l5], [.int i0], h) Q = Tr sc d 132 (90, [some (.ref xk), l1, l2, l3, l4, l5], [.ref xk, .int i0], h) Q := t_aload_n k_132_89 rfl
theorem k_132_90 : lk 132 90 = some (.getfield 55, 93, 9, 8, .null) := by decide +kernel
theorem x_132_90 : Tr sc d 132 (90, [l0, l1, l2, l3, l4, l5], [.ref k1, .int i0], h) Q = (okp h k1 9 = true ∧ ∃ q, hR h k1 8 = some q ∧ Tr sc d 132 (93, [l0, l1, l2, l3, l4, l5], [.ref q, .int i0], h) Q) := t_getr k_132_90
theorem k_132_93 : lk 132 93 = some (.getfield 280, 96, 1, 4, .int 0) := by decide +kernel
theorem x_132_93 : Tr sc d 132 (93, [l0, l1, l2, l3, l4, l5], [.ref k1, .int i0], h) Q = (okp h k1 1 = true ∧ Tr sc d 132 (96, [l0, l1, l2, l3, l4, l5], [.int (hI h k1 4), .int i0], h) Q) := t_gd k_132_93 rfl
theorem k_132_96 : lk 132 96 = some (.if_icmp .eq 5, 99, 101, 0, .null) := by decide +kernel
theorem x_132_96 : Tr sc d 132 (96, [l0, l1, l2, l3, l4, l5], [.int i1, .int i0], h) Q = if i0 = i1 then Tr sc d 132 (101, [l0, l1, l2, l3, l4, l5], [], h) Q else Tr sc d 132 (99, [l0, l1, l2, l3, l4, l5], [], h) Q := t_if k_132_96 rfl
theorem k_132_99 : lk 132 99 = some (.iconst 0, 100, 0, 0, .int 0) := by decide +kernel
theorem x_132_99 : Tr sc d 132 (99, [l0, l1, l2, l3, l4, l5], [], h) Q = Tr sc d 132 (100, [l0, l1, l2, l3, l4, l5], [.int 0], h) Q := t_go k_132_99 rfl
theorem k_132_100 : lk 132 100 = some (.ireturn, 101, 0, 0, .null) := by decide +kernel
theorem x_132_100 : Tr sc d 132 (100, [l0, l1, l2, l3, l4, l5], [.int i0], h) Q = Q (some (.int i0), h) := t_ret k_132_100 (by rw [r_132]; rfl)
theorem k_132_101 : lk 132 101 = some (.aload_n 0, 102, 0, 0, .null) := by decide +kernel
theorem x_132_101 : Tr sc d 132 (101, [some (.ref xk), l1, l2, l3, l4, l5], [], h) Q = Tr sc d 132 (102, [some (.ref xk), l1, l2, l3, l4, l5], [.ref xk], h) Q := t_aload_n k_132_101 rfl
theorem k_132_102 : lk 132 102 = some (.getfield 51, 105, 9, 7, .null) := by decide +kernel
theorem x_132_102 : Tr sc d 132 (102, [l0, l1, l2, l3, l4, l5], [.ref k0], h) Q = (okp h k0 9 = true ∧ ∃ q, hR h k0 7 = some q ∧ Tr sc d 132 (105, [l0, l1, l2, l3, l4, l5], [.ref q], h) Q) := t_getr k_132_102
theorem k_132_105 : lk 132 105 = some (.getfield 280, 108, 1, 4, .int 0) := by decide +kernel
theorem x_132_105 : Tr sc d 132 (105, [l0, l1, l2, l3, l4, l5], [.ref k0], h) Q = (okp h k0 1 = true ∧ Tr sc d 132 (108, [l0, l1, l2, l3, l4, l5], [.int (hI h k0 4)], h) Q) := t_gd k_132_105 rfl
theorem k_132_108 : lk 132 108 = some (.ifCond .ne 10, 111, 118, 0, .null) := by decide +kernel
theorem x_132_108 : Tr sc d 132 (108, [l0, l1, l2, l3, l4, l5], [.int i0], h) Q = if i0 = 0 then Tr sc d 132 (111, [l0, l1, l2, l3, l4, l5], [], h) Q else Tr sc d 132 (118, [l0, l1, l2, l3, l4, l5], [], h) Q := t_if k_132_108 rfl
theorem k_132_111 : lk 132 111 = some (.aload_n 0, 112, 0, 0, .null) := by decide +kernel
theorem x_132_111 : Tr sc d 132 (111, [some (.ref xk), l1, l2, l3, l4, l5], [], h) Q = Tr sc d 132 (112, [some (.ref xk), l1, l2, l3, l4, l5], [.ref xk], h) Q := t_aload_n k_132_111 rfl
theorem k_132_112 : lk 132 112 = some (.iconst 0, 113, 0, 0, .int 0) := by decide +kernel
theorem x_132_112 : Tr sc d 132 (112, [l0, l1, l2, l3, l4, l5], [.ref k0], h) Q = Tr sc d 132 (113, [l0, l1, l2, l3, l4, l5], [.int 0, .ref k0], h) Q := t_go k_132_112 rfl
theorem k_132_113 : lk 132 113 = some (.putfield 98, 116, 9, 15, .int 0) := by decide +kernel
theorem x_132_113 : Tr sc d 132 (113, [l0, l1, l2, l3, l4, l5], [.int i1, .ref k0], h) Q = (okp h k0 9 = true ∧ Tr sc d 132 (116, [l0, l1, l2, l3, l4, l5], [], (sI h k0 15 i1)) Q) := t_gd k_132_113 rfl
theorem k_132_116 : lk 132 116 = some (.iconst 1, 117, 0, 0, .int 1) := by decide +kernel
theorem x_132_116 : Tr sc d 132 (116, [l0, l1, l2, l3, l4, l5], [], h) Q = Tr sc d 132 (117, [l0, l1, l2, l3, l4, l5], [.int 1], h) Q := t_go k_132_116 rfl
theorem k_132_117 : lk 132 117 = some (.ireturn, 118, 0, 0, .null) := by decide +kernel
theorem x_132_117 : Tr sc d 132 (117, [l0, l1, l2, l3, l4, l5], [.int i0], h) Q = Q (some (.int i0), h) := t_ret k_132_117 (by rw [r_132]; rfl)
theorem k_132_118 : lk 132 118 = some (.aload_n 0, 119, 0, 0, .null) := by decide +kernel
theorem x_132_118 : Tr sc d 132 (118, [some (.ref xk), l1, l2, l3, l4, l5], [], h) Q = Tr sc d 132 (119, [some (.ref xk), l1, l2, l3, l4, l5], [.ref xk], h) Q := t_aload_n k_132_118 rfl
theorem k_132_119 : lk 132 119 = some (.getfield 55, 122, 9, 8, .null) := by decide +kernel
theorem x_132_119 : Tr sc d 132 (119, [l0, l1, l2, l3, l4, l5], [.ref k0], h) Q = (okp h k0 9 = true ∧ ∃ q, hR h k0 8 = some q ∧ Tr sc d 132 (122, [l0, l1, l2, l3, l4, l5], [.ref q], h) Q) := t_getr k_132_119
theorem k_132_122 : lk 132 122 = some (.getfield 288, 125, 1, 6, .int 0) := by decide +kernel
theorem x_132_122 : Tr sc d 132 (122, [l0, l1, l2, l3, l4, l5], [.ref k0], h) Q = (okp h k0 1 = true ∧ Tr sc d 132 (125, [l0, l1, l2, l3, l4, l5], [.int (hI h k0 6)], h) Q) := t_gd k_132_122 rfl
theorem k_132_125 : lk 132 125 = some (.aload_n 0, 126, 0, 0, .null) := by decide +kernel
theorem x_132_125 : Tr sc d 132 (125, [some (.ref xk), l1, l2, l3, l4, l5], [.int i0], h) Q = Tr sc d 132 (126, [some (.ref xk), l1, l2, l3, l4, l5], [.ref xk, .int i0], h) Q := t_aload_n k_132_125 rfl
theorem k_132_126 : lk 132 126 = some (.getfield 51, 129, 9, 7, .null) := by decide +kernel
theorem x_132_126 : Tr sc d 132 (126, [l0, l1, l2, l3, l4, l5], [.ref k1, .int i0], h) Q = (okp h k1 9 = true ∧ ∃ q, hR h k1 7 = some q ∧ Tr sc d 132 (129, [l0, l1, l2, l3, l4, l5], [.ref q, .int i0], h) Q) := t_getr k_132_126
theorem k_132_129 : lk 132 129 = some (.getfield 288, 132, 1, 6, .int 0) := by decide +kernel
theorem x_132_129 : Tr sc d 132 (129, [l0, l1, l2, l3, l4, l5], [.ref k1, .int i0], h) Q = (okp h k1 1 = true ∧ Tr sc d 132 (132, [l0, l1, l2, l3, l4, l5], [.int (hI h k1 6), .int i0], h) Q) := t_gd k_132_129 rfl
theorem k_132_132 : lk 132 132 = some (.isub, 133, 0, 0, .null) := by decide +kernel
theorem x_132_132 : Tr sc d 132 (132, [l0, l1, l2, l3, l4, l5], [.int i1, .int i0], h) Q = Tr sc d 132 (133, [l0, l1, l2, l3, l4, l5], [.int (i0 - i1)], h) Q := t_go k_132_132 rfl
theorem k_132_133 : lk 132 133 = some (.istore 4, 135, 4, 0, .null) := by decide +kernel
theorem x_132_133 : Tr sc d 132 (133, [l0, l1, l2, l3, l4, l5], [.int i0], h) Q = Tr sc d 132 (135, [l0, l1, l2, cl2 l3, some (.int i0), l5], [], h) Q := t_istore k_132_133 (Nat.le_of_ble_eq_true rfl)
theorem k_132_135 : lk 132 135 = some (.aload_n 0, 136, 0, 0, .null) := by decide +kernel
theorem x_132_135 : Tr sc d 132 (135, [some (.ref xk), l1, l2, l3, l4, l5], [], h) Q = Tr sc d 132 (136, [some (.ref xk), l1, l2, l3, l4, l5], [.ref xk], h) Q := t_aload_n k_132_135 rfl
theorem k_132_136 : lk 132 136 = some (.getfield 55, 139, 9, 8, .null) := by decide +kernel
theorem x_132_136 : Tr sc d 132 (136, [l0, l1, l2, l3, l4, l5], [.ref k0], h) Q = (okp h k0 9 = true ∧ ∃ q, hR h k0 8 = some q ∧ Tr sc d 132 (139, [l0, l1, l2, l3, l4, l5], [.ref q], h) Q) := t_getr k_132_136
theorem k_132_139 : lk 132 139 = some (.getfield 294, 142, 1, 8, .int 0) := by decide +kernel
theorem x_132_139 : Tr sc d 132 (139, [l0, l1, l2, l3, l4, l5], [.ref k0], h) Q = (okp h k0 1 = true ∧ Tr sc d 132 (142, [l0, l1, l2, l3, l4, l5], [.int (hI h k0 8)], h) Q) := t_gd k_132_139 rfl
theorem k_132_142 : lk 132 142 = some (.aload_n 0, 143, 0, 0, .null) := by decide +kernel
theorem x_132_142 : Tr sc d 132 (142, [some (.ref xk), l1, l2, l3, l4, l5], [.int i0], h) Q = Tr sc d 132 (143, [some (.ref xk), l1, l2, l3, l4, l5], [.ref xk, .int i0], h) Q := t_aload_n k_132_142 rfl
theorem k_132_143 : lk 132 143 = some (.getfield 51, 146, 9, 7, .null) := by decide +kernel
theorem x_132_143 : Tr sc d 132 (143, [l0, l1, l2, l3, l4, l5], [.ref k1, .int i0], h) Q = (okp h k1 9 = true ∧ ∃ q, hR h k1 7 = some q ∧ Tr sc d 132 (146, [l0, l1, l2, l3, l4, l5], [.ref q, .int i0], h) Q) := t_getr k_132_143
theorem k_132_146 : lk 132 146 = some (.getfield 294, 149, 1, 8, .int 0) := by decide +kernel
theorem x_132_146 : Tr sc d 132 (146, [l0, l1, l2, l3, l4, l5], [.ref k1, .int i0], h) Q = (okp h k1 1 = true ∧ Tr sc d 132 (149, [l0, l1, l2, l3, l4, l5], [.int (hI h k1 8), .int i0], h) Q) := t_gd k_132_146 rfl
theorem k_132_149 : lk 132 149 = some (.isub, 150, 0, 0, .null) := by decide +kernel
theorem x_132_149 : Tr sc d 132 (149, [l0, l1, l2, l3, l4, l5], [.int i1, .int i0], h) Q = Tr sc d 132 (150, [l0, l1, l2, l3, l4, l5], [.int (i0 - i1)], h) Q := t_go k_132_149 rfl
theorem k_132_150 : lk 132 150 = some (.istore 5, 152, 5, 0, .null) := by decide +kernel
theorem x_132_150 : Tr sc d 132 (150, [l0, l1, l2, l3, l4, l5], [.int i0], h) Q = Tr sc d 132 (152, [l0, l1, l2, l3, cl2 l4, some (.int i0)], [], h) Q := t_istore k_132_150 (Nat.le_of_ble_eq_true rfl)
theorem k_132_152 : lk 132 152 = some (.aload_n 0, 153, 0, 0, .null) := by decide +kernel
theorem x_132_152 : Tr sc d 132 (152, [some (.ref xk), l1, l2, l3, l4, l5], [], h) Q = Tr sc d 132 (153, [some (.ref xk), l1, l2, l3, l4, l5], [.ref xk], h) Q := t_aload_n k_132_152 rfl
theorem k_132_153 : lk 132 153 = some (.getfield 51, 156, 9, 7, .null) := by decide +kernel
theorem x_132_153 : Tr sc d 132 (153, [l0, l1, l2, l3, l4, l5], [.ref k0], h) Q = (okp h k0 9 = true ∧ ∃ q, hR h k0 7 = some q ∧ Tr sc d 132 (156, [l0, l1, l2, l3, l4, l5], [.ref q], h) Q) := t_getr k_132_153
theorem k_132_156 : lk 132 156 = some (.aload_n 0, 157, 0, 0, .null) := by decide +kernel
theorem x_132_156 : Tr sc d 132 (156, [some (.ref xk), l1, l2, l3, l4, l5], [.ref k0], h) Q = Tr sc d 132 (157, [some (.ref xk), l1, l2, l3, l4, l5], [.ref xk, .ref k0], h) Q := t_aload_n k_132_156 rfl
theorem k_132_157 : lk 132 157 = some (.getfield 55, 160, 9, 8, .null) := by decide +kernel
theorem x_132_157 : Tr sc d 132 (157, [l0, l1, l2, l3, l4, l5], [.ref k1, .ref k0], h) Q = (okp h k1 9 = true ∧ ∃ q, hR h k1 8 = some q ∧ Tr sc d 132 (160, [l0, l1, l2, l3, l4, l5], [.ref q, .ref k0], h) Q) := t_getr k_132_157
theorem k_132_160 : lk 132 160 = some (.iload 4, 162, 4, 0, .null) := by decide +kernel
theorem x_132_160 : Tr sc d 132 (160, [l0, l1, l2, l3, some (.int x), l5], [.ref k1, .ref k0], h) Q = Tr sc d 132 (162, [l0, l1, l2, l3, some (.int x), l5], [.int x, .ref k1, .ref k0], h) Q := t_iload k_132_160 rfl
theorem k_132_162 : lk 132 162 = some (.iload 5, 164, 5, 0, .null) := by decide +kernel
theorem x_132_162 : Tr sc d 132 (162, [l0, l1, l2, l3, l4, some (.int x)], [.int i2, .ref k1, .ref k0], h) Q = Tr sc d 132 (164, [l0, l1, l2, l3, l4, some (.int x)], [.int x, .int i2, .ref k1, .ref k0], h) Q := t_iload k_132_162 rfl
theorem k_132_164 : lk 132 164 = some (.invokevirtual 367, 167, 21, 3, .null) := by decide +kernel
theorem x_132_164 : Tr sc (d + 1) 132 (164, [l0, l1, l2, l3, l4, l5], [.int i3, .int i2, .ref k1, .ref k0], h) Q = (okp h k0 1 = true ∧ Tr sc d 21 (ent0 21 [.ref k0, .ref k1, .int i2, .int i3] h) (fun z => Tr sc (d + 1) 132 (167, [l0, l1, l2, l3, l4, l5], z.1.toList ++ [], z.2) Q)) := t_cv (as := [.ref k1, .int i2, .int i3]) (r := []) k_132_164 rfl rfl (Nat.le_of_ble_eq_true rfl) (Nat.le_of_ble_eq_true rfl) (Nat.le_of_ble_eq_true rfl)
theorem k_132_167 : lk 132 167 = some (.ifCond .ne 5, 170, 172, 0, .null) := by decide +kernel
theorem x_132_167 : Tr sc d 132 (167, [l0, l1, l2, l3, l4, l5], [.int i0], h) Q = if i0 = 0 then Tr sc d 132 (170, [l0, l1, l2, l3, l4, l5], [], h) Q else Tr sc d 132 (172, [l0, l1, l2, l3, l4, l5], [], h) Q := t_if k_132_167 rfl
theorem k_132_170 : lk 132 170 = some (.iconst 0, 171, 0, 0, .int 0) := by decide +kernel
theorem x_132_170 : Tr sc d 132 (170, [l0, l1, l2, l3, l4, l5], [], h) Q = Tr sc d 132 (171, [l0, l1, l2, l3, l4, l5], [.int 0], h) Q := t_go k_132_170 rfl
theorem k_132_171 : lk 132 171 = some (.ireturn, 172, 0, 0, .null) := by decide +kernel
theorem x_132_171 : Tr sc d 132 (171, [l0, l1, l2, l3, l4, l5], [.int i0], h) Q = Q (some (.int i0), h) := t_ret k_132_171 (by rw [r_132]; rfl)
theorem k_132_172 : lk 132 172 = some (.aload_n 0, 173, 0, 0, .null) := by decide +kernel
theorem x_132_172 : Tr sc d 132 (172, [some (.ref xk), l1, l2, l3, l4, l5], [], h) Q = Tr sc d 132 (173, [some (.ref xk), l1, l2, l3, l4, l5], [.ref xk], h) Q := t_aload_n k_132_172 rfl
theorem k_132_173 : lk 132 173 = some (.iload 4, 175, 4, 0, .null) := by decide +kernel
theorem x_132_173 : Tr sc d 132 (173, [l0, l1, l2, l3, some (.int x), l5], [.ref k0], h) Q = Tr sc d 132 (175, [l0, l1, l2, l3, some (.int x), l5], [.int x, .ref k0], h) Q := t_iload k_132_173 rfl
theorem k_132_175 : lk 132 175 = some (.putfield 98, 178, 9, 15, .int 0) := by decide +kernel
theorem x_132_175 : Tr sc d 132 (175, [l0, l1, l2, l3, l4, l5], [.int i1, .ref k0], h) Q = (okp h k0 9 = true ∧ Tr sc d 132 (178, [l0, l1, l2, l3, l4, l5], [], (sI h k0 15 i1)) Q) := t_gd k_132_175 rfl
theorem k_132_178 : lk 132 178 = some (.iconst 1, 179, 0, 0, .int 1) := by decide +kernel
theorem x_132_178 : Tr sc d 132 (178, [l0, l1, l2, l3, l4, l5], [], h) Q = Tr sc d 132 (179, [l0, l1, l2, l3, l4, l5], [.int 1], h) Q := t_go k_132_178 rfl
theorem k_132_179 : lk 132 179 = some (.ireturn, 180, 0, 0, .null) := by decide +kernel
theorem x_132_179 : Tr sc d 132 (179, [l0, l1, l2, l3, l4, l5], [.int i0], h) Q = Q (some (.int i0), h) := t_ret k_132_179 (by rw [r_132]; rfl)
theorem e_132 : Tr sc d 132 (ent0 132 [.ref k0, .int i1, .int i2, .int i3] h) Q = Tr sc d 132 (0, [some (.ref k0), some (.int i1), some (.int i2), some (.int i3), none, none], [], h) Q := by
  have e : mL 132 = 6 := by decide +kernel
  unfold ent0
  rw [e]
  rfl
theorem r_133 : mR 133 = some .long := by decide +kernel
theorem k_133_0 : lk 133 0 = some (.aload_n 0, 1, 0, 0, .null) := by decide +kernel
theorem x_133_0 : Tr sc d 133 (0, [some (.ref xk)], [], h) Q = Tr sc d 133 (1, [some (.ref xk)], [.ref xk], h) Q := t_aload_n k_133_0 rfl
theorem k_133_1 : lk 133 1 = some (.getfield 101, 4, 9, 16, .long 0) := by decide +kernel
theorem x_133_1 : Tr sc d 133 (1, [l0], [.ref k0], h) Q = (okp h k0 9 = true ∧ Tr sc d 133 (4, [l0], [.long (hL h k0 16)], h) Q) := t_gd k_133_1 rfl
theorem k_133_4 : lk 133 4 = some (.lreturn, 5, 0, 0, .null) := by decide +kernel
theorem x_133_4 : Tr sc d 133 (4, [l0], [.long j0], h) Q = Q (some (.long j0), h) := t_ret k_133_4 (by rw [r_133]; rfl)
theorem e_133 : Tr sc d 133 (ent0 133 [.ref k0] h) Q = Tr sc d 133 (0, [some (.ref k0)], [], h) Q := by
  have e : mL 133 = 1 := by decide +kernel
  unfold ent0
  rw [e]
  rfl
theorem r_134 : mR 134 = some .int := by decide +kernel
theorem k_134_0 : lk 134 0 = some (.aload_n 0, 1, 0, 0, .null) := by decide +kernel
theorem x_134_0 : Tr sc d 134 (0, [some (.ref xk)], [], h) Q = Tr sc d 134 (1, [some (.ref xk)], [.ref xk], h) Q := t_aload_n k_134_0 rfl
theorem k_134_1 : lk 134 1 = some (.getfield 98, 4, 9, 15, .int 0) := by decide +kernel
theorem x_134_1 : Tr sc d 134 (1, [l0], [.ref k0], h) Q = (okp h k0 9 = true ∧ Tr sc d 134 (4, [l0], [.int (hI h k0 15)], h) Q) := t_gd k_134_1 rfl
theorem k_134_4 : lk 134 4 = some (.ireturn, 5, 0, 0, .null) := by decide +kernel
theorem x_134_4 : Tr sc d 134 (4, [l0], [.int i0], h) Q = Q (some (.int i0), h) := t_ret k_134_4 (by rw [r_134]; rfl)
theorem e_134 : Tr sc d 134 (ent0 134 [.ref k0] h) Q = Tr sc d 134 (0, [some (.ref k0)], [], h) Q := by
  have e : mL 134 = 1 := by decide +kernel
  unfold ent0
  rw [e]
  rfl
theorem r_135 : mR 135 = some .long := by decide +kernel
theorem k_135_0 : lk 135 0 = some (.aload_n 0, 1, 0, 0, .null) := by decide +kernel
theorem x_135_0 : Tr sc d 135 (0, [some (.ref xk)], [], h) Q = Tr sc d 135 (1, [some (.ref xk)], [.ref xk], h) Q := t_aload_n k_135_0 rfl
theorem k_135_1 : lk 135 1 = some (.getfield 105, 4, 9, 17, .long 0) := by decide +kernel
theorem x_135_1 : Tr sc d 135 (1, [l0], [.ref k0], h) Q = (okp h k0 9 = true ∧ Tr sc d 135 (4, [l0], [.long (hL h k0 17)], h) Q) := t_gd k_135_1 rfl
theorem k_135_4 : lk 135 4 = some (.lreturn, 5, 0, 0, .null) := by decide +kernel
theorem x_135_4 : Tr sc d 135 (4, [l0], [.long j0], h) Q = Q (some (.long j0), h) := t_ret k_135_4 (by rw [r_135]; rfl)
theorem e_135 : Tr sc d 135 (ent0 135 [.ref k0] h) Q = Tr sc d 135 (0, [some (.ref k0)], [], h) Q := by
  have e : mL 135 = 1 := by decide +kernel
  unfold ent0
  rw [e]
  rfl
theorem r_136 : mR 136 = some .long := by decide +kernel
theorem k_136_0 : lk 136 0 = some (.aload_n 0, 1, 0, 0, .null) := by decide +kernel
theorem x_136_0 : Tr sc d 136 (0, [some (.ref xk)], [], h) Q = Tr sc d 136 (1, [some (.ref xk)], [.ref xk], h) Q := t_aload_n k_136_0 rfl
theorem k_136_1 : lk 136 1 = some (.getfield 108, 4, 9, 18, .long 0) := by decide +kernel
theorem x_136_1 : Tr sc d 136 (1, [l0], [.ref k0], h) Q = (okp h k0 9 = true ∧ Tr sc d 136 (4, [l0], [.long (hL h k0 18)], h) Q) := t_gd k_136_1 rfl
theorem k_136_4 : lk 136 4 = some (.lreturn, 5, 0, 0, .null) := by decide +kernel
theorem x_136_4 : Tr sc d 136 (4, [l0], [.long j0], h) Q = Q (some (.long j0), h) := t_ret k_136_4 (by rw [r_136]; rfl)
theorem e_136 : Tr sc d 136 (ent0 136 [.ref k0] h) Q = Tr sc d 136 (0, [some (.ref k0)], [], h) Q := by
  have e : mL 136 = 1 := by decide +kernel
  unfold ent0
  rw [e]
  rfl
theorem r_137 : mR 137 = some .int := by decide +kernel
theorem k_137_0 : lk 137 0 = some (.iload_n 1, 1, 1, 0, .null) := by decide +kernel
theorem x_137_0 : Tr sc d 137 (0, [l0, some (.int x), l2, l3], [], h) Q = Tr sc d 137 (1, [l0, some (.int x), l2, l3], [.int x], h) Q := t_iload_n k_137_0 rfl
theorem k_137_1 : lk 137 1 = some (.ifCond .lt 8, 4, 9, 0, .null) := by decide +kernel
theorem x_137_1 : Tr sc d 137 (1, [l0, l1, l2, l3], [.int i0], h) Q = if i0 < 0 then Tr sc d 137 (9, [l0, l1, l2, l3], [], h) Q else Tr sc d 137 (4, [l0, l1, l2, l3], [], h) Q := t_if k_137_1 rfl
theorem k_137_4 : lk 137 4 = some (.iload_n 1, 5, 1, 0, .null) := by decide +kernel
theorem x_137_4 : Tr sc d 137 (4, [l0, some (.int x), l2, l3], [], h) Q = Tr sc d 137 (5, [l0, some (.int x), l2, l3], [.int x], h) Q := t_iload_n k_137_4 rfl
theorem k_137_5 : lk 137 5 = some (.iconst 3, 6, 0, 0, .int 3) := by decide +kernel
theorem x_137_5 : Tr sc d 137 (5, [l0, l1, l2, l3], [.int i0], h) Q = Tr sc d 137 (6, [l0, l1, l2, l3], [.int 3, .int i0], h) Q := t_go k_137_5 rfl
theorem k_137_6 : lk 137 6 = some (.if_icmp .le 5, 9, 11, 0, .null) := by decide +kernel
theorem x_137_6 : Tr sc d 137 (6, [l0, l1, l2, l3], [.int i1, .int i0], h) Q = if i0 ≤ i1 then Tr sc d 137 (11, [l0, l1, l2, l3], [], h) Q else Tr sc d 137 (9, [l0, l1, l2, l3], [], h) Q := t_if k_137_6 rfl
theorem k_137_9 : lk 137 9 = some (.iconst (-1), 10, 0, 0, .int (-1)) := by decide +kernel
theorem x_137_9 : Tr sc d 137 (9, [l0, l1, l2, l3], [], h) Q = Tr sc d 137 (10, [l0, l1, l2, l3], [.int (-1)], h) Q := t_go k_137_9 rfl
theorem k_137_10 : lk 137 10 = some (.ireturn, 11, 0, 0, .null) := by decide +kernel
theorem x_137_10 : Tr sc d 137 (10, [l0, l1, l2, l3], [.int i0], h) Q = Q (some (.int i0), h) := t_ret k_137_10 (by rw [r_137]; rfl)
theorem k_137_11 : lk 137 11 = some (.iload_n 1, 12, 1, 0, .null) := by decide +kernel
theorem x_137_11 : Tr sc d 137 (11, [l0, some (.int x), l2, l3], [], h) Q = Tr sc d 137 (12, [l0, some (.int x), l2, l3], [.int x], h) Q := t_iload_n k_137_11 rfl
theorem k_137_12 : lk 137 12 = some (.ifCond .ne 11, 15, 23, 0, .null) := by decide +kernel
theorem x_137_12 : Tr sc d 137 (12, [l0, l1, l2, l3], [.int i0], h) Q = if i0 = 0 then Tr sc d 137 (15, [l0, l1, l2, l3], [], h) Q else Tr sc d 137 (23, [l0, l1, l2, l3], [], h) Q := t_if k_137_12 rfl
theorem k_137_15 : lk 137 15 = some (.aload_n 0, 16, 0, 0, .null) := by decide +kernel
theorem x_137_15 : Tr sc d 137 (15, [some (.ref xk), l1, l2, l3], [], h) Q = Tr sc d 137 (16, [some (.ref xk), l1, l2, l3], [.ref xk], h) Q := t_aload_n k_137_15 rfl
theorem k_137_16 : lk 137 16 = some (.getfield 11, 19, 9, 0, .null) := by decide +kernel
theorem x_137_16 : Tr sc d 137 (16, [l0, l1, l2, l3], [.ref k0], h) Q = (okp h k0 9 = true ∧ ∃ q, hR h k0 0 = some q ∧ Tr sc d 137 (19, [l0, l1, l2, l3], [.ref q], h) Q) := t_getr k_137_16
theorem k_137_19 : lk 137 19 = some (.invokestatic 371, 22, 153, 1, .null) := by decide +kernel
theorem x_137_19 : Tr sc (d + 1) 137 (19, [l0, l1, l2, l3], [.ref k0], h) Q = Tr sc d 153 (ent0 153 [.ref k0] h) (fun z => Tr sc (d + 1) 137 (22, [l0, l1, l2, l3], z.1.toList ++ [], z.2) Q) := t_cs (as := [.ref k0]) (r := []) k_137_19 (by decide) rfl rfl (Nat.le_of_ble_eq_true rfl) (Nat.le_of_ble_eq_true rfl)
theorem k_137_22 : lk 137 22 = some (.ireturn, 23, 0, 0, .null) := by decide +kernel
theorem x_137_22 : Tr sc d 137 (22, [l0, l1, l2, l3], [.int i0], h) Q = Q (some (.int i0), h) := t_ret k_137_22 (by rw [r_137]; rfl)
theorem k_137_23 : lk 137 23 = some (.iload_n 1, 24, 1, 0, .null) := by decide +kernel
theorem x_137_23 : Tr sc d 137 (23, [l0, some (.int x), l2, l3], [], h) Q = Tr sc d 137 (24, [l0, some (.int x), l2, l3], [.int x], h) Q := t_iload_n k_137_23 rfl
theorem k_137_24 : lk 137 24 = some (.iconst 1, 25, 0, 0, .int 1) := by decide +kernel
theorem x_137_24 : Tr sc d 137 (24, [l0, l1, l2, l3], [.int i0], h) Q = Tr sc d 137 (25, [l0, l1, l2, l3], [.int 1, .int i0], h) Q := t_go k_137_24 rfl
theorem k_137_25 : lk 137 25 = some (.if_icmp .ne 11, 28, 36, 0, .null) := by decide +kernel
theorem x_137_25 : Tr sc d 137 (25, [l0, l1, l2, l3], [.int i1, .int i0], h) Q = if i0 = i1 then Tr sc d 137 (28, [l0, l1, l2, l3], [], h) Q else Tr sc d 137 (36, [l0, l1, l2, l3], [], h) Q := t_if k_137_25 rfl
theorem k_137_28 : lk 137 28 = some (.aload_n 0, 29, 0, 0, .null) := by decide +kernel
theorem x_137_28 : Tr sc d 137 (28, [some (.ref xk), l1, l2, l3], [], h) Q = Tr sc d 137 (29, [some (.ref xk), l1, l2, l3], [.ref xk], h) Q := t_aload_n k_137_28 rfl
theorem k_137_29 : lk 137 29 = some (.getfield 15, 32, 9, 1, .null) := by decide +kernel
theorem x_137_29 : Tr sc d 137 (29, [l0, l1, l2, l3], [.ref k0], h) Q = (okp h k0 9 = true ∧ ∃ q, hR h k0 1 = some q ∧ Tr sc d 137 (32, [l0, l1, l2, l3], [.ref q], h) Q) := t_getr k_137_29
theorem k_137_32 : lk 137 32 = some (.invokestatic 371, 35, 153, 1, .null) := by decide +kernel
theorem x_137_32 : Tr sc (d + 1) 137 (32, [l0, l1, l2, l3], [.ref k0], h) Q = Tr sc d 153 (ent0 153 [.ref k0] h) (fun z => Tr sc (d + 1) 137 (35, [l0, l1, l2, l3], z.1.toList ++ [], z.2) Q) := t_cs (as := [.ref k0]) (r := []) k_137_32 (by decide) rfl rfl (Nat.le_of_ble_eq_true rfl) (Nat.le_of_ble_eq_true rfl)
theorem k_137_35 : lk 137 35 = some (.ireturn, 36, 0, 0, .null) := by decide +kernel
theorem x_137_35 : Tr sc d 137 (35, [l0, l1, l2, l3], [.int i0], h) Q = Q (some (.int i0), h) := t_ret k_137_35 (by rw [r_137]; rfl)
theorem k_137_36 : lk 137 36 = some (.iconst 0, 37, 0, 0, .int 0) := by decide +kernel
theorem x_137_36 : Tr sc d 137 (36, [l0, l1, l2, l3], [], h) Q = Tr sc d 137 (37, [l0, l1, l2, l3], [.int 0], h) Q := t_go k_137_36 rfl
theorem k_137_37 : lk 137 37 = some (.istore_n 2, 38, 2, 0, .null) := by decide +kernel
theorem x_137_37 : Tr sc d 137 (37, [l0, l1, l2, l3], [.int i0], h) Q = Tr sc d 137 (38, [l0, cl2 l1, some (.int i0), l3], [], h) Q := t_istore_n k_137_37 (Nat.le_of_ble_eq_true rfl)
theorem k_137_38 : lk 137 38 = some (.iconst 0, 39, 0, 0, .int 0) := by decide +kernel
theorem x_137_38 : Tr sc d 137 (38, [l0, l1, l2, l3], [], h) Q = Tr sc d 137 (39, [l0, l1, l2, l3], [.int 0], h) Q := t_go k_137_38 rfl
theorem k_137_39 : lk 137 39 = some (.istore_n 3, 40, 3, 0, .null) := by decide +kernel
theorem x_137_39 : Tr sc d 137 (39, [l0, l1, l2, l3], [.int i0], h) Q = Tr sc d 137 (40, [l0, l1, cl2 l2, some (.int i0)], [], h) Q := t_istore_n k_137_39 (Nat.le_of_ble_eq_true rfl)
theorem k_137_40 : lk 137 40 = some (.iload_n 3, 41, 3, 0, .null) := by decide +kernel
theorem x_137_40 : Tr sc d 137 (40, [l0, l1, l2, some (.int x)], [], h) Q = Tr sc d 137 (41, [l0, l1, l2, some (.int x)], [.int x], h) Q := t_iload_n k_137_40 rfl
theorem k_137_41 : lk 137 41 = some (.bipush 8, 43, 0, 0, .int 8) := by decide +kernel
theorem x_137_41 : Tr sc d 137 (41, [l0, l1, l2, l3], [.int i0], h) Q = Tr sc d 137 (43, [l0, l1, l2, l3], [.int 8, .int i0], h) Q := t_go k_137_41 rfl
theorem k_137_43 : lk 137 43 = some (.if_icmp .ge 44, 46, 87, 0, .null) := by decide +kernel
theorem x_137_43 : Tr sc d 137 (43, [l0, l1, l2, l3], [.int i1, .int i0], h) Q = if i1 ≤ i0 then Tr sc d 137 (87, [l0, l1, l2, l3], [], h) Q else Tr sc d 137 (46, [l0, l1, l2, l3], [], h) Q := t_if k_137_43 rfl
theorem k_137_46 : lk 137 46 = some (.iload_n 1, 47, 1, 0, .null) := by decide +kernel
theorem x_137_46 : Tr sc d 137 (46, [l0, some (.int x), l2, l3], [], h) Q = Tr sc d 137 (47, [l0, some (.int x), l2, l3], [.int x], h) Q := t_iload_n k_137_46 rfl
theorem k_137_47 : lk 137 47 = some (.iconst 2, 48, 0, 0, .int 2) := by decide +kernel
theorem x_137_47 : Tr sc d 137 (47, [l0, l1, l2, l3], [.int i0], h) Q = Tr sc d 137 (48, [l0, l1, l2, l3], [.int 2, .int i0], h) Q := t_go k_137_47 rfl
theorem k_137_48 : lk 137 48 = some (.if_icmp .ne 18, 51, 66, 0, .null) := by decide +kernel
theorem x_137_48 : Tr sc d 137 (48, [l0, l1, l2, l3], [.int i1, .int i0], h) Q = if i0 = i1 then Tr sc d 137 (51, [l0, l1, l2, l3], [], h) Q else Tr sc d 137 (66, [l0, l1, l2, l3], [], h) Q := t_if k_137_48 rfl
theorem k_137_51 : lk 137 51 = some (.aload_n 0, 52, 0, 0, .null) := by decide +kernel
theorem x_137_51 : Tr sc d 137 (51, [some (.ref xk), l1, l2, l3], [], h) Q = Tr sc d 137 (52, [some (.ref xk), l1, l2, l3], [.ref xk], h) Q := t_aload_n k_137_51 rfl
theorem k_137_52 : lk 137 52 = some (.getfield 20, 55, 9, 2, .null) := by decide +kernel
theorem x_137_52 : Tr sc d 137 (52, [l0, l1, l2, l3], [.ref k0], h) Q = (okp h k0 9 = true ∧ ∃ q, hR h k0 2 = some q ∧ Tr sc d 137 (55, [l0, l1, l2, l3], [.ref q], h) Q) := t_getr k_137_52
theorem k_137_55 : lk 137 55 = some (.iload_n 3, 56, 3, 0, .null) := by decide +kernel
theorem x_137_55 : Tr sc d 137 (55, [l0, l1, l2, some (.int x)], [.ref k0], h) Q = Tr sc d 137 (56, [l0, l1, l2, some (.int x)], [.int x, .ref k0], h) Q := t_iload_n k_137_55 rfl
theorem k_137_56 : lk 137 56 = some (.aaload, 57, 0, 0, .null) := by decide +kernel
theorem x_137_56 : Tr sc d 137 (56, [l0, l1, l2, l3], [.int i1, .ref k0], h) Q = (((okp h k0 14 || okp h k0 15) && inb i1 (LN k0)) = true ∧ ∃ q, hR h k0 i1.toNatClampNeg = some q ∧ Tr sc d 137 (57, [l0, l1, l2, l3], [.ref q], h) Q) := t_aald k_137_56
theorem k_137_57 : lk 137 57 = some (.invokevirtual 366, 60, 48, 0, .null) := by decide +kernel
theorem x_137_57 : Tr sc (d + 1) 137 (57, [l0, l1, l2, l3], [.ref k0], h) Q = (okp h k0 6 = true ∧ Tr sc d 48 (ent0 48 [.ref k0] h) (fun z => Tr sc (d + 1) 137 (60, [l0, l1, l2, l3], z.1.toList ++ [], z.2) Q)) := t_cv (as := []) (r := []) k_137_57 rfl rfl (Nat.le_of_ble_eq_true rfl) (Nat.le_of_ble_eq_true rfl) (Nat.le_of_ble_eq_true rfl)
theorem k_137_60 : lk 137 60 = some (.ifCond .ne 21, 63, 81, 0, .null) := by decide +kernel
theorem x_137_60 : Tr sc d 137 (60, [l0, l1, l2, l3], [.int i0], h) Q = if i0 = 0 then Tr sc d 137 (63, [l0, l1, l2, l3], [], h) Q else Tr sc d 137 (81, [l0, l1, l2, l3], [], h) Q := t_if k_137_60 rfl
theorem k_137_63 : lk 137 63 = some (.goto 15, 66, 78, 0, .null) := by decide +kernel
theorem x_137_63 : Tr sc d 137 (63, [l0, l1, l2, l3], [], h) Q = Tr sc d 137 (78, [l0, l1, l2, l3], [], h) Q := t_go k_137_63 rfl
theorem k_137_66 : lk 137 66 = some (.aload_n 0, 67, 0, 0, .null) := by decide +kernel
theorem x_137_66 : Tr sc d 137 (66, [some (.ref xk), l1, l2, l3], [], h) Q = Tr sc d 137 (67, [some (.ref xk), l1, l2, l3], [.ref xk], h) Q := t_aload_n k_137_66 rfl
theorem k_137_67 : lk 137 67 = some (.getfield 20, 70, 9, 2, .null) := by decide +kernel
theorem x_137_67 : Tr sc d 137 (67, [l0, l1, l2, l3], [.ref k0], h) Q = (okp h k0 9 = true ∧ ∃ q, hR h k0 2 = some q ∧ Tr sc d 137 (70, [l0, l1, l2, l3], [.ref q], h) Q) := t_getr k_137_67
theorem k_137_70 : lk 137 70 = some (.iload_n 3, 71, 3, 0, .null) := by decide +kernel
theorem x_137_70 : Tr sc d 137 (70, [l0, l1, l2, some (.int x)], [.ref k0], h) Q = Tr sc d 137 (71, [l0, l1, l2, some (.int x)], [.int x, .ref k0], h) Q := t_iload_n k_137_70 rfl
theorem k_137_71 : lk 137 71 = some (.aaload, 72, 0, 0, .null) := by decide +kernel
theorem x_137_71 : Tr sc d 137 (71, [l0, l1, l2, l3], [.int i1, .ref k0], h) Q = (((okp h k0 14 || okp h k0 15) && inb i1 (LN k0)) = true ∧ ∃ q, hR h k0 i1.toNatClampNeg = some q ∧ Tr sc d 137 (72, [l0, l1, l2, l3], [.ref q], h) Q) := t_aald k_137_71
theorem k_137_72 : lk 137 72 = some (.invokevirtual 218, 75, 49, 0, .null) := by decide +kernel
theorem x_137_72 : Tr sc (d + 1) 137 (72, [l0, l1, l2, l3], [.ref k0], h) Q = (okp h k0 6 = true ∧ Tr sc d 49 (ent0 49 [.ref k0] h) (fun z => Tr sc (d + 1) 137 (75, [l0, l1, l2, l3], z.1.toList ++ [], z.2) Q)) := t_cv (as := []) (r := []) k_137_72 rfl rfl (Nat.le_of_ble_eq_true rfl) (Nat.le_of_ble_eq_true rfl) (Nat.le_of_ble_eq_true rfl)
theorem k_137_75 : lk 137 75 = some (.ifCond .eq 6, 78, 81, 0, .null) := by decide +kernel
theorem x_137_75 : Tr sc d 137 (75, [l0, l1, l2, l3], [.int i0], h) Q = if i0 = 0 then Tr sc d 137 (81, [l0, l1, l2, l3], [], h) Q else Tr sc d 137 (78, [l0, l1, l2, l3], [], h) Q := t_if k_137_75 rfl
theorem k_137_78 : lk 137 78 = some (.iinc 2 1, 81, 2, 0, .int 1) := by decide +kernel
theorem x_137_78 : Tr sc d 137 (78, [l0, l1, some (.int x), l3], [], h) Q = Tr sc d 137 (81, [l0, cl2 l1, some (.int (x + 1)), l3], [], h) Q := t_inc k_137_78 rfl (Nat.le_of_ble_eq_true rfl)
theorem k_137_81 : lk 137 81 = some (.iinc 3 1, 84, 3, 0, .int 1) := by decide +kernel
theorem x_137_81 : Tr sc d 137 (81, [l0, l1, l2, some (.int x)], [], h) Q = Tr sc d 137 (84, [l0, l1, cl2 l2, some (.int (x + 1))], [], h) Q := t_inc k_137_81 rfl (Nat.le_of_ble_eq_true rfl)
theorem k_137_84 : lk 137 84 = some (.goto (-44), 87, 40, 0, .null) := by decide +kernel
theorem x_137_84 : Tr sc d 137 (84, [l0, l1, l2, l3], [], h) Q = Tr sc d 137 (40, [l0, l1, l2, l3], [], h) Q := t_go k_137_84 rfl
theorem k_137_87 : lk 137 87 = some (.iload_n 2, 88, 2, 0, .null) := by decide +kernel
theorem x_137_87 : Tr sc d 137 (87, [l0, l1, some (.int x), l3], [], h) Q = Tr sc d 137 (88, [l0, l1, some (.int x), l3], [.int x], h) Q := t_iload_n k_137_87 rfl
theorem k_137_88 : lk 137 88 = some (.ireturn, 89, 0, 0, .null) := by decide +kernel
theorem x_137_88 : Tr sc d 137 (88, [l0, l1, l2, l3], [.int i0], h) Q = Q (some (.int i0), h) := t_ret k_137_88 (by rw [r_137]; rfl)
theorem e_137 : Tr sc d 137 (ent0 137 [.ref k0, .int i1] h) Q = Tr sc d 137 (0, [some (.ref k0), some (.int i1), none, none], [], h) Q := by
  have e : mL 137 = 4 := by decide +kernel
  unfold ent0
  rw [e]
  rfl
theorem r_138 : mR 138 = some .int := by decide +kernel
theorem k_138_0 : lk 138 0 = some (.aload_n 0, 1, 0, 0, .null) := by decide +kernel
theorem x_138_0 : Tr sc d 138 (0, [some (.ref xk)], [], h) Q = Tr sc d 138 (1, [some (.ref xk)], [.ref xk], h) Q := t_aload_n k_138_0 rfl
theorem k_138_1 : lk 138 1 = some (.getfield 94, 4, 9, 14, .int 0) := by decide +kernel
theorem x_138_1 : Tr sc d 138 (1, [l0], [.ref k0], h) Q = (okp h k0 9 = true ∧ Tr sc d 138 (4, [l0], [.int (hI h k0 14)], h) Q) := t_gd k_138_1 rfl
theorem k_138_4 : lk 138 4 = some (.ireturn, 5, 0, 0, .null) := by decide +kernel
theorem x_138_4 : Tr sc d 138 (4, [l0], [.int i0], h) Q = Q (some (.int i0), h) := t_ret k_138_4 (by rw [r_138]; rfl)
theorem e_138 : Tr sc d 138 (ent0 138 [.ref k0] h) Q = Tr sc d 138 (0, [some (.ref k0)], [], h) Q := by
  have e : mL 138 = 1 := by decide +kernel
  unfold ent0
  rw [e]
  rfl
theorem r_139 : mR 139 = some .int := by decide +kernel
theorem k_139_0 : lk 139 0 = some (.iload_n 1, 1, 1, 0, .null) := by decide +kernel
theorem x_139_0 : Tr sc d 139 (0, [l0, some (.int x)], [], h) Q = Tr sc d 139 (1, [l0, some (.int x)], [.int x], h) Q := t_iload_n k_139_0 rfl
theorem k_139_1 : lk 139 1 = some (.iconst 1, 2, 0, 0, .int 1) := by decide +kernel
theorem x_139_1 : Tr sc d 139 (1, [l0, l1], [.int i0], h) Q = Tr sc d 139 (2, [l0, l1], [.int 1, .int i0], h) Q := t_go k_139_1 rfl
theorem k_139_2 : lk 139 2 = some (.if_icmp .lt 8, 5, 10, 0, .null) := by decide +kernel
theorem x_139_2 : Tr sc d 139 (2, [l0, l1], [.int i1, .int i0], h) Q = if i0 < i1 then Tr sc d 139 (10, [l0, l1], [], h) Q else Tr sc d 139 (5, [l0, l1], [], h) Q := t_if k_139_2 rfl
theorem k_139_5 : lk 139 5 = some (.iload_n 1, 6, 1, 0, .null) := by decide +kernel
theorem x_139_5 : Tr sc d 139 (5, [l0, some (.int x)], [], h) Q = Tr sc d 139 (6, [l0, some (.int x)], [.int x], h) Q := t_iload_n k_139_5 rfl
theorem k_139_6 : lk 139 6 = some (.iconst 5, 7, 0, 0, .int 5) := by decide +kernel
theorem x_139_6 : Tr sc d 139 (6, [l0, l1], [.int i0], h) Q = Tr sc d 139 (7, [l0, l1], [.int 5, .int i0], h) Q := t_go k_139_6 rfl
theorem k_139_7 : lk 139 7 = some (.if_icmp .le 7, 10, 14, 0, .null) := by decide +kernel
theorem x_139_7 : Tr sc d 139 (7, [l0, l1], [.int i1, .int i0], h) Q = if i0 ≤ i1 then Tr sc d 139 (14, [l0, l1], [], h) Q else Tr sc d 139 (10, [l0, l1], [], h) Q := t_if k_139_7 rfl
theorem k_139_10 : lk 139 10 = some (.iconst (-1), 11, 0, 0, .int (-1)) := by decide +kernel
theorem x_139_10 : Tr sc d 139 (10, [l0, l1], [], h) Q = Tr sc d 139 (11, [l0, l1], [.int (-1)], h) Q := t_go k_139_10 rfl
theorem k_139_11 : lk 139 11 = some (.goto 9, 14, 20, 0, .null) := by decide +kernel
theorem x_139_11 : Tr sc d 139 (11, [l0, l1], [.int i0], h) Q = Tr sc d 139 (20, [l0, l1], [.int i0], h) Q := t_go k_139_11 rfl
theorem k_139_14 : lk 139 14 = some (.aload_n 0, 15, 0, 0, .null) := by decide +kernel
theorem x_139_14 : Tr sc d 139 (14, [some (.ref xk), l1], [], h) Q = Tr sc d 139 (15, [some (.ref xk), l1], [.ref xk], h) Q := t_aload_n k_139_14 rfl
theorem k_139_15 : lk 139 15 = some (.getfield 90, 18, 9, 13, .null) := by decide +kernel
theorem x_139_15 : Tr sc d 139 (15, [l0, l1], [.ref k0], h) Q = (okp h k0 9 = true ∧ ∃ q, hR h k0 13 = some q ∧ Tr sc d 139 (18, [l0, l1], [.ref q], h) Q) := t_getr k_139_15
theorem k_139_18 : lk 139 18 = some (.iload_n 1, 19, 1, 0, .null) := by decide +kernel
theorem x_139_18 : Tr sc d 139 (18, [l0, some (.int x)], [.ref k0], h) Q = Tr sc d 139 (19, [l0, some (.int x)], [.int x, .ref k0], h) Q := t_iload_n k_139_18 rfl
theorem k_139_19 : lk 139 19 = some (.iaload, 20, 0, 0, .null) := by decide +kernel
theorem x_139_19 : Tr sc d 139 (19, [l0, l1], [.int i1, .ref k0], h) Q = (iOk sc h k0 i1 ∧ Tr sc d 139 (20, [l0, l1], [.int (iRd sc h k0 i1)], h) Q) := t_iald k_139_19
theorem k_139_20 : lk 139 20 = some (.ireturn, 21, 0, 0, .null) := by decide +kernel
theorem x_139_20 : Tr sc d 139 (20, [l0, l1], [.int i0], h) Q = Q (some (.int i0), h) := t_ret k_139_20 (by rw [r_139]; rfl)
theorem e_139 : Tr sc d 139 (ent0 139 [.ref k0, .int i1] h) Q = Tr sc d 139 (0, [some (.ref k0), some (.int i1)], [], h) Q := by
  have e : mL 139 = 2 := by decide +kernel
  unfold ent0
  rw [e]
  rfl
theorem r_140 : mR 140 = some .long := by decide +kernel
theorem k_140_0 : lk 140 0 = some (.ldc2_w 375, 3, 0, 1161, .long 17) := by decide +kernel
theorem x_140_0 : Tr sc d 140 (0, [l0, l1, l2, l3], [], h) Q = Tr sc d 140 (3, [l0, l1, l2, l3], [.long 17], h) Q := t_go k_140_0 rfl
theorem k_140_3 : lk 140 3 = some (.lstore_n 1, 4, 1, 0, .null) := by decide +kernel
theorem x_140_3 : Tr sc d 140 (3, [l0, l1, l2, l3], [.long j0], h) Q = Tr sc d 140 (4, [cl2 l0, some (.long j0), none, l3], [], h) Q := t_lstore_n k_140_3 (Nat.le_of_ble_eq_true rfl)
theorem k_140_4 : lk 140 4 = some (.iconst 0, 5, 0, 0, .int 0) := by decide +kernel
theorem x_140_4 : Tr sc d 140 (4, [l0, l1, l2, l3], [], h) Q = Tr sc d 140 (5, [l0, l1, l2, l3], [.int 0], h) Q := t_go k_140_4 rfl
theorem k_140_5 : lk 140 5 = some (.istore_n 3, 6, 3, 0, .null) := by decide +kernel
theorem x_140_5 : Tr sc d 140 (5, [l0, l1, l2, l3], [.int i0], h) Q = Tr sc d 140 (6, [l0, l1, cl2 l2, some (.int i0)], [], h) Q := t_istore_n k_140_5 (Nat.le_of_ble_eq_true rfl)
theorem k_140_6 : lk 140 6 = some (.iload_n 3, 7, 3, 0, .null) := by decide +kernel
theorem x_140_6 : Tr sc d 140 (6, [l0, l1, l2, some (.int x)], [], h) Q = Tr sc d 140 (7, [l0, l1, l2, some (.int x)], [.int x], h) Q := t_iload_n k_140_6 rfl
theorem k_140_7 : lk 140 7 = some (.bipush 8, 9, 0, 0, .int 8) := by decide +kernel
theorem x_140_7 : Tr sc d 140 (7, [l0, l1, l2, l3], [.int i0], h) Q = Tr sc d 140 (9, [l0, l1, l2, l3], [.int 8, .int i0], h) Q := t_go k_140_7 rfl
theorem k_140_9 : lk 140 9 = some (.if_icmp .ge 20, 12, 29, 0, .null) := by decide +kernel
theorem x_140_9 : Tr sc d 140 (9, [l0, l1, l2, l3], [.int i1, .int i0], h) Q = if i1 ≤ i0 then Tr sc d 140 (29, [l0, l1, l2, l3], [], h) Q else Tr sc d 140 (12, [l0, l1, l2, l3], [], h) Q := t_if k_140_9 rfl
theorem k_140_12 : lk 140 12 = some (.aload_n 0, 13, 0, 0, .null) := by decide +kernel
theorem x_140_12 : Tr sc d 140 (12, [some (.ref xk), l1, l2, l3], [], h) Q = Tr sc d 140 (13, [some (.ref xk), l1, l2, l3], [.ref xk], h) Q := t_aload_n k_140_12 rfl
theorem k_140_13 : lk 140 13 = some (.getfield 20, 16, 9, 2, .null) := by decide +kernel
theorem x_140_13 : Tr sc d 140 (13, [l0, l1, l2, l3], [.ref k0], h) Q = (okp h k0 9 = true ∧ ∃ q, hR h k0 2 = some q ∧ Tr sc d 140 (16, [l0, l1, l2, l3], [.ref q], h) Q) := t_getr k_140_13
theorem k_140_16 : lk 140 16 = some (.iload_n 3, 17, 3, 0, .null) := by decide +kernel
theorem x_140_16 : Tr sc d 140 (16, [l0, l1, l2, some (.int x)], [.ref k0], h) Q = Tr sc d 140 (17, [l0, l1, l2, some (.int x)], [.int x, .ref k0], h) Q := t_iload_n k_140_16 rfl
theorem k_140_17 : lk 140 17 = some (.aaload, 18, 0, 0, .null) := by decide +kernel
theorem x_140_17 : Tr sc d 140 (17, [l0, l1, l2, l3], [.int i1, .ref k0], h) Q = (((okp h k0 14 || okp h k0 15) && inb i1 (LN k0)) = true ∧ ∃ q, hR h k0 i1.toNatClampNeg = some q ∧ Tr sc d 140 (18, [l0, l1, l2, l3], [.ref q], h) Q) := t_aald k_140_17
theorem k_140_18 : lk 140 18 = some (.lload_n 1, 19, 1, 0, .null) := by decide +kernel
theorem x_140_18 : Tr sc d 140 (18, [l0, some (.long xl), l2, l3], [.ref k0], h) Q = Tr sc d 140 (19, [l0, some (.long xl), l2, l3], [.long xl, .ref k0], h) Q := t_lload_n k_140_18 rfl
theorem k_140_19 : lk 140 19 = some (.invokevirtual 377, 22, 71, 1, .null) := by decide +kernel
theorem x_140_19 : Tr sc (d + 1) 140 (19, [l0, l1, l2, l3], [.long j1, .ref k0], h) Q = (okp h k0 6 = true ∧ Tr sc d 71 (ent0 71 [.ref k0, .long j1] h) (fun z => Tr sc (d + 1) 140 (22, [l0, l1, l2, l3], z.1.toList ++ [], z.2) Q)) := t_cv (as := [.long j1]) (r := []) k_140_19 rfl rfl (Nat.le_of_ble_eq_true rfl) (Nat.le_of_ble_eq_true rfl) (Nat.le_of_ble_eq_true rfl)
theorem k_140_22 : lk 140 22 = some (.lstore_n 1, 23, 1, 0, .null) := by decide +kernel
theorem x_140_22 : Tr sc d 140 (22, [l0, l1, l2, l3], [.long j0], h) Q = Tr sc d 140 (23, [cl2 l0, some (.long j0), none, l3], [], h) Q := t_lstore_n k_140_22 (Nat.le_of_ble_eq_true rfl)
theorem k_140_23 : lk 140 23 = some (.iinc 3 1, 26, 3, 0, .int 1) := by decide +kernel
theorem x_140_23 : Tr sc d 140 (23, [l0, l1, l2, some (.int x)], [], h) Q = Tr sc d 140 (26, [l0, l1, cl2 l2, some (.int (x + 1))], [], h) Q := t_inc k_140_23 rfl (Nat.le_of_ble_eq_true rfl)
theorem k_140_26 : lk 140 26 = some (.goto (-20), 29, 6, 0, .null) := by decide +kernel
theorem x_140_26 : Tr sc d 140 (26, [l0, l1, l2, l3], [], h) Q = Tr sc d 140 (6, [l0, l1, l2, l3], [], h) Q := t_go k_140_26 rfl
theorem k_140_29 : lk 140 29 = some (.iconst 0, 30, 0, 0, .int 0) := by decide +kernel
theorem x_140_29 : Tr sc d 140 (29, [l0, l1, l2, l3], [], h) Q = Tr sc d 140 (30, [l0, l1, l2, l3], [.int 0], h) Q := t_go k_140_29 rfl
theorem k_140_30 : lk 140 30 = some (.istore_n 3, 31, 3, 0, .null) := by decide +kernel
theorem x_140_30 : Tr sc d 140 (30, [l0, l1, l2, l3], [.int i0], h) Q = Tr sc d 140 (31, [l0, l1, cl2 l2, some (.int i0)], [], h) Q := t_istore_n k_140_30 (Nat.le_of_ble_eq_true rfl)
theorem k_140_31 : lk 140 31 = some (.iload_n 3, 32, 3, 0, .null) := by decide +kernel
theorem x_140_31 : Tr sc d 140 (31, [l0, l1, l2, some (.int x)], [], h) Q = Tr sc d 140 (32, [l0, l1, l2, some (.int x)], [.int x], h) Q := t_iload_n k_140_31 rfl
theorem k_140_32 : lk 140 32 = some (.bipush 6, 34, 0, 0, .int 6) := by decide +kernel
theorem x_140_32 : Tr sc d 140 (32, [l0, l1, l2, l3], [.int i0], h) Q = Tr sc d 140 (34, [l0, l1, l2, l3], [.int 6, .int i0], h) Q := t_go k_140_32 rfl
theorem k_140_34 : lk 140 34 = some (.if_icmp .ge 20, 37, 54, 0, .null) := by decide +kernel
theorem x_140_34 : Tr sc d 140 (34, [l0, l1, l2, l3], [.int i1, .int i0], h) Q = if i1 ≤ i0 then Tr sc d 140 (54, [l0, l1, l2, l3], [], h) Q else Tr sc d 140 (37, [l0, l1, l2, l3], [], h) Q := t_if k_140_34 rfl
theorem k_140_37 : lk 140 37 = some (.aload_n 0, 38, 0, 0, .null) := by decide +kernel
theorem x_140_37 : Tr sc d 140 (37, [some (.ref xk), l1, l2, l3], [], h) Q = Tr sc d 140 (38, [some (.ref xk), l1, l2, l3], [.ref xk], h) Q := t_aload_n k_140_37 rfl
theorem k_140_38 : lk 140 38 = some (.getfield 11, 41, 9, 0, .null) := by decide +kernel
theorem x_140_38 : Tr sc d 140 (38, [l0, l1, l2, l3], [.ref k0], h) Q = (okp h k0 9 = true ∧ ∃ q, hR h k0 0 = some q ∧ Tr sc d 140 (41, [l0, l1, l2, l3], [.ref q], h) Q) := t_getr k_140_38
theorem k_140_41 : lk 140 41 = some (.iload_n 3, 42, 3, 0, .null) := by decide +kernel
theorem x_140_41 : Tr sc d 140 (41, [l0, l1, l2, some (.int x)], [.ref k0], h) Q = Tr sc d 140 (42, [l0, l1, l2, some (.int x)], [.int x, .ref k0], h) Q := t_iload_n k_140_41 rfl
theorem k_140_42 : lk 140 42 = some (.aaload, 43, 0, 0, .null) := by decide +kernel
theorem x_140_42 : Tr sc d 140 (42, [l0, l1, l2, l3], [.int i1, .ref k0], h) Q = (((okp h k0 14 || okp h k0 15) && inb i1 (LN k0)) = true ∧ ∃ q, hR h k0 i1.toNatClampNeg = some q ∧ Tr sc d 140 (43, [l0, l1, l2, l3], [.ref q], h) Q) := t_aald k_140_42
theorem k_140_43 : lk 140 43 = some (.lload_n 1, 44, 1, 0, .null) := by decide +kernel
theorem x_140_43 : Tr sc d 140 (43, [l0, some (.long xl), l2, l3], [.ref k0], h) Q = Tr sc d 140 (44, [l0, some (.long xl), l2, l3], [.long xl, .ref k0], h) Q := t_lload_n k_140_43 rfl
theorem k_140_44 : lk 140 44 = some (.invokevirtual 381, 47, 46, 1, .null) := by decide +kernel
theorem x_140_44 : Tr sc (d + 1) 140 (44, [l0, l1, l2, l3], [.long j1, .ref k0], h) Q = (okp h k0 5 = true ∧ Tr sc d 46 (ent0 46 [.ref k0, .long j1] h) (fun z => Tr sc (d + 1) 140 (47, [l0, l1, l2, l3], z.1.toList ++ [], z.2) Q)) := t_cv (as := [.long j1]) (r := []) k_140_44 rfl rfl (Nat.le_of_ble_eq_true rfl) (Nat.le_of_ble_eq_true rfl) (Nat.le_of_ble_eq_true rfl)
theorem k_140_47 : lk 140 47 = some (.lstore_n 1, 48, 1, 0, .null) := by decide +kernel
theorem x_140_47 : Tr sc d 140 (47, [l0, l1, l2, l3], [.long j0], h) Q = Tr sc d 140 (48, [cl2 l0, some (.long j0), none, l3], [], h) Q := t_lstore_n k_140_47 (Nat.le_of_ble_eq_true rfl)
theorem k_140_48 : lk 140 48 = some (.iinc 3 1, 51, 3, 0, .int 1) := by decide +kernel
theorem x_140_48 : Tr sc d 140 (48, [l0, l1, l2, some (.int x)], [], h) Q = Tr sc d 140 (51, [l0, l1, cl2 l2, some (.int (x + 1))], [], h) Q := t_inc k_140_48 rfl (Nat.le_of_ble_eq_true rfl)
theorem k_140_51 : lk 140 51 = some (.goto (-20), 54, 31, 0, .null) := by decide +kernel
theorem x_140_51 : Tr sc d 140 (51, [l0, l1, l2, l3], [], h) Q = Tr sc d 140 (31, [l0, l1, l2, l3], [], h) Q := t_go k_140_51 rfl
theorem k_140_54 : lk 140 54 = some (.iconst 0, 55, 0, 0, .int 0) := by decide +kernel
theorem x_140_54 : Tr sc d 140 (54, [l0, l1, l2, l3], [], h) Q = Tr sc d 140 (55, [l0, l1, l2, l3], [.int 0], h) Q := t_go k_140_54 rfl
theorem k_140_55 : lk 140 55 = some (.istore_n 3, 56, 3, 0, .null) := by decide +kernel
theorem x_140_55 : Tr sc d 140 (55, [l0, l1, l2, l3], [.int i0], h) Q = Tr sc d 140 (56, [l0, l1, cl2 l2, some (.int i0)], [], h) Q := t_istore_n k_140_55 (Nat.le_of_ble_eq_true rfl)
theorem k_140_56 : lk 140 56 = some (.iload_n 3, 57, 3, 0, .null) := by decide +kernel
theorem x_140_56 : Tr sc d 140 (56, [l0, l1, l2, some (.int x)], [], h) Q = Tr sc d 140 (57, [l0, l1, l2, some (.int x)], [.int x], h) Q := t_iload_n k_140_56 rfl
theorem k_140_57 : lk 140 57 = some (.iconst 4, 58, 0, 0, .int 4) := by decide +kernel
theorem x_140_57 : Tr sc d 140 (57, [l0, l1, l2, l3], [.int i0], h) Q = Tr sc d 140 (58, [l0, l1, l2, l3], [.int 4, .int i0], h) Q := t_go k_140_57 rfl
theorem k_140_58 : lk 140 58 = some (.if_icmp .ge 20, 61, 78, 0, .null) := by decide +kernel
theorem x_140_58 : Tr sc d 140 (58, [l0, l1, l2, l3], [.int i1, .int i0], h) Q = if i1 ≤ i0 then Tr sc d 140 (78, [l0, l1, l2, l3], [], h) Q else Tr sc d 140 (61, [l0, l1, l2, l3], [], h) Q := t_if k_140_58 rfl
theorem k_140_61 : lk 140 61 = some (.aload_n 0, 62, 0, 0, .null) := by decide +kernel
theorem x_140_61 : Tr sc d 140 (61, [some (.ref xk), l1, l2, l3], [], h) Q = Tr sc d 140 (62, [some (.ref xk), l1, l2, l3], [.ref xk], h) Q := t_aload_n k_140_61 rfl
theorem k_140_62 : lk 140 62 = some (.getfield 15, 65, 9, 1, .null) := by decide +kernel
theorem x_140_62 : Tr sc d 140 (62, [l0, l1, l2, l3], [.ref k0], h) Q = (okp h k0 9 = true ∧ ∃ q, hR h k0 1 = some q ∧ Tr sc d 140 (65, [l0, l1, l2, l3], [.ref q], h) Q) := t_getr k_140_62
theorem k_140_65 : lk 140 65 = some (.iload_n 3, 66, 3, 0, .null) := by decide +kernel
theorem x_140_65 : Tr sc d 140 (65, [l0, l1, l2, some (.int x)], [.ref k0], h) Q = Tr sc d 140 (66, [l0, l1, l2, some (.int x)], [.int x, .ref k0], h) Q := t_iload_n k_140_65 rfl
theorem k_140_66 : lk 140 66 = some (.aaload, 67, 0, 0, .null) := by decide +kernel
theorem x_140_66 : Tr sc d 140 (66, [l0, l1, l2, l3], [.int i1, .ref k0], h) Q = (((okp h k0 14 || okp h k0 15) && inb i1 (LN k0)) = true ∧ ∃ q, hR h k0 i1.toNatClampNeg = some q ∧ Tr sc d 140 (67, [l0, l1, l2, l3], [.ref q], h) Q) := t_aald k_140_66
theorem k_140_67 : lk 140 67 = some (.lload_n 1, 68, 1, 0, .null) := by decide +kernel
theorem x_140_67 : Tr sc d 140 (67, [l0, some (.long xl), l2, l3], [.ref k0], h) Q = Tr sc d 140 (68, [l0, some (.long xl), l2, l3], [.long xl, .ref k0], h) Q := t_lload_n k_140_67 rfl
theorem k_140_68 : lk 140 68 = some (.invokevirtual 381, 71, 46, 1, .null) := by decide +kernel
theorem x_140_68 : Tr sc (d + 1) 140 (68, [l0, l1, l2, l3], [.long j1, .ref k0], h) Q = (okp h k0 5 = true ∧ Tr sc d 46 (ent0 46 [.ref k0, .long j1] h) (fun z => Tr sc (d + 1) 140 (71, [l0, l1, l2, l3], z.1.toList ++ [], z.2) Q)) := t_cv (as := [.long j1]) (r := []) k_140_68 rfl rfl (Nat.le_of_ble_eq_true rfl) (Nat.le_of_ble_eq_true rfl) (Nat.le_of_ble_eq_true rfl)
theorem k_140_71 : lk 140 71 = some (.lstore_n 1, 72, 1, 0, .null) := by decide +kernel
theorem x_140_71 : Tr sc d 140 (71, [l0, l1, l2, l3], [.long j0], h) Q = Tr sc d 140 (72, [cl2 l0, some (.long j0), none, l3], [], h) Q := t_lstore_n k_140_71 (Nat.le_of_ble_eq_true rfl)
theorem k_140_72 : lk 140 72 = some (.iinc 3 1, 75, 3, 0, .int 1) := by decide +kernel
theorem x_140_72 : Tr sc d 140 (72, [l0, l1, l2, some (.int x)], [], h) Q = Tr sc d 140 (75, [l0, l1, cl2 l2, some (.int (x + 1))], [], h) Q := t_inc k_140_72 rfl (Nat.le_of_ble_eq_true rfl)
theorem k_140_75 : lk 140 75 = some (.goto (-19), 78, 56, 0, .null) := by decide +kernel
theorem x_140_75 : Tr sc d 140 (75, [l0, l1, l2, l3], [], h) Q = Tr sc d 140 (56, [l0, l1, l2, l3], [], h) Q := t_go k_140_75 rfl
theorem k_140_78 : lk 140 78 = some (.lload_n 1, 79, 1, 0, .null) := by decide +kernel
theorem x_140_78 : Tr sc d 140 (78, [l0, some (.long xl), l2, l3], [], h) Q = Tr sc d 140 (79, [l0, some (.long xl), l2, l3], [.long xl], h) Q := t_lload_n k_140_78 rfl
theorem k_140_79 : lk 140 79 = some (.lreturn, 80, 0, 0, .null) := by decide +kernel
theorem x_140_79 : Tr sc d 140 (79, [l0, l1, l2, l3], [.long j0], h) Q = Q (some (.long j0), h) := t_ret k_140_79 (by rw [r_140]; rfl)
theorem e_140 : Tr sc d 140 (ent0 140 [.ref k0] h) Q = Tr sc d 140 (0, [some (.ref k0), none, none, none], [], h) Q := by
  have e : mL 140 = 4 := by decide +kernel
  unfold ent0
  rw [e]
  rfl
theorem r_141 : mR 141 = some .boolean := by decide +kernel
theorem k_141_0 : lk 141 0 = some (.iload_n 0, 1, 0, 0, .null) := by decide +kernel
theorem x_141_0 : Tr sc d 141 (0, [some (.int x)], [], h) Q = Tr sc d 141 (1, [some (.int x)], [.int x], h) Q := t_iload_n k_141_0 rfl
theorem k_141_1 : lk 141 1 = some (.ifCond .lt 13, 4, 14, 0, .null) := by decide +kernel
theorem x_141_1 : Tr sc d 141 (1, [l0], [.int i0], h) Q = if i0 < 0 then Tr sc d 141 (14, [l0], [], h) Q else Tr sc d 141 (4, [l0], [], h) Q := t_if k_141_1 rfl
theorem k_141_4 : lk 141 4 = some (.iload_n 0, 5, 0, 0, .null) := by decide +kernel
theorem x_141_4 : Tr sc d 141 (4, [some (.int x)], [], h) Q = Tr sc d 141 (5, [some (.int x)], [.int x], h) Q := t_iload_n k_141_4 rfl
theorem k_141_5 : lk 141 5 = some (.bipush 6, 7, 0, 0, .int 6) := by decide +kernel
theorem x_141_5 : Tr sc d 141 (5, [l0], [.int i0], h) Q = Tr sc d 141 (7, [l0], [.int 6, .int i0], h) Q := t_go k_141_5 rfl
theorem k_141_7 : lk 141 7 = some (.if_icmp .ge 7, 10, 14, 0, .null) := by decide +kernel
theorem x_141_7 : Tr sc d 141 (7, [l0], [.int i1, .int i0], h) Q = if i1 ≤ i0 then Tr sc d 141 (14, [l0], [], h) Q else Tr sc d 141 (10, [l0], [], h) Q := t_if k_141_7 rfl
theorem k_141_10 : lk 141 10 = some (.iconst 1, 11, 0, 0, .int 1) := by decide +kernel
theorem x_141_10 : Tr sc d 141 (10, [l0], [], h) Q = Tr sc d 141 (11, [l0], [.int 1], h) Q := t_go k_141_10 rfl
theorem k_141_11 : lk 141 11 = some (.goto 4, 14, 15, 0, .null) := by decide +kernel
theorem x_141_11 : Tr sc d 141 (11, [l0], [.int i0], h) Q = Tr sc d 141 (15, [l0], [.int i0], h) Q := t_go k_141_11 rfl
theorem k_141_14 : lk 141 14 = some (.iconst 0, 15, 0, 0, .int 0) := by decide +kernel
theorem x_141_14 : Tr sc d 141 (14, [l0], [], h) Q = Tr sc d 141 (15, [l0], [.int 0], h) Q := t_go k_141_14 rfl
theorem k_141_15 : lk 141 15 = some (.ireturn, 16, 0, 0, .null) := by decide +kernel
theorem x_141_15 : Tr sc d 141 (15, [l0], [.int i0], h) Q = (vp_nar .boolean i0 = i0 ∧ Q (some (.int i0), h)) := t_zret k_141_15 r_141
theorem e_141 : Tr sc d 141 (ent0 141 [.int i0] h) Q = Tr sc d 141 (0, [some (.int i0)], [], h) Q := by
  have e : mL 141 = 1 := by decide +kernel
  unfold ent0
  rw [e]
  rfl
theorem r_142 : mR 142 = some .boolean := by decide +kernel
theorem k_142_0 : lk 142 0 = some (.iload_n 0, 1, 0, 0, .null) := by decide +kernel
theorem x_142_0 : Tr sc d 142 (0, [some (.int x)], [], h) Q = Tr sc d 142 (1, [some (.int x)], [.int x], h) Q := t_iload_n k_142_0 rfl
theorem k_142_1 : lk 142 1 = some (.ifCond .lt 12, 4, 13, 0, .null) := by decide +kernel
theorem x_142_1 : Tr sc d 142 (1, [l0], [.int i0], h) Q = if i0 < 0 then Tr sc d 142 (13, [l0], [], h) Q else Tr sc d 142 (4, [l0], [], h) Q := t_if k_142_1 rfl
theorem k_142_4 : lk 142 4 = some (.iload_n 0, 5, 0, 0, .null) := by decide +kernel
theorem x_142_4 : Tr sc d 142 (4, [some (.int x)], [], h) Q = Tr sc d 142 (5, [some (.int x)], [.int x], h) Q := t_iload_n k_142_4 rfl
theorem k_142_5 : lk 142 5 = some (.iconst 4, 6, 0, 0, .int 4) := by decide +kernel
theorem x_142_5 : Tr sc d 142 (5, [l0], [.int i0], h) Q = Tr sc d 142 (6, [l0], [.int 4, .int i0], h) Q := t_go k_142_5 rfl
theorem k_142_6 : lk 142 6 = some (.if_icmp .ge 7, 9, 13, 0, .null) := by decide +kernel
theorem x_142_6 : Tr sc d 142 (6, [l0], [.int i1, .int i0], h) Q = if i1 ≤ i0 then Tr sc d 142 (13, [l0], [], h) Q else Tr sc d 142 (9, [l0], [], h) Q := t_if k_142_6 rfl
theorem k_142_9 : lk 142 9 = some (.iconst 1, 10, 0, 0, .int 1) := by decide +kernel
theorem x_142_9 : Tr sc d 142 (9, [l0], [], h) Q = Tr sc d 142 (10, [l0], [.int 1], h) Q := t_go k_142_9 rfl
theorem k_142_10 : lk 142 10 = some (.goto 4, 13, 14, 0, .null) := by decide +kernel
theorem x_142_10 : Tr sc d 142 (10, [l0], [.int i0], h) Q = Tr sc d 142 (14, [l0], [.int i0], h) Q := t_go k_142_10 rfl
theorem k_142_13 : lk 142 13 = some (.iconst 0, 14, 0, 0, .int 0) := by decide +kernel
theorem x_142_13 : Tr sc d 142 (13, [l0], [], h) Q = Tr sc d 142 (14, [l0], [.int 0], h) Q := t_go k_142_13 rfl
theorem k_142_14 : lk 142 14 = some (.ireturn, 15, 0, 0, .null) := by decide +kernel
theorem x_142_14 : Tr sc d 142 (14, [l0], [.int i0], h) Q = (vp_nar .boolean i0 = i0 ∧ Q (some (.int i0), h)) := t_zret k_142_14 r_142
theorem e_142 : Tr sc d 142 (ent0 142 [.int i0] h) Q = Tr sc d 142 (0, [some (.int i0)], [], h) Q := by
  have e : mL 142 = 1 := by decide +kernel
  unfold ent0
  rw [e]
  rfl
theorem r_143 : mR 143 = some .boolean := by decide +kernel
theorem k_143_0 : lk 143 0 = some (.iload_n 0, 1, 0, 0, .null) := by decide +kernel
theorem x_143_0 : Tr sc d 143 (0, [some (.int x)], [], h) Q = Tr sc d 143 (1, [some (.int x)], [.int x], h) Q := t_iload_n k_143_0 rfl
theorem k_143_1 : lk 143 1 = some (.ifCond .lt 13, 4, 14, 0, .null) := by decide +kernel
theorem x_143_1 : Tr sc d 143 (1, [l0], [.int i0], h) Q = if i0 < 0 then Tr sc d 143 (14, [l0], [], h) Q else Tr sc d 143 (4, [l0], [], h) Q := t_if k_143_1 rfl
theorem k_143_4 : lk 143 4 = some (.iload_n 0, 5, 0, 0, .null) := by decide +kernel
theorem x_143_4 : Tr sc d 143 (4, [some (.int x)], [], h) Q = Tr sc d 143 (5, [some (.int x)], [.int x], h) Q := t_iload_n k_143_4 rfl
theorem k_143_5 : lk 143 5 = some (.bipush 8, 7, 0, 0, .int 8) := by decide +kernel
theorem x_143_5 : Tr sc d 143 (5, [l0], [.int i0], h) Q = Tr sc d 143 (7, [l0], [.int 8, .int i0], h) Q := t_go k_143_5 rfl
theorem k_143_7 : lk 143 7 = some (.if_icmp .ge 7, 10, 14, 0, .null) := by decide +kernel
theorem x_143_7 : Tr sc d 143 (7, [l0], [.int i1, .int i0], h) Q = if i1 ≤ i0 then Tr sc d 143 (14, [l0], [], h) Q else Tr sc d 143 (10, [l0], [], h) Q := t_if k_143_7 rfl
theorem k_143_10 : lk 143 10 = some (.iconst 1, 11, 0, 0, .int 1) := by decide +kernel
theorem x_143_10 : Tr sc d 143 (10, [l0], [], h) Q = Tr sc d 143 (11, [l0], [.int 1], h) Q := t_go k_143_10 rfl
theorem k_143_11 : lk 143 11 = some (.goto 4, 14, 15, 0, .null) := by decide +kernel
theorem x_143_11 : Tr sc d 143 (11, [l0], [.int i0], h) Q = Tr sc d 143 (15, [l0], [.int i0], h) Q := t_go k_143_11 rfl
theorem k_143_14 : lk 143 14 = some (.iconst 0, 15, 0, 0, .int 0) := by decide +kernel
theorem x_143_14 : Tr sc d 143 (14, [l0], [], h) Q = Tr sc d 143 (15, [l0], [.int 0], h) Q := t_go k_143_14 rfl
theorem k_143_15 : lk 143 15 = some (.ireturn, 16, 0, 0, .null) := by decide +kernel
theorem x_143_15 : Tr sc d 143 (15, [l0], [.int i0], h) Q = (vp_nar .boolean i0 = i0 ∧ Q (some (.int i0), h)) := t_zret k_143_15 r_143
theorem e_143 : Tr sc d 143 (ent0 143 [.int i0] h) Q = Tr sc d 143 (0, [some (.int i0)], [], h) Q := by
  have e : mL 143 = 1 := by decide +kernel
  unfold ent0
  rw [e]
  rfl
theorem r_144 : mR 144 = some .boolean := by decide +kernel
theorem k_144_0 : lk 144 0 = some (.iload_n 0, 1, 0, 0, .null) := by decide +kernel
theorem x_144_0 : Tr sc d 144 (0, [some (.int x), l1], [], h) Q = Tr sc d 144 (1, [some (.int x), l1], [.int x], h) Q := t_iload_n k_144_0 rfl
theorem k_144_1 : lk 144 1 = some (.ifCond .lt 12, 4, 13, 0, .null) := by decide +kernel
theorem x_144_1 : Tr sc d 144 (1, [l0, l1], [.int i0], h) Q = if i0 < 0 then Tr sc d 144 (13, [l0, l1], [], h) Q else Tr sc d 144 (4, [l0, l1], [], h) Q := t_if k_144_1 rfl
theorem k_144_4 : lk 144 4 = some (.iload_n 0, 5, 0, 0, .null) := by decide +kernel
theorem x_144_4 : Tr sc d 144 (4, [some (.int x), l1], [], h) Q = Tr sc d 144 (5, [some (.int x), l1], [.int x], h) Q := t_iload_n k_144_4 rfl
theorem k_144_5 : lk 144 5 = some (.iload_n 1, 6, 1, 0, .null) := by decide +kernel
theorem x_144_5 : Tr sc d 144 (5, [l0, some (.int x)], [.int i0], h) Q = Tr sc d 144 (6, [l0, some (.int x)], [.int x, .int i0], h) Q := t_iload_n k_144_5 rfl
theorem k_144_6 : lk 144 6 = some (.if_icmp .gt 7, 9, 13, 0, .null) := by decide +kernel
theorem x_144_6 : Tr sc d 144 (6, [l0, l1], [.int i1, .int i0], h) Q = if i1 < i0 then Tr sc d 144 (13, [l0, l1], [], h) Q else Tr sc d 144 (9, [l0, l1], [], h) Q := t_if k_144_6 rfl
theorem k_144_9 : lk 144 9 = some (.iconst 1, 10, 0, 0, .int 1) := by decide +kernel
theorem x_144_9 : Tr sc d 144 (9, [l0, l1], [], h) Q = Tr sc d 144 (10, [l0, l1], [.int 1], h) Q := t_go k_144_9 rfl
theorem k_144_10 : lk 144 10 = some (.goto 4, 13, 14, 0, .null) := by decide +kernel
theorem x_144_10 : Tr sc d 144 (10, [l0, l1], [.int i0], h) Q = Tr sc d 144 (14, [l0, l1], [.int i0], h) Q := t_go k_144_10 rfl
theorem k_144_13 : lk 144 13 = some (.iconst 0, 14, 0, 0, .int 0) := by decide +kernel
theorem x_144_13 : Tr sc d 144 (13, [l0, l1], [], h) Q = Tr sc d 144 (14, [l0, l1], [.int 0], h) Q := t_go k_144_13 rfl
theorem k_144_14 : lk 144 14 = some (.ireturn, 15, 0, 0, .null) := by decide +kernel
theorem x_144_14 : Tr sc d 144 (14, [l0, l1], [.int i0], h) Q = (vp_nar .boolean i0 = i0 ∧ Q (some (.int i0), h)) := t_zret k_144_14 r_144
theorem e_144 : Tr sc d 144 (ent0 144 [.int i0, .int i1] h) Q = Tr sc d 144 (0, [some (.int i0), some (.int i1)], [], h) Q := by
  have e : mL 144 = 2 := by decide +kernel
  unfold ent0
  rw [e]
  rfl
theorem r_145 : mR 145 = some .int := by decide +kernel
theorem k_145_0 : lk 145 0 = some (.aload_n 0, 1, 0, 0, .null) := by decide +kernel
theorem x_145_0 : Tr sc d 145 (0, [some (.ref xk), l1], [], h) Q = Tr sc d 145 (1, [some (.ref xk), l1], [.ref xk], h) Q := t_aload_n k_145_0 rfl
theorem k_145_1 : lk 145 1 = some (.iload_n 1, 2, 1, 0, .null) := by decide +kernel
theorem x_145_1 : Tr sc d 145 (1, [l0, some (.int x)], [.ref k0], h) Q = Tr sc d 145 (2, [l0, some (.int x)], [.int x, .ref k0], h) Q := t_iload_n k_145_1 rfl
theorem k_145_2 : lk 145 2 = some (.putfield 94, 5, 9, 14, .int 0) := by decide +kernel
theorem x_145_2 : Tr sc d 145 (2, [l0, l1], [.int i1, .ref k0], h) Q = (okp h k0 9 = true ∧ Tr sc d 145 (5, [l0, l1], [], (sI h k0 14 i1)) Q) := t_gd k_145_2 rfl
theorem k_145_5 : lk 145 5 = some (.aload_n 0, 6, 0, 0, .null) := by decide +kernel
theorem x_145_5 : Tr sc d 145 (5, [some (.ref xk), l1], [], h) Q = Tr sc d 145 (6, [some (.ref xk), l1], [.ref xk], h) Q := t_aload_n k_145_5 rfl
theorem k_145_6 : lk 145 6 = some (.getfield 90, 9, 9, 13, .null) := by decide +kernel
theorem x_145_6 : Tr sc d 145 (6, [l0, l1], [.ref k0], h) Q = (okp h k0 9 = true ∧ ∃ q, hR h k0 13 = some q ∧ Tr sc d 145 (9, [l0, l1], [.ref q], h) Q) := t_getr k_145_6
theorem k_145_9 : lk 145 9 = some (.iload_n 1, 10, 1, 0, .null) := by decide +kernel
theorem x_145_9 : Tr sc d 145 (9, [l0, some (.int x)], [.ref k0], h) Q = Tr sc d 145 (10, [l0, some (.int x)], [.int x, .ref k0], h) Q := t_iload_n k_145_9 rfl
theorem k_145_10 : lk 145 10 = some (.dup2, 11, 0, 0, .null) := by decide +kernel
theorem x_145_10 : Tr sc d 145 (10, [l0, l1], [.int i1, .ref k0], h) Q = Tr sc d 145 (11, [l0, l1], [.int i1, .ref k0, .int i1, .ref k0], h) Q := t_go k_145_10 rfl
theorem k_145_11 : lk 145 11 = some (.iaload, 12, 0, 0, .null) := by decide +kernel
theorem x_145_11 : Tr sc d 145 (11, [l0, l1], [.int i3, .ref k2, .int i1, .ref k0], h) Q = (iOk sc h k2 i3 ∧ Tr sc d 145 (12, [l0, l1], [.int (iRd sc h k2 i3), .int i1, .ref k0], h) Q) := t_iald k_145_11
theorem k_145_12 : lk 145 12 = some (.iconst 1, 13, 0, 0, .int 1) := by decide +kernel
theorem x_145_12 : Tr sc d 145 (12, [l0, l1], [.int i2, .int i1, .ref k0], h) Q = Tr sc d 145 (13, [l0, l1], [.int 1, .int i2, .int i1, .ref k0], h) Q := t_go k_145_12 rfl
theorem k_145_13 : lk 145 13 = some (.iadd, 14, 0, 0, .null) := by decide +kernel
theorem x_145_13 : Tr sc d 145 (13, [l0, l1], [.int i3, .int i2, .int i1, .ref k0], h) Q = Tr sc d 145 (14, [l0, l1], [.int (i2 + i3), .int i1, .ref k0], h) Q := t_go k_145_13 rfl
theorem k_145_14 : lk 145 14 = some (.iastore, 15, 0, 0, .null) := by decide +kernel
theorem x_145_14 : Tr sc d 145 (14, [l0, l1], [.int i2, .int i1, .ref k0], h) Q = ((okp h k0 11 && inb i1 (LN k0)) = true ∧ Tr sc d 145 (15, [l0, l1], [], (sI h k0 i1.toNatClampNeg i2)) Q) := t_gd k_145_14 rfl
theorem k_145_15 : lk 145 15 = some (.bipush (-3), 17, 0, 0, .int (-3)) := by decide +kernel
theorem x_145_15 : Tr sc d 145 (15, [l0, l1], [], h) Q = Tr sc d 145 (17, [l0, l1], [.int (-3)], h) Q := t_go k_145_15 rfl
theorem k_145_17 : lk 145 17 = some (.ireturn, 18, 0, 0, .null) := by decide +kernel
theorem x_145_17 : Tr sc d 145 (17, [l0, l1], [.int i0], h) Q = Q (some (.int i0), h) := t_ret k_145_17 (by rw [r_145]; rfl)
theorem e_145 : Tr sc d 145 (ent0 145 [.ref k0, .int i1] h) Q = Tr sc d 145 (0, [some (.ref k0), some (.int i1)], [], h) Q := by
  have e : mL 145 = 2 := by decide +kernel
  unfold ent0
  rw [e]
  rfl
theorem r_146 : mR 146 = some .int := by decide +kernel
theorem k_146_0 : lk 146 0 = some (.iload_n 1, 1, 1, 0, .null) := by decide +kernel
theorem x_146_0 : Tr sc d 146 (0, [l0, some (.int x), l2], [], h) Q = Tr sc d 146 (1, [l0, some (.int x), l2], [.int x], h) Q := t_iload_n k_146_0 rfl
theorem k_146_1 : lk 146 1 = some (.invokestatic 159, 4, 143, 1, .null) := by decide +kernel
theorem x_146_1 : Tr sc (d + 1) 146 (1, [l0, l1, l2], [.int i0], h) Q = Tr sc d 143 (ent0 143 [.int i0] h) (fun z => Tr sc (d + 1) 146 (4, [l0, l1, l2], z.1.toList ++ [], z.2) Q) := t_cs (as := [.int i0]) (r := []) k_146_1 (by decide) rfl rfl (Nat.le_of_ble_eq_true rfl) (Nat.le_of_ble_eq_true rfl)
theorem k_146_4 : lk 146 4 = some (.ifCond .eq 7, 7, 11, 0, .null) := by decide +kernel
theorem x_146_4 : Tr sc d 146 (4, [l0, l1, l2], [.int i0], h) Q = if i0 = 0 then Tr sc d 146 (11, [l0, l1, l2], [], h) Q else Tr sc d 146 (7, [l0, l1, l2], [], h) Q := t_if k_146_4 rfl
theorem k_146_7 : lk 146 7 = some (.iload_n 2, 8, 2, 0, .null) := by decide +kernel
theorem x_146_7 : Tr sc d 146 (7, [l0, l1, some (.int x)], [], h) Q = Tr sc d 146 (8, [l0, l1, some (.int x)], [.int x], h) Q := t_iload_n k_146_7 rfl
theorem k_146_8 : lk 146 8 = some (.ifCond .ne 5, 11, 13, 0, .null) := by decide +kernel
theorem x_146_8 : Tr sc d 146 (8, [l0, l1, l2], [.int i0], h) Q = if i0 = 0 then Tr sc d 146 (11, [l0, l1, l2], [], h) Q else Tr sc d 146 (13, [l0, l1, l2], [], h) Q := t_if k_146_8 rfl
theorem k_146_11 : lk 146 11 = some (.iconst (-1), 12, 0, 0, .int (-1)) := by decide +kernel
theorem x_146_11 : Tr sc d 146 (11, [l0, l1, l2], [], h) Q = Tr sc d 146 (12, [l0, l1, l2], [.int (-1)], h) Q := t_go k_146_11 rfl
theorem k_146_12 : lk 146 12 = some (.ireturn, 13, 0, 0, .null) := by decide +kernel
theorem x_146_12 : Tr sc d 146 (12, [l0, l1, l2], [.int i0], h) Q = Q (some (.int i0), h) := t_ret k_146_12 (by rw [r_146]; rfl)
theorem k_146_13 : lk 146 13 = some (.aload_n 0, 14, 0, 0, .null) := by decide +kernel
theorem x_146_13 : Tr sc d 146 (13, [some (.ref xk), l1, l2], [], h) Q = Tr sc d 146 (14, [some (.ref xk), l1, l2], [.ref xk], h) Q := t_aload_n k_146_13 rfl
theorem k_146_14 : lk 146 14 = some (.getfield 20, 17, 9, 2, .null) := by decide +kernel
theorem x_146_14 : Tr sc d 146 (14, [l0, l1, l2], [.ref k0], h) Q = (okp h k0 9 = true ∧ ∃ q, hR h k0 2 = some q ∧ Tr sc d 146 (17, [l0, l1, l2], [.ref q], h) Q) := t_getr k_146_14
theorem k_146_17 : lk 146 17 = some (.iload_n 1, 18, 1, 0, .null) := by decide +kernel
theorem x_146_17 : Tr sc d 146 (17, [l0, some (.int x), l2], [.ref k0], h) Q = Tr sc d 146 (18, [l0, some (.int x), l2], [.int x, .ref k0], h) Q := t_iload_n k_146_17 rfl
theorem k_146_18 : lk 146 18 = some (.aaload, 19, 0, 0, .null) := by decide +kernel
theorem x_146_18 : Tr sc d 146 (18, [l0, l1, l2], [.int i1, .ref k0], h) Q = (((okp h k0 14 || okp h k0 15) && inb i1 (LN k0)) = true ∧ ∃ q, hR h k0 i1.toNatClampNeg = some q ∧ Tr sc d 146 (19, [l0, l1, l2], [.ref q], h) Q) := t_aald k_146_18
theorem k_146_19 : lk 146 19 = some (.invokevirtual 366, 22, 48, 0, .null) := by decide +kernel
theorem x_146_19 : Tr sc (d + 1) 146 (19, [l0, l1, l2], [.ref k0], h) Q = (okp h k0 6 = true ∧ Tr sc d 48 (ent0 48 [.ref k0] h) (fun z => Tr sc (d + 1) 146 (22, [l0, l1, l2], z.1.toList ++ [], z.2) Q)) := t_cv (as := []) (r := []) k_146_19 rfl rfl (Nat.le_of_ble_eq_true rfl) (Nat.le_of_ble_eq_true rfl) (Nat.le_of_ble_eq_true rfl)
theorem k_146_22 : lk 146 22 = some (.ifCond .eq 11, 25, 33, 0, .null) := by decide +kernel
theorem x_146_22 : Tr sc d 146 (22, [l0, l1, l2], [.int i0], h) Q = if i0 = 0 then Tr sc d 146 (33, [l0, l1, l2], [], h) Q else Tr sc d 146 (25, [l0, l1, l2], [], h) Q := t_if k_146_22 rfl
theorem k_146_25 : lk 146 25 = some (.aload_n 0, 26, 0, 0, .null) := by decide +kernel
theorem x_146_25 : Tr sc d 146 (25, [some (.ref xk), l1, l2], [], h) Q = Tr sc d 146 (26, [some (.ref xk), l1, l2], [.ref xk], h) Q := t_aload_n k_146_25 rfl
theorem k_146_26 : lk 146 26 = some (.iconst 1, 27, 0, 0, .int 1) := by decide +kernel
theorem x_146_26 : Tr sc d 146 (26, [l0, l1, l2], [.ref k0], h) Q = Tr sc d 146 (27, [l0, l1, l2], [.int 1, .ref k0], h) Q := t_go k_146_26 rfl
theorem k_146_27 : lk 146 27 = some (.invokevirtual 118, 30, 145, 1, .null) := by decide +kernel
theorem x_146_27 : Tr sc (d + 1) 146 (27, [l0, l1, l2], [.int i1, .ref k0], h) Q = (okp h k0 9 = true ∧ Tr sc d 145 (ent0 145 [.ref k0, .int i1] h) (fun z => Tr sc (d + 1) 146 (30, [l0, l1, l2], z.1.toList ++ [], z.2) Q)) := t_cv (as := [.int i1]) (r := []) k_146_27 rfl rfl (Nat.le_of_ble_eq_true rfl) (Nat.le_of_ble_eq_true rfl) (Nat.le_of_ble_eq_true rfl)
theorem k_146_30 : lk 146 30 = some (.goto 4, 33, 34, 0, .null) := by decide +kernel
theorem x_146_30 : Tr sc d 146 (30, [l0, l1, l2], [.int i0], h) Q = Tr sc d 146 (34, [l0, l1, l2], [.int i0], h) Q := t_go k_146_30 rfl
theorem k_146_33 : lk 146 33 = some (.iconst 0, 34, 0, 0, .int 0) := by decide +kernel
theorem x_146_33 : Tr sc d 146 (33, [l0, l1, l2], [], h) Q = Tr sc d 146 (34, [l0, l1, l2], [.int 0], h) Q := t_go k_146_33 rfl
theorem k_146_34 : lk 146 34 = some (.ireturn, 35, 0, 0, .null) := by decide +kernel
theorem x_146_34 : Tr sc d 146 (34, [l0, l1, l2], [.int i0], h) Q = Q (some (.int i0), h) := t_ret k_146_34 (by rw [r_146]; rfl)
theorem e_146 : Tr sc d 146 (ent0 146 [.ref k0, .int i1, .int i2] h) Q = Tr sc d 146 (0, [some (.ref k0), some (.int i1), some (.int i2)], [], h) Q := by
  have e : mL 146 = 3 := by decide +kernel
  unfold ent0
  rw [e]
  rfl
theorem r_147 : mR 147 = some .int := by decide +kernel
theorem k_147_0 : lk 147 0 = some (.aload_n 0, 1, 0, 0, .null) := by decide +kernel
theorem x_147_0 : Tr sc d 147 (0, [some (.ref xk), l1, l2, l3], [], h) Q = Tr sc d 147 (1, [some (.ref xk), l1, l2, l3], [.ref xk], h) Q := t_aload_n k_147_0 rfl
theorem k_147_1 : lk 147 1 = some (.iload_n 1, 2, 1, 0, .null) := by decide +kernel
theorem x_147_1 : Tr sc d 147 (1, [l0, some (.int x), l2, l3], [.ref k0], h) Q = Tr sc d 147 (2, [l0, some (.int x), l2, l3], [.int x, .ref k0], h) Q := t_iload_n k_147_1 rfl
theorem k_147_2 : lk 147 2 = some (.iload_n 2, 3, 2, 0, .null) := by decide +kernel
theorem x_147_2 : Tr sc d 147 (2, [l0, l1, some (.int x), l3], [.int i1, .ref k0], h) Q = Tr sc d 147 (3, [l0, l1, some (.int x), l3], [.int x, .int i1, .ref k0], h) Q := t_iload_n k_147_2 rfl
theorem k_147_3 : lk 147 3 = some (.invokevirtual 196, 6, 146, 2, .null) := by decide +kernel
theorem x_147_3 : Tr sc (d + 1) 147 (3, [l0, l1, l2, l3], [.int i2, .int i1, .ref k0], h) Q = (okp h k0 9 = true ∧ Tr sc d 146 (ent0 146 [.ref k0, .int i1, .int i2] h) (fun z => Tr sc (d + 1) 147 (6, [l0, l1, l2, l3], z.1.toList ++ [], z.2) Q)) := t_cv (as := [.int i1, .int i2]) (r := []) k_147_3 rfl rfl (Nat.le_of_ble_eq_true rfl) (Nat.le_of_ble_eq_true rfl) (Nat.le_of_ble_eq_true rfl)
theorem k_147_6 : lk 147 6 = some (.istore_n 3, 7, 3, 0, .null) := by decide +kernel
theorem x_147_6 : Tr sc d 147 (6, [l0, l1, l2, l3], [.int i0], h) Q = Tr sc d 147 (7, [l0, l1, cl2 l2, some (.int i0)], [], h) Q := t_istore_n k_147_6 (Nat.le_of_ble_eq_true rfl)
theorem k_147_7 : lk 147 7 = some (.iload_n 3, 8, 3, 0, .null) := by decide +kernel
theorem x_147_7 : Tr sc d 147 (7, [l0, l1, l2, some (.int x)], [], h) Q = Tr sc d 147 (8, [l0, l1, l2, some (.int x)], [.int x], h) Q := t_iload_n k_147_7 rfl
theorem k_147_8 : lk 147 8 = some (.ifCond .eq 5, 11, 13, 0, .null) := by decide +kernel
theorem x_147_8 : Tr sc d 147 (8, [l0, l1, l2, l3], [.int i0], h) Q = if i0 = 0 then Tr sc d 147 (13, [l0, l1, l2, l3], [], h) Q else Tr sc d 147 (11, [l0, l1, l2, l3], [], h) Q := t_if k_147_8 rfl
theorem k_147_11 : lk 147 11 = some (.iload_n 3, 12, 3, 0, .null) := by decide +kernel
theorem x_147_11 : Tr sc d 147 (11, [l0, l1, l2, some (.int x)], [], h) Q = Tr sc d 147 (12, [l0, l1, l2, some (.int x)], [.int x], h) Q := t_iload_n k_147_11 rfl
theorem k_147_12 : lk 147 12 = some (.ireturn, 13, 0, 0, .null) := by decide +kernel
theorem x_147_12 : Tr sc d 147 (12, [l0, l1, l2, l3], [.int i0], h) Q = Q (some (.int i0), h) := t_ret k_147_12 (by rw [r_147]; rfl)
theorem k_147_13 : lk 147 13 = some (.aload_n 0, 14, 0, 0, .null) := by decide +kernel
theorem x_147_13 : Tr sc d 147 (13, [some (.ref xk), l1, l2, l3], [], h) Q = Tr sc d 147 (14, [some (.ref xk), l1, l2, l3], [.ref xk], h) Q := t_aload_n k_147_13 rfl
theorem k_147_14 : lk 147 14 = some (.getfield 20, 17, 9, 2, .null) := by decide +kernel
theorem x_147_14 : Tr sc d 147 (14, [l0, l1, l2, l3], [.ref k0], h) Q = (okp h k0 9 = true ∧ ∃ q, hR h k0 2 = some q ∧ Tr sc d 147 (17, [l0, l1, l2, l3], [.ref q], h) Q) := t_getr k_147_14
theorem k_147_17 : lk 147 17 = some (.iload_n 1, 18, 1, 0, .null) := by decide +kernel
theorem x_147_17 : Tr sc d 147 (17, [l0, some (.int x), l2, l3], [.ref k0], h) Q = Tr sc d 147 (18, [l0, some (.int x), l2, l3], [.int x, .ref k0], h) Q := t_iload_n k_147_17 rfl
theorem k_147_18 : lk 147 18 = some (.aaload, 19, 0, 0, .null) := by decide +kernel
theorem x_147_18 : Tr sc d 147 (18, [l0, l1, l2, l3], [.int i1, .ref k0], h) Q = (((okp h k0 14 || okp h k0 15) && inb i1 (LN k0)) = true ∧ ∃ q, hR h k0 i1.toNatClampNeg = some q ∧ Tr sc d 147 (19, [l0, l1, l2, l3], [.ref q], h) Q) := t_aald k_147_18
theorem k_147_19 : lk 147 19 = some (.invokevirtual 218, 22, 49, 0, .null) := by decide +kernel
theorem x_147_19 : Tr sc (d + 1) 147 (19, [l0, l1, l2, l3], [.ref k0], h) Q = (okp h k0 6 = true ∧ Tr sc d 49 (ent0 49 [.ref k0] h) (fun z => Tr sc (d + 1) 147 (22, [l0, l1, l2, l3], z.1.toList ++ [], z.2) Q)) := t_cv (as := []) (r := []) k_147_19 rfl rfl (Nat.le_of_ble_eq_true rfl) (Nat.le_of_ble_eq_true rfl) (Nat.le_of_ble_eq_true rfl)
theorem k_147_22 : lk 147 22 = some (.ifCond .eq 7, 25, 29, 0, .null) := by decide +kernel
theorem x_147_22 : Tr sc d 147 (22, [l0, l1, l2, l3], [.int i0], h) Q = if i0 = 0 then Tr sc d 147 (29, [l0, l1, l2, l3], [], h) Q else Tr sc d 147 (25, [l0, l1, l2, l3], [], h) Q := t_if k_147_22 rfl
theorem k_147_25 : lk 147 25 = some (.iconst 0, 26, 0, 0, .int 0) := by decide +kernel
theorem x_147_25 : Tr sc d 147 (25, [l0, l1, l2, l3], [], h) Q = Tr sc d 147 (26, [l0, l1, l2, l3], [.int 0], h) Q := t_go k_147_25 rfl
theorem k_147_26 : lk 147 26 = some (.goto 8, 29, 34, 0, .null) := by decide +kernel
theorem x_147_26 : Tr sc d 147 (26, [l0, l1, l2, l3], [.int i0], h) Q = Tr sc d 147 (34, [l0, l1, l2, l3], [.int i0], h) Q := t_go k_147_26 rfl
theorem k_147_29 : lk 147 29 = some (.aload_n 0, 30, 0, 0, .null) := by decide +kernel
theorem x_147_29 : Tr sc d 147 (29, [some (.ref xk), l1, l2, l3], [], h) Q = Tr sc d 147 (30, [some (.ref xk), l1, l2, l3], [.ref xk], h) Q := t_aload_n k_147_29 rfl
theorem k_147_30 : lk 147 30 = some (.iconst 3, 31, 0, 0, .int 3) := by decide +kernel
theorem x_147_30 : Tr sc d 147 (30, [l0, l1, l2, l3], [.ref k0], h) Q = Tr sc d 147 (31, [l0, l1, l2, l3], [.int 3, .ref k0], h) Q := t_go k_147_30 rfl
theorem k_147_31 : lk 147 31 = some (.invokevirtual 118, 34, 145, 1, .null) := by decide +kernel
theorem x_147_31 : Tr sc (d + 1) 147 (31, [l0, l1, l2, l3], [.int i1, .ref k0], h) Q = (okp h k0 9 = true ∧ Tr sc d 145 (ent0 145 [.ref k0, .int i1] h) (fun z => Tr sc (d + 1) 147 (34, [l0, l1, l2, l3], z.1.toList ++ [], z.2) Q)) := t_cv (as := [.int i1]) (r := []) k_147_31 rfl rfl (Nat.le_of_ble_eq_true rfl) (Nat.le_of_ble_eq_true rfl) (Nat.le_of_ble_eq_true rfl)
theorem k_147_34 : lk 147 34 = some (.ireturn, 35, 0, 0, .null) := by decide +kernel
theorem x_147_34 : Tr sc d 147 (34, [l0, l1, l2, l3], [.int i0], h) Q = Q (some (.int i0), h) := t_ret k_147_34 (by rw [r_147]; rfl)
theorem e_147 : Tr sc d 147 (ent0 147 [.ref k0, .int i1, .int i2] h) Q = Tr sc d 147 (0, [some (.ref k0), some (.int i1), some (.int i2), none], [], h) Q := by
  have e : mL 147 = 4 := by decide +kernel
  unfold ent0
  rw [e]
  rfl
theorem r_148 : mR 148 = some .int := by decide +kernel
theorem k_148_0 : lk 148 0 = some (.iload_n 1, 1, 1, 0, .null) := by decide +kernel
theorem x_148_0 : Tr sc d 148 (0, [l0, some (.int x), l2, l3, l4, l5], [], h) Q = Tr sc d 148 (1, [l0, some (.int x), l2, l3, l4, l5], [.int x], h) Q := t_iload_n k_148_0 rfl
theorem k_148_1 : lk 148 1 = some (.invokestatic 159, 4, 143, 1, .null) := by decide +kernel
theorem x_148_1 : Tr sc (d + 1) 148 (1, [l0, l1, l2, l3, l4, l5], [.int i0], h) Q = Tr sc d 143 (ent0 143 [.int i0] h) (fun z => Tr sc (d + 1) 148 (4, [l0, l1, l2, l3, l4, l5], z.1.toList ++ [], z.2) Q) := t_cs (as := [.int i0]) (r := []) k_148_1 (by decide) rfl rfl (Nat.le_of_ble_eq_true rfl) (Nat.le_of_ble_eq_true rfl)
theorem k_148_4 : lk 148 4 = some (.ifCond .eq 15, 7, 19, 0, .null) := by decide +kernel
theorem x_148_4 : Tr sc d 148 (4, [l0, l1, l2, l3, l4, l5], [.int i0], h) Q = if i0 = 0 then Tr sc d 148 (19, [l0, l1, l2, l3, l4, l5], [], h) Q else Tr sc d 148 (7, [l0, l1, l2, l3, l4, l5], [], h) Q := t_if k_148_4 rfl
theorem k_148_7 : lk 148 7 = some (.iload_n 2, 8, 2, 0, .null) := by decide +kernel
theorem x_148_7 : Tr sc d 148 (7, [l0, l1, some (.int x), l3, l4, l5], [], h) Q = Tr sc d 148 (8, [l0, l1, some (.int x), l3, l4, l5], [.int x], h) Q := t_iload_n k_148_7 rfl
theorem k_148_8 : lk 148 8 = some (.invokestatic 114, 11, 141, 1, .null) := by decide +kernel
theorem x_148_8 : Tr sc (d + 1) 148 (8, [l0, l1, l2, l3, l4, l5], [.int i0], h) Q = Tr sc d 141 (ent0 141 [.int i0] h) (fun z => Tr sc (d + 1) 148 (11, [l0, l1, l2, l3, l4, l5], z.1.toList ++ [], z.2) Q) := t_cs (as := [.int i0]) (r := []) k_148_8 (by decide) rfl rfl (Nat.le_of_ble_eq_true rfl) (Nat.le_of_ble_eq_true rfl)
theorem k_148_11 : lk 148 11 = some (.ifCond .eq 8, 14, 19, 0, .null) := by decide +kernel
theorem x_148_11 : Tr sc d 148 (11, [l0, l1, l2, l3, l4, l5], [.int i0], h) Q = if i0 = 0 then Tr sc d 148 (19, [l0, l1, l2, l3, l4, l5], [], h) Q else Tr sc d 148 (14, [l0, l1, l2, l3, l4, l5], [], h) Q := t_if k_148_11 rfl
theorem k_148_14 : lk 148 14 = some (.iload 4, 16, 4, 0, .null) := by decide +kernel
theorem x_148_14 : Tr sc d 148 (14, [l0, l1, l2, l3, some (.int x), l5], [], h) Q = Tr sc d 148 (16, [l0, l1, l2, l3, some (.int x), l5], [.int x], h) Q := t_iload k_148_14 rfl
theorem k_148_16 : lk 148 16 = some (.ifCond .ne 5, 19, 21, 0, .null) := by decide +kernel
theorem x_148_16 : Tr sc d 148 (16, [l0, l1, l2, l3, l4, l5], [.int i0], h) Q = if i0 = 0 then Tr sc d 148 (19, [l0, l1, l2, l3, l4, l5], [], h) Q else Tr sc d 148 (21, [l0, l1, l2, l3, l4, l5], [], h) Q := t_if k_148_16 rfl
theorem k_148_19 : lk 148 19 = some (.iconst (-1), 20, 0, 0, .int (-1)) := by decide +kernel
theorem x_148_19 : Tr sc d 148 (19, [l0, l1, l2, l3, l4, l5], [], h) Q = Tr sc d 148 (20, [l0, l1, l2, l3, l4, l5], [.int (-1)], h) Q := t_go k_148_19 rfl
theorem k_148_20 : lk 148 20 = some (.ireturn, 21, 0, 0, .null) := by decide +kernel
theorem x_148_20 : Tr sc d 148 (20, [l0, l1, l2, l3, l4, l5], [.int i0], h) Q = Q (some (.int i0), h) := t_ret k_148_20 (by rw [r_148]; rfl)
theorem k_148_21 : lk 148 21 = some (.aload_n 0, 22, 0, 0, .null) := by decide +kernel
theorem x_148_21 : Tr sc d 148 (21, [some (.ref xk), l1, l2, l3, l4, l5], [], h) Q = Tr sc d 148 (22, [some (.ref xk), l1, l2, l3, l4, l5], [.ref xk], h) Q := t_aload_n k_148_21 rfl
theorem k_148_22 : lk 148 22 = some (.getfield 20, 25, 9, 2, .null) := by decide +kernel
theorem x_148_22 : Tr sc d 148 (22, [l0, l1, l2, l3, l4, l5], [.ref k0], h) Q = (okp h k0 9 = true ∧ ∃ q, hR h k0 2 = some q ∧ Tr sc d 148 (25, [l0, l1, l2, l3, l4, l5], [.ref q], h) Q) := t_getr k_148_22
theorem k_148_25 : lk 148 25 = some (.iload_n 1, 26, 1, 0, .null) := by decide +kernel
theorem x_148_25 : Tr sc d 148 (25, [l0, some (.int x), l2, l3, l4, l5], [.ref k0], h) Q = Tr sc d 148 (26, [l0, some (.int x), l2, l3, l4, l5], [.int x, .ref k0], h) Q := t_iload_n k_148_25 rfl
theorem k_148_26 : lk 148 26 = some (.aaload, 27, 0, 0, .null) := by decide +kernel
theorem x_148_26 : Tr sc d 148 (26, [l0, l1, l2, l3, l4, l5], [.int i1, .ref k0], h) Q = (((okp h k0 14 || okp h k0 15) && inb i1 (LN k0)) = true ∧ ∃ q, hR h k0 i1.toNatClampNeg = some q ∧ Tr sc d 148 (27, [l0, l1, l2, l3, l4, l5], [.ref q], h) Q) := t_aald k_148_26
theorem k_148_27 : lk 148 27 = some (.invokevirtual 366, 30, 48, 0, .null) := by decide +kernel
theorem x_148_27 : Tr sc (d + 1) 148 (27, [l0, l1, l2, l3, l4, l5], [.ref k0], h) Q = (okp h k0 6 = true ∧ Tr sc d 48 (ent0 48 [.ref k0] h) (fun z => Tr sc (d + 1) 148 (30, [l0, l1, l2, l3, l4, l5], z.1.toList ++ [], z.2) Q)) := t_cv (as := []) (r := []) k_148_27 rfl rfl (Nat.le_of_ble_eq_true rfl) (Nat.le_of_ble_eq_true rfl) (Nat.le_of_ble_eq_true rfl)
theorem k_148_30 : lk 148 30 = some (.ifCond .ne 15, 33, 45, 0, .null) := by decide +kernel
theorem x_148_30 : Tr sc d 148 (30, [l0, l1, l2, l3, l4, l5], [.int i0], h) Q = if i0 = 0 then Tr sc d 148 (33, [l0, l1, l2, l3, l4, l5], [], h) Q else Tr sc d 148 (45, [l0, l1, l2, l3, l4, l5], [], h) Q := t_if k_148_30 rfl
theorem k_148_33 : lk 148 33 = some (.aload_n 0, 34, 0, 0, .null) := by decide +kernel
theorem x_148_33 : Tr sc d 148 (33, [some (.ref xk), l1, l2, l3, l4, l5], [], h) Q = Tr sc d 148 (34, [some (.ref xk), l1, l2, l3, l4, l5], [.ref xk], h) Q := t_aload_n k_148_33 rfl
theorem k_148_34 : lk 148 34 = some (.getfield 11, 37, 9, 0, .null) := by decide +kernel
theorem x_148_34 : Tr sc d 148 (34, [l0, l1, l2, l3, l4, l5], [.ref k0], h) Q = (okp h k0 9 = true ∧ ∃ q, hR h k0 0 = some q ∧ Tr sc d 148 (37, [l0, l1, l2, l3, l4, l5], [.ref q], h) Q) := t_getr k_148_34
theorem k_148_37 : lk 148 37 = some (.iload_n 2, 38, 2, 0, .null) := by decide +kernel
theorem x_148_37 : Tr sc d 148 (37, [l0, l1, some (.int x), l3, l4, l5], [.ref k0], h) Q = Tr sc d 148 (38, [l0, l1, some (.int x), l3, l4, l5], [.int x, .ref k0], h) Q := t_iload_n k_148_37 rfl
theorem k_148_38 : lk 148 38 = some (.aaload, 39, 0, 0, .null) := by decide +kernel
theorem x_148_38 : Tr sc d 148 (38, [l0, l1, l2, l3, l4, l5], [.int i1, .ref k0], h) Q = (((okp h k0 14 || okp h k0 15) && inb i1 (LN k0)) = true ∧ ∃ q, hR h k0 i1.toNatClampNeg = some q ∧ Tr sc d 148 (39, [l0, l1, l2, l3, l4, l5], [.ref q], h) Q) := t_aald k_148_38
theorem k_148_39 : lk 148 39 = some (.invokevirtual 125, 42, 42, 0, .null) := by decide +kernel
theorem x_148_39 : Tr sc (d + 1) 148 (39, [l0, l1, l2, l3, l4, l5], [.ref k0], h) Q = (okp h k0 5 = true ∧ Tr sc d 42 (ent0 42 [.ref k0] h) (fun z => Tr sc (d + 1) 148 (42, [l0, l1, l2, l3, l4, l5], z.1.toList ++ [], z.2) Q)) := t_cv (as := []) (r := []) k_148_39 rfl rfl (Nat.le_of_ble_eq_true rfl) (Nat.le_of_ble_eq_true rfl) (Nat.le_of_ble_eq_true rfl)
theorem k_148_42 : lk 148 42 = some (.ifCond .eq 9, 45, 51, 0, .null) := by decide +kernel
theorem x_148_42 : Tr sc d 148 (42, [l0, l1, l2, l3, l4, l5], [.int i0], h) Q = if i0 = 0 then Tr sc d 148 (51, [l0, l1, l2, l3, l4, l5], [], h) Q else Tr sc d 148 (45, [l0, l1, l2, l3, l4, l5], [], h) Q := t_if k_148_42 rfl
theorem k_148_45 : lk 148 45 = some (.aload_n 0, 46, 0, 0, .null) := by decide +kernel
theorem x_148_45 : Tr sc d 148 (45, [some (.ref xk), l1, l2, l3, l4, l5], [], h) Q = Tr sc d 148 (46, [some (.ref xk), l1, l2, l3, l4, l5], [.ref xk], h) Q := t_aload_n k_148_45 rfl
theorem k_148_46 : lk 148 46 = some (.iconst 1, 47, 0, 0, .int 1) := by decide +kernel
theorem x_148_46 : Tr sc d 148 (46, [l0, l1, l2, l3, l4, l5], [.ref k0], h) Q = Tr sc d 148 (47, [l0, l1, l2, l3, l4, l5], [.int 1, .ref k0], h) Q := t_go k_148_46 rfl
theorem k_148_47 : lk 148 47 = some (.invokevirtual 118, 50, 145, 1, .null) := by decide +kernel
theorem x_148_47 : Tr sc (d + 1) 148 (47, [l0, l1, l2, l3, l4, l5], [.int i1, .ref k0], h) Q = (okp h k0 9 = true ∧ Tr sc d 145 (ent0 145 [.ref k0, .int i1] h) (fun z => Tr sc (d + 1) 148 (50, [l0, l1, l2, l3, l4, l5], z.1.toList ++ [], z.2) Q)) := t_cv (as := [.int i1]) (r := []) k_148_47 rfl rfl (Nat.le_of_ble_eq_true rfl) (Nat.le_of_ble_eq_true rfl) (Nat.le_of_ble_eq_true rfl)
theorem k_148_50 : lk 148 50 = some (.ireturn, 51, 0, 0, .null) := by decide +kernel
theorem x_148_50 : Tr sc d 148 (50, [l0, l1, l2, l3, l4, l5], [.int i0], h) Q = Q (some (.int i0), h) := t_ret k_148_50 (by rw [r_148]; rfl)
theorem k_148_51 : lk 148 51 = some (.aload_n 0, 52, 0, 0, .null) := by decide +kernel
theorem x_148_51 : Tr sc d 148 (51, [some (.ref xk), l1, l2, l3, l4, l5], [], h) Q = Tr sc d 148 (52, [some (.ref xk), l1, l2, l3, l4, l5], [.ref xk], h) Q := t_aload_n k_148_51 rfl
theorem k_148_52 : lk 148 52 = some (.getfield 11, 55, 9, 0, .null) := by decide +kernel
theorem x_148_52 : Tr sc d 148 (52, [l0, l1, l2, l3, l4, l5], [.ref k0], h) Q = (okp h k0 9 = true ∧ ∃ q, hR h k0 0 = some q ∧ Tr sc d 148 (55, [l0, l1, l2, l3, l4, l5], [.ref q], h) Q) := t_getr k_148_52
theorem k_148_55 : lk 148 55 = some (.iload_n 2, 56, 2, 0, .null) := by decide +kernel
theorem x_148_55 : Tr sc d 148 (55, [l0, l1, some (.int x), l3, l4, l5], [.ref k0], h) Q = Tr sc d 148 (56, [l0, l1, some (.int x), l3, l4, l5], [.int x, .ref k0], h) Q := t_iload_n k_148_55 rfl
theorem k_148_56 : lk 148 56 = some (.aaload, 57, 0, 0, .null) := by decide +kernel
theorem x_148_56 : Tr sc d 148 (56, [l0, l1, l2, l3, l4, l5], [.int i1, .ref k0], h) Q = (((okp h k0 14 || okp h k0 15) && inb i1 (LN k0)) = true ∧ ∃ q, hR h k0 i1.toNatClampNeg = some q ∧ Tr sc d 148 (57, [l0, l1, l2, l3, l4, l5], [.ref q], h) Q) := t_aald k_148_56
theorem k_148_57 : lk 148 57 = some (.getfield 135, 60, 5, 1, .int 0) := by decide +kernel
theorem x_148_57 : Tr sc d 148 (57, [l0, l1, l2, l3, l4, l5], [.ref k0], h) Q = (okp h k0 5 = true ∧ Tr sc d 148 (60, [l0, l1, l2, l3, l4, l5], [.int (hI h k0 1)], h) Q) := t_gd k_148_57 rfl
theorem k_148_60 : lk 148 60 = some (.iload_n 3, 61, 3, 0, .null) := by decide +kernel
theorem x_148_60 : Tr sc d 148 (60, [l0, l1, l2, some (.int x), l4, l5], [.int i0], h) Q = Tr sc d 148 (61, [l0, l1, l2, some (.int x), l4, l5], [.int x, .int i0], h) Q := t_iload_n k_148_60 rfl
theorem k_148_61 : lk 148 61 = some (.if_icmp .ge 9, 64, 70, 0, .null) := by decide +kernel
theorem x_148_61 : Tr sc d 148 (61, [l0, l1, l2, l3, l4, l5], [.int i1, .int i0], h) Q = if i1 ≤ i0 then Tr sc d 148 (70, [l0, l1, l2, l3, l4, l5], [], h) Q else Tr sc d 148 (64, [l0, l1, l2, l3, l4, l5], [], h) Q := t_if k_148_61 rfl
theorem k_148_64 : lk 148 64 = some (.aload_n 0, 65, 0, 0, .null) := by decide +kernel
theorem x_148_64 : Tr sc d 148 (64, [some (.ref xk), l1, l2, l3, l4, l5], [], h) Q = Tr sc d 148 (65, [some (.ref xk), l1, l2, l3, l4, l5], [.ref xk], h) Q := t_aload_n k_148_64 rfl
theorem k_148_65 : lk 148 65 = some (.iconst 5, 66, 0, 0, .int 5) := by decide +kernel
theorem x_148_65 : Tr sc d 148 (65, [l0, l1, l2, l3, l4, l5], [.ref k0], h) Q = Tr sc d 148 (66, [l0, l1, l2, l3, l4, l5], [.int 5, .ref k0], h) Q := t_go k_148_65 rfl
theorem k_148_66 : lk 148 66 = some (.invokevirtual 118, 69, 145, 1, .null) := by decide +kernel
theorem x_148_66 : Tr sc (d + 1) 148 (66, [l0, l1, l2, l3, l4, l5], [.int i1, .ref k0], h) Q = (okp h k0 9 = true ∧ Tr sc d 145 (ent0 145 [.ref k0, .int i1] h) (fun z => Tr sc (d + 1) 148 (69, [l0, l1, l2, l3, l4, l5], z.1.toList ++ [], z.2) Q)) := t_cv (as := [.int i1]) (r := []) k_148_66 rfl rfl (Nat.le_of_ble_eq_true rfl) (Nat.le_of_ble_eq_true rfl) (Nat.le_of_ble_eq_true rfl)
theorem k_148_69 : lk 148 69 = some (.ireturn, 70, 0, 0, .null) := by decide +kernel
theorem x_148_69 : Tr sc d 148 (69, [l0, l1, l2, l3, l4, l5], [.int i0], h) Q = Q (some (.int i0), h) := t_ret k_148_69 (by rw [r_148]; rfl)
theorem k_148_70 : lk 148 70 = some (.iconst 0, 71, 0, 0, .int 0) := by decide +kernel
theorem x_148_70 : Tr sc d 148 (70, [l0, l1, l2, l3, l4, l5], [], h) Q = Tr sc d 148 (71, [l0, l1, l2, l3, l4, l5], [.int 0], h) Q := t_go k_148_70 rfl
theorem k_148_71 : lk 148 71 = some (.istore 5, 73, 5, 0, .null) := by decide +kernel
theorem x_148_71 : Tr sc d 148 (71, [l0, l1, l2, l3, l4, l5], [.int i0], h) Q = Tr sc d 148 (73, [l0, l1, l2, l3, cl2 l4, some (.int i0)], [], h) Q := t_istore k_148_71 (Nat.le_of_ble_eq_true rfl)
theorem k_148_73 : lk 148 73 = some (.iload 5, 75, 5, 0, .null) := by decide +kernel
theorem x_148_73 : Tr sc d 148 (73, [l0, l1, l2, l3, l4, some (.int x)], [], h) Q = Tr sc d 148 (75, [l0, l1, l2, l3, l4, some (.int x)], [.int x], h) Q := t_iload k_148_73 rfl
theorem k_148_75 : lk 148 75 = some (.iload_n 3, 76, 3, 0, .null) := by decide +kernel
theorem x_148_75 : Tr sc d 148 (75, [l0, l1, l2, some (.int x), l4, l5], [.int i0], h) Q = Tr sc d 148 (76, [l0, l1, l2, some (.int x), l4, l5], [.int x, .int i0], h) Q := t_iload_n k_148_75 rfl
theorem k_148_76 : lk 148 76 = some (.if_icmp .ge 39, 79, 115, 0, .null) := by decide +kernel
theorem x_148_76 : Tr sc d 148 (76, [l0, l1, l2, l3, l4, l5], [.int i1, .int i0], h) Q = if i1 ≤ i0 then Tr sc d 148 (115, [l0, l1, l2, l3, l4, l5], [], h) Q else Tr sc d 148 (79, [l0, l1, l2, l3, l4, l5], [], h) Q := t_if k_148_76 rfl
theorem k_148_79 : lk 148 79 = some (.aload_n 0, 80, 0, 0, .null) := by decide +kernel
theorem x_148_79 : Tr sc d 148 (79, [some (.ref xk), l1, l2, l3, l4, l5], [], h) Q = Tr sc d 148 (80, [some (.ref xk), l1, l2, l3, l4, l5], [.ref xk], h) Q := t_aload_n k_148_79 rfl
theorem k_148_80 : lk 148 80 = some (.getfield 20, 83, 9, 2, .null) := by decide +kernel
theorem x_148_80 : Tr sc d 148 (80, [l0, l1, l2, l3, l4, l5], [.ref k0], h) Q = (okp h k0 9 = true ∧ ∃ q, hR h k0 2 = some q ∧ Tr sc d 148 (83, [l0, l1, l2, l3, l4, l5], [.ref q], h) Q) := t_getr k_148_80
theorem k_148_83 : lk 148 83 = some (.iload_n 1, 84, 1, 0, .null) := by decide +kernel
theorem x_148_83 : Tr sc d 148 (83, [l0, some (.int x), l2, l3, l4, l5], [.ref k0], h) Q = Tr sc d 148 (84, [l0, some (.int x), l2, l3, l4, l5], [.int x, .ref k0], h) Q := t_iload_n k_148_83 rfl
theorem k_148_84 : lk 148 84 = some (.aaload, 85, 0, 0, .null) := by decide +kernel
theorem x_148_84 : Tr sc d 148 (84, [l0, l1, l2, l3, l4, l5], [.int i1, .ref k0], h) Q = (((okp h k0 14 || okp h k0 15) && inb i1 (LN k0)) = true ∧ ∃ q, hR h k0 i1.toNatClampNeg = some q ∧ Tr sc d 148 (85, [l0, l1, l2, l3, l4, l5], [.ref q], h) Q) := t_aald k_148_84
theorem k_148_85 : lk 148 85 = some (.aload_n 0, 86, 0, 0, .null) := by decide +kernel
theorem x_148_85 : Tr sc d 148 (85, [some (.ref xk), l1, l2, l3, l4, l5], [.ref k0], h) Q = Tr sc d 148 (86, [some (.ref xk), l1, l2, l3, l4, l5], [.ref xk, .ref k0], h) Q := t_aload_n k_148_85 rfl
theorem k_148_86 : lk 148 86 = some (.getfield 11, 89, 9, 0, .null) := by decide +kernel
theorem x_148_86 : Tr sc d 148 (86, [l0, l1, l2, l3, l4, l5], [.ref k1, .ref k0], h) Q = (okp h k1 9 = true ∧ ∃ q, hR h k1 0 = some q ∧ Tr sc d 148 (89, [l0, l1, l2, l3, l4, l5], [.ref q, .ref k0], h) Q) := t_getr k_148_86
theorem k_148_89 : lk 148 89 = some (.iload_n 2, 90, 2, 0, .null) := by decide +kernel
theorem x_148_89 : Tr sc d 148 (89, [l0, l1, some (.int x), l3, l4, l5], [.ref k1, .ref k0], h) Q = Tr sc d 148 (90, [l0, l1, some (.int x), l3, l4, l5], [.int x, .ref k1, .ref k0], h) Q := t_iload_n k_148_89 rfl
theorem k_148_90 : lk 148 90 = some (.aaload, 91, 0, 0, .null) := by decide +kernel
theorem x_148_90 : Tr sc d 148 (90, [l0, l1, l2, l3, l4, l5], [.int i2, .ref k1, .ref k0], h) Q = (((okp h k1 14 || okp h k1 15) && inb i2 (LN k1)) = true ∧ ∃ q, hR h k1 i2.toNatClampNeg = some q ∧ Tr sc d 148 (91, [l0, l1, l2, l3, l4, l5], [.ref q, .ref k0], h) Q) := t_aald k_148_90
theorem k_148_91 : lk 148 91 = some (.getfield 132, 94, 5, 0, .null) := by decide +kernel
theorem x_148_91 : Tr sc d 148 (91, [l0, l1, l2, l3, l4, l5], [.ref k1, .ref k0], h) Q = (okp h k1 5 = true ∧ ∃ q, hR h k1 0 = some q ∧ Tr sc d 148 (94, [l0, l1, l2, l3, l4, l5], [.ref q, .ref k0], h) Q) := t_getr k_148_91
theorem k_148_94 : lk 148 94 = some (.iload 5, 96, 5, 0, .null) := by decide +kernel
theorem x_148_94 : Tr sc d 148 (94, [l0, l1, l2, l3, l4, some (.int x)], [.ref k1, .ref k0], h) Q = Tr sc d 148 (96, [l0, l1, l2, l3, l4, some (.int x)], [.int x, .ref k1, .ref k0], h) Q := t_iload k_148_94 rfl
theorem k_148_96 : lk 148 96 = some (.iaload, 97, 0, 0, .null) := by decide +kernel
theorem x_148_96 : Tr sc d 148 (96, [l0, l1, l2, l3, l4, l5], [.int i2, .ref k1, .ref k0], h) Q = (iOk sc h k1 i2 ∧ Tr sc d 148 (97, [l0, l1, l2, l3, l4, l5], [.int (iRd sc h k1 i2), .ref k0], h) Q) := t_iald k_148_96
theorem k_148_97 : lk 148 97 = some (.invokevirtual 206, 100, 50, 1, .null) := by decide +kernel
theorem x_148_97 : Tr sc (d + 1) 148 (97, [l0, l1, l2, l3, l4, l5], [.int i1, .ref k0], h) Q = (okp h k0 6 = true ∧ Tr sc d 50 (ent0 50 [.ref k0, .int i1] h) (fun z => Tr sc (d + 1) 148 (100, [l0, l1, l2, l3, l4, l5], z.1.toList ++ [], z.2) Q)) := t_cv (as := [.int i1]) (r := []) k_148_97 rfl rfl (Nat.le_of_ble_eq_true rfl) (Nat.le_of_ble_eq_true rfl) (Nat.le_of_ble_eq_true rfl)
theorem k_148_100 : lk 148 100 = some (.ifCond .ne 9, 103, 109, 0, .null) := by decide +kernel
theorem x_148_100 : Tr sc d 148 (100, [l0, l1, l2, l3, l4, l5], [.int i0], h) Q = if i0 = 0 then Tr sc d 148 (103, [l0, l1, l2, l3, l4, l5], [], h) Q else Tr sc d 148 (109, [l0, l1, l2, l3, l4, l5], [], h) Q := t_if k_148_100 rfl
theorem k_148_103 : lk 148 103 = some (.aload_n 0, 104, 0, 0, .null) := by decide +kernel
theorem x_148_103 : Tr sc d 148 (103, [some (.ref xk), l1, l2, l3, l4, l5], [], h) Q = Tr sc d 148 (104, [some (.ref xk), l1, l2, l3, l4, l5], [.ref xk], h) Q := t_aload_n k_148_103 rfl
theorem k_148_104 : lk 148 104 = some (.iconst 3, 105, 0, 0, .int 3) := by decide +kernel
theorem x_148_104 : Tr sc d 148 (104, [l0, l1, l2, l3, l4, l5], [.ref k0], h) Q = Tr sc d 148 (105, [l0, l1, l2, l3, l4, l5], [.int 3, .ref k0], h) Q := t_go k_148_104 rfl
theorem k_148_105 : lk 148 105 = some (.invokevirtual 118, 108, 145, 1, .null) := by decide +kernel
theorem x_148_105 : Tr sc (d + 1) 148 (105, [l0, l1, l2, l3, l4, l5], [.int i1, .ref k0], h) Q = (okp h k0 9 = true ∧ Tr sc d 145 (ent0 145 [.ref k0, .int i1] h) (fun z => Tr sc (d + 1) 148 (108, [l0, l1, l2, l3, l4, l5], z.1.toList ++ [], z.2) Q)) := t_cv (as := [.int i1]) (r := []) k_148_105 rfl rfl (Nat.le_of_ble_eq_true rfl) (Nat.le_of_ble_eq_true rfl) (Nat.le_of_ble_eq_true rfl)
theorem k_148_108 : lk 148 108 = some (.ireturn, 109, 0, 0, .null) := by decide +kernel
theorem x_148_108 : Tr sc d 148 (108, [l0, l1, l2, l3, l4, l5], [.int i0], h) Q = Q (some (.int i0), h) := t_ret k_148_108 (by rw [r_148]; rfl)
theorem k_148_109 : lk 148 109 = some (.iinc 5 1, 112, 5, 0, .int 1) := by decide +kernel
theorem x_148_109 : Tr sc d 148 (109, [l0, l1, l2, l3, l4, some (.int x)], [], h) Q = Tr sc d 148 (112, [l0, l1, l2, l3, cl2 l4, some (.int (x + 1))], [], h) Q := t_inc k_148_109 rfl (Nat.le_of_ble_eq_true rfl)
theorem k_148_112 : lk 148 112 = some (.goto (-39), 115, 73, 0, .null) := by decide +kernel
theorem x_148_112 : Tr sc d 148 (112, [l0, l1, l2, l3, l4, l5], [], h) Q = Tr sc d 148 (73, [l0, l1, l2, l3, l4, l5], [], h) Q := t_go k_148_112 rfl
theorem k_148_115 : lk 148 115 = some (.iconst 0, 116, 0, 0, .int 0) := by decide +kernel
theorem x_148_115 : Tr sc d 148 (115, [l0, l1, l2, l3, l4, l5], [], h) Q = Tr sc d 148 (116, [l0, l1, l2, l3, l4, l5], [.int 0], h) Q := t_go k_148_115 rfl
theorem k_148_116 : lk 148 116 = some (.ireturn, 117, 0, 0, .null) := by decide +kernel
theorem x_148_116 : Tr sc d 148 (116, [l0, l1, l2, l3, l4, l5], [.int i0], h) Q = Q (some (.int i0), h) := t_ret k_148_116 (by rw [r_148]; rfl)
theorem e_148 : Tr sc d 148 (ent0 148 [.ref k0, .int i1, .int i2, .int i3, .int i4] h) Q = Tr sc d 148 (0, [some (.ref k0), some (.int i1), some (.int i2), some (.int i3), some (.int i4), none], [], h) Q := by
  have e : mL 148 = 6 := by decide +kernel
  unfold ent0
  rw [e]
  rfl
theorem r_149 : mR 149 = some .int := by decide +kernel
theorem k_149_0 : lk 149 0 = some (.iload_n 1, 1, 1, 0, .null) := by decide +kernel
theorem x_149_0 : Tr sc d 149 (0, [l0, some (.int x), l2, l3], [], h) Q = Tr sc d 149 (1, [l0, some (.int x), l2, l3], [.int x], h) Q := t_iload_n k_149_0 rfl
theorem k_149_1 : lk 149 1 = some (.invokestatic 159, 4, 143, 1, .null) := by decide +kernel
theorem x_149_1 : Tr sc (d + 1) 149 (1, [l0, l1, l2, l3], [.int i0], h) Q = Tr sc d 143 (ent0 143 [.int i0] h) (fun z => Tr sc (d + 1) 149 (4, [l0, l1, l2, l3], z.1.toList ++ [], z.2) Q) := t_cs (as := [.int i0]) (r := []) k_149_1 (by decide) rfl rfl (Nat.le_of_ble_eq_true rfl) (Nat.le_of_ble_eq_true rfl)
theorem k_149_4 : lk 149 4 = some (.ifCond .eq 17, 7, 21, 0, .null) := by decide +kernel
theorem x_149_4 : Tr sc d 149 (4, [l0, l1, l2, l3], [.int i0], h) Q = if i0 = 0 then Tr sc d 149 (21, [l0, l1, l2, l3], [], h) Q else Tr sc d 149 (7, [l0, l1, l2, l3], [], h) Q := t_if k_149_4 rfl
theorem k_149_7 : lk 149 7 = some (.iload_n 2, 8, 2, 0, .null) := by decide +kernel
theorem x_149_7 : Tr sc d 149 (7, [l0, l1, some (.int x), l3], [], h) Q = Tr sc d 149 (8, [l0, l1, some (.int x), l3], [.int x], h) Q := t_iload_n k_149_7 rfl
theorem k_149_8 : lk 149 8 = some (.invokestatic 159, 11, 143, 1, .null) := by decide +kernel
theorem x_149_8 : Tr sc (d + 1) 149 (8, [l0, l1, l2, l3], [.int i0], h) Q = Tr sc d 143 (ent0 143 [.int i0] h) (fun z => Tr sc (d + 1) 149 (11, [l0, l1, l2, l3], z.1.toList ++ [], z.2) Q) := t_cs (as := [.int i0]) (r := []) k_149_8 (by decide) rfl rfl (Nat.le_of_ble_eq_true rfl) (Nat.le_of_ble_eq_true rfl)
theorem k_149_11 : lk 149 11 = some (.ifCond .eq 10, 14, 21, 0, .null) := by decide +kernel
theorem x_149_11 : Tr sc d 149 (11, [l0, l1, l2, l3], [.int i0], h) Q = if i0 = 0 then Tr sc d 149 (21, [l0, l1, l2, l3], [], h) Q else Tr sc d 149 (14, [l0, l1, l2, l3], [], h) Q := t_if k_149_11 rfl
theorem k_149_14 : lk 149 14 = some (.iload_n 3, 15, 3, 0, .null) := by decide +kernel
theorem x_149_14 : Tr sc d 149 (14, [l0, l1, l2, some (.int x)], [], h) Q = Tr sc d 149 (15, [l0, l1, l2, some (.int x)], [.int x], h) Q := t_iload_n k_149_14 rfl
theorem k_149_15 : lk 149 15 = some (.invokestatic 114, 18, 141, 1, .null) := by decide +kernel
theorem x_149_15 : Tr sc (d + 1) 149 (15, [l0, l1, l2, l3], [.int i0], h) Q = Tr sc d 141 (ent0 141 [.int i0] h) (fun z => Tr sc (d + 1) 149 (18, [l0, l1, l2, l3], z.1.toList ++ [], z.2) Q) := t_cs (as := [.int i0]) (r := []) k_149_15 (by decide) rfl rfl (Nat.le_of_ble_eq_true rfl) (Nat.le_of_ble_eq_true rfl)
theorem k_149_18 : lk 149 18 = some (.ifCond .ne 5, 21, 23, 0, .null) := by decide +kernel
theorem x_149_18 : Tr sc d 149 (18, [l0, l1, l2, l3], [.int i0], h) Q = if i0 = 0 then Tr sc d 149 (21, [l0, l1, l2, l3], [], h) Q else Tr sc d 149 (23, [l0, l1, l2, l3], [], h) Q := t_if k_149_18 rfl
theorem k_149_21 : lk 149 21 = some (.iconst (-1), 22, 0, 0, .int (-1)) := by decide +kernel
theorem x_149_21 : Tr sc d 149 (21, [l0, l1, l2, l3], [], h) Q = Tr sc d 149 (22, [l0, l1, l2, l3], [.int (-1)], h) Q := t_go k_149_21 rfl
theorem k_149_22 : lk 149 22 = some (.ireturn, 23, 0, 0, .null) := by decide +kernel
theorem x_149_22 : Tr sc d 149 (22, [l0, l1, l2, l3], [.int i0], h) Q = Q (some (.int i0), h) := t_ret k_149_22 (by rw [r_149]; rfl)
theorem k_149_23 : lk 149 23 = some (.aload_n 0, 24, 0, 0, .null) := by decide +kernel
theorem x_149_23 : Tr sc d 149 (23, [some (.ref xk), l1, l2, l3], [], h) Q = Tr sc d 149 (24, [some (.ref xk), l1, l2, l3], [.ref xk], h) Q := t_aload_n k_149_23 rfl
theorem k_149_24 : lk 149 24 = some (.getfield 20, 27, 9, 2, .null) := by decide +kernel
theorem x_149_24 : Tr sc d 149 (24, [l0, l1, l2, l3], [.ref k0], h) Q = (okp h k0 9 = true ∧ ∃ q, hR h k0 2 = some q ∧ Tr sc d 149 (27, [l0, l1, l2, l3], [.ref q], h) Q) := t_getr k_149_24
theorem k_149_27 : lk 149 27 = some (.iload_n 2, 28, 2, 0, .null) := by decide +kernel
theorem x_149_27 : Tr sc d 149 (27, [l0, l1, some (.int x), l3], [.ref k0], h) Q = Tr sc d 149 (28, [l0, l1, some (.int x), l3], [.int x, .ref k0], h) Q := t_iload_n k_149_27 rfl
theorem k_149_28 : lk 149 28 = some (.aaload, 29, 0, 0, .null) := by decide +kernel
theorem x_149_28 : Tr sc d 149 (28, [l0, l1, l2, l3], [.int i1, .ref k0], h) Q = (((okp h k0 14 || okp h k0 15) && inb i1 (LN k0)) = true ∧ ∃ q, hR h k0 i1.toNatClampNeg = some q ∧ Tr sc d 149 (29, [l0, l1, l2, l3], [.ref q], h) Q) := t_aald k_149_28
theorem k_149_29 : lk 149 29 = some (.invokevirtual 366, 32, 48, 0, .null) := by decide +kernel
theorem x_149_29 : Tr sc (d + 1) 149 (29, [l0, l1, l2, l3], [.ref k0], h) Q = (okp h k0 6 = true ∧ Tr sc d 48 (ent0 48 [.ref k0] h) (fun z => Tr sc (d + 1) 149 (32, [l0, l1, l2, l3], z.1.toList ++ [], z.2) Q)) := t_cv (as := []) (r := []) k_149_29 rfl rfl (Nat.le_of_ble_eq_true rfl) (Nat.le_of_ble_eq_true rfl) (Nat.le_of_ble_eq_true rfl)
theorem k_149_32 : lk 149 32 = some (.ifCond .ne 15, 35, 47, 0, .null) := by decide +kernel
theorem x_149_32 : Tr sc d 149 (32, [l0, l1, l2, l3], [.int i0], h) Q = if i0 = 0 then Tr sc d 149 (35, [l0, l1, l2, l3], [], h) Q else Tr sc d 149 (47, [l0, l1, l2, l3], [], h) Q := t_if k_149_32 rfl
theorem k_149_35 : lk 149 35 = some (.aload_n 0, 36, 0, 0, .null) := by decide +kernel
theorem x_149_35 : Tr sc d 149 (35, [some (.ref xk), l1, l2, l3], [], h) Q = Tr sc d 149 (36, [some (.ref xk), l1, l2, l3], [.ref xk], h) Q := t_aload_n k_149_35 rfl
theorem k_149_36 : lk 149 36 = some (.getfield 11, 39, 9, 0, .null) := by decide +kernel
theorem x_149_36 : Tr sc d 149 (36, [l0, l1, l2, l3], [.ref k0], h) Q = (okp h k0 9 = true ∧ ∃ q, hR h k0 0 = some q ∧ Tr sc d 149 (39, [l0, l1, l2, l3], [.ref q], h) Q) := t_getr k_149_36
theorem k_149_39 : lk 149 39 = some (.iload_n 3, 40, 3, 0, .null) := by decide +kernel
theorem x_149_39 : Tr sc d 149 (39, [l0, l1, l2, some (.int x)], [.ref k0], h) Q = Tr sc d 149 (40, [l0, l1, l2, some (.int x)], [.int x, .ref k0], h) Q := t_iload_n k_149_39 rfl
theorem k_149_40 : lk 149 40 = some (.aaload, 41, 0, 0, .null) := by decide +kernel
theorem x_149_40 : Tr sc d 149 (40, [l0, l1, l2, l3], [.int i1, .ref k0], h) Q = (((okp h k0 14 || okp h k0 15) && inb i1 (LN k0)) = true ∧ ∃ q, hR h k0 i1.toNatClampNeg = some q ∧ Tr sc d 149 (41, [l0, l1, l2, l3], [.ref q], h) Q) := t_aald k_149_40
theorem k_149_41 : lk 149 41 = some (.invokevirtual 125, 44, 42, 0, .null) := by decide +kernel
theorem x_149_41 : Tr sc (d + 1) 149 (41, [l0, l1, l2, l3], [.ref k0], h) Q = (okp h k0 5 = true ∧ Tr sc d 42 (ent0 42 [.ref k0] h) (fun z => Tr sc (d + 1) 149 (44, [l0, l1, l2, l3], z.1.toList ++ [], z.2) Q)) := t_cv (as := []) (r := []) k_149_41 rfl rfl (Nat.le_of_ble_eq_true rfl) (Nat.le_of_ble_eq_true rfl) (Nat.le_of_ble_eq_true rfl)
theorem k_149_44 : lk 149 44 = some (.ifCond .eq 9, 47, 53, 0, .null) := by decide +kernel
theorem x_149_44 : Tr sc d 149 (44, [l0, l1, l2, l3], [.int i0], h) Q = if i0 = 0 then Tr sc d 149 (53, [l0, l1, l2, l3], [], h) Q else Tr sc d 149 (47, [l0, l1, l2, l3], [], h) Q := t_if k_149_44 rfl
theorem k_149_47 : lk 149 47 = some (.aload_n 0, 48, 0, 0, .null) := by decide +kernel
theorem x_149_47 : Tr sc d 149 (47, [some (.ref xk), l1, l2, l3], [], h) Q = Tr sc d 149 (48, [some (.ref xk), l1, l2, l3], [.ref xk], h) Q := t_aload_n k_149_47 rfl
theorem k_149_48 : lk 149 48 = some (.iconst 1, 49, 0, 0, .int 1) := by decide +kernel
theorem x_149_48 : Tr sc d 149 (48, [l0, l1, l2, l3], [.ref k0], h) Q = Tr sc d 149 (49, [l0, l1, l2, l3], [.int 1, .ref k0], h) Q := t_go k_149_48 rfl
theorem k_149_49 : lk 149 49 = some (.invokevirtual 118, 52, 145, 1, .null) := by decide +kernel
theorem x_149_49 : Tr sc (d + 1) 149 (49, [l0, l1, l2, l3], [.int i1, .ref k0], h) Q = (okp h k0 9 = true ∧ Tr sc d 145 (ent0 145 [.ref k0, .int i1] h) (fun z => Tr sc (d + 1) 149 (52, [l0, l1, l2, l3], z.1.toList ++ [], z.2) Q)) := t_cv (as := [.int i1]) (r := []) k_149_49 rfl rfl (Nat.le_of_ble_eq_true rfl) (Nat.le_of_ble_eq_true rfl) (Nat.le_of_ble_eq_true rfl)
theorem k_149_52 : lk 149 52 = some (.ireturn, 53, 0, 0, .null) := by decide +kernel
theorem x_149_52 : Tr sc d 149 (52, [l0, l1, l2, l3], [.int i0], h) Q = Q (some (.int i0), h) := t_ret k_149_52 (by rw [r_149]; rfl)
theorem k_149_53 : lk 149 53 = some (.aload_n 0, 54, 0, 0, .null) := by decide +kernel
theorem x_149_53 : Tr sc d 149 (53, [some (.ref xk), l1, l2, l3], [], h) Q = Tr sc d 149 (54, [some (.ref xk), l1, l2, l3], [.ref xk], h) Q := t_aload_n k_149_53 rfl
theorem k_149_54 : lk 149 54 = some (.getfield 11, 57, 9, 0, .null) := by decide +kernel
theorem x_149_54 : Tr sc d 149 (54, [l0, l1, l2, l3], [.ref k0], h) Q = (okp h k0 9 = true ∧ ∃ q, hR h k0 0 = some q ∧ Tr sc d 149 (57, [l0, l1, l2, l3], [.ref q], h) Q) := t_getr k_149_54
theorem k_149_57 : lk 149 57 = some (.iload_n 3, 58, 3, 0, .null) := by decide +kernel
theorem x_149_57 : Tr sc d 149 (57, [l0, l1, l2, some (.int x)], [.ref k0], h) Q = Tr sc d 149 (58, [l0, l1, l2, some (.int x)], [.int x, .ref k0], h) Q := t_iload_n k_149_57 rfl
theorem k_149_58 : lk 149 58 = some (.aaload, 59, 0, 0, .null) := by decide +kernel
theorem x_149_58 : Tr sc d 149 (58, [l0, l1, l2, l3], [.int i1, .ref k0], h) Q = (((okp h k0 14 || okp h k0 15) && inb i1 (LN k0)) = true ∧ ∃ q, hR h k0 i1.toNatClampNeg = some q ∧ Tr sc d 149 (59, [l0, l1, l2, l3], [.ref q], h) Q) := t_aald k_149_58
theorem k_149_59 : lk 149 59 = some (.getfield 135, 62, 5, 1, .int 0) := by decide +kernel
theorem x_149_59 : Tr sc d 149 (59, [l0, l1, l2, l3], [.ref k0], h) Q = (okp h k0 5 = true ∧ Tr sc d 149 (62, [l0, l1, l2, l3], [.int (hI h k0 1)], h) Q) := t_gd k_149_59 rfl
theorem k_149_62 : lk 149 62 = some (.aload_n 0, 63, 0, 0, .null) := by decide +kernel
theorem x_149_62 : Tr sc d 149 (62, [some (.ref xk), l1, l2, l3], [.int i0], h) Q = Tr sc d 149 (63, [some (.ref xk), l1, l2, l3], [.ref xk, .int i0], h) Q := t_aload_n k_149_62 rfl
theorem k_149_63 : lk 149 63 = some (.getfield 20, 66, 9, 2, .null) := by decide +kernel
theorem x_149_63 : Tr sc d 149 (63, [l0, l1, l2, l3], [.ref k1, .int i0], h) Q = (okp h k1 9 = true ∧ ∃ q, hR h k1 2 = some q ∧ Tr sc d 149 (66, [l0, l1, l2, l3], [.ref q, .int i0], h) Q) := t_getr k_149_63
theorem k_149_66 : lk 149 66 = some (.iload_n 2, 67, 2, 0, .null) := by decide +kernel
theorem x_149_66 : Tr sc d 149 (66, [l0, l1, some (.int x), l3], [.ref k1, .int i0], h) Q = Tr sc d 149 (67, [l0, l1, some (.int x), l3], [.int x, .ref k1, .int i0], h) Q := t_iload_n k_149_66 rfl
theorem k_149_67 : lk 149 67 = some (.aaload, 68, 0, 0, .null) := by decide +kernel
theorem x_149_67 : Tr sc d 149 (67, [l0, l1, l2, l3], [.int i2, .ref k1, .int i0], h) Q = (((okp h k1 14 || okp h k1 15) && inb i2 (LN k1)) = true ∧ ∃ q, hR h k1 i2.toNatClampNeg = some q ∧ Tr sc d 149 (68, [l0, l1, l2, l3], [.ref q, .int i0], h) Q) := t_aald k_149_67
theorem k_149_68 : lk 149 68 = some (.getfield 181, 71, 6, 8, .int 0) := by decide +kernel
theorem x_149_68 : Tr sc d 149 (68, [l0, l1, l2, l3], [.ref k1, .int i0], h) Q = (okp h k1 6 = true ∧ Tr sc d 149 (71, [l0, l1, l2, l3], [.int (hI h k1 8), .int i0], h) Q) := t_gd k_149_68 rfl
theorem k_149_71 : lk 149 71 = some (.if_icmp .ne 7, 74, 78, 0, .null) := by decide +kernel
theorem x_149_71 : Tr sc d 149 (71, [l0, l1, l2, l3], [.int i1, .int i0], h) Q = if i0 = i1 then Tr sc d 149 (74, [l0, l1, l2, l3], [], h) Q else Tr sc d 149 (78, [l0, l1, l2, l3], [], h) Q := t_if k_149_71 rfl
theorem k_149_74 : lk 149 74 = some (.iconst 0, 75, 0, 0, .int 0) := by decide +kernel
theorem x_149_74 : Tr sc d 149 (74, [l0, l1, l2, l3], [], h) Q = Tr sc d 149 (75, [l0, l1, l2, l3], [.int 0], h) Q := t_go k_149_74 rfl
theorem k_149_75 : lk 149 75 = some (.goto 8, 78, 83, 0, .null) := by decide +kernel
theorem x_149_75 : Tr sc d 149 (75, [l0, l1, l2, l3], [.int i0], h) Q = Tr sc d 149 (83, [l0, l1, l2, l3], [.int i0], h) Q := t_go k_149_75 rfl
theorem k_149_78 : lk 149 78 = some (.aload_n 0, 79, 0, 0, .null) := by decide +kernel
theorem x_149_78 : Tr sc d 149 (78, [some (.ref xk), l1, l2, l3], [], h) Q = Tr sc d 149 (79, [some (.ref xk), l1, l2, l3], [.ref xk], h) Q := t_aload_n k_149_78 rfl
theorem k_149_79 : lk 149 79 = some (.iconst 5, 80, 0, 0, .int 5) := by decide +kernel
theorem x_149_79 : Tr sc d 149 (79, [l0, l1, l2, l3], [.ref k0], h) Q = Tr sc d 149 (80, [l0, l1, l2, l3], [.int 5, .ref k0], h) Q := t_go k_149_79 rfl
theorem k_149_80 : lk 149 80 = some (.invokevirtual 118, 83, 145, 1, .null) := by decide +kernel
theorem x_149_80 : Tr sc (d + 1) 149 (80, [l0, l1, l2, l3], [.int i1, .ref k0], h) Q = (okp h k0 9 = true ∧ Tr sc d 145 (ent0 145 [.ref k0, .int i1] h) (fun z => Tr sc (d + 1) 149 (83, [l0, l1, l2, l3], z.1.toList ++ [], z.2) Q)) := t_cv (as := [.int i1]) (r := []) k_149_80 rfl rfl (Nat.le_of_ble_eq_true rfl) (Nat.le_of_ble_eq_true rfl) (Nat.le_of_ble_eq_true rfl)
theorem k_149_83 : lk 149 83 = some (.ireturn, 84, 0, 0, .null) := by decide +kernel
theorem x_149_83 : Tr sc d 149 (83, [l0, l1, l2, l3], [.int i0], h) Q = Q (some (.int i0), h) := t_ret k_149_83 (by rw [r_149]; rfl)
theorem e_149 : Tr sc d 149 (ent0 149 [.ref k0, .int i1, .int i2, .int i3] h) Q = Tr sc d 149 (0, [some (.ref k0), some (.int i1), some (.int i2), some (.int i3)], [], h) Q := by
  have e : mL 149 = 4 := by decide +kernel
  unfold ent0
  rw [e]
  rfl
theorem r_150 : mR 150 = some .int := by decide +kernel
theorem k_150_0 : lk 150 0 = some (.aload_n 0, 1, 0, 0, .null) := by decide +kernel
theorem x_150_0 : Tr sc d 150 (0, [some (.ref xk), l1], [], h) Q = Tr sc d 150 (1, [some (.ref xk), l1], [.ref xk], h) Q := t_aload_n k_150_0 rfl
theorem k_150_1 : lk 150 1 = some (.getfield 20, 4, 9, 2, .null) := by decide +kernel
theorem x_150_1 : Tr sc d 150 (1, [l0, l1], [.ref k0], h) Q = (okp h k0 9 = true ∧ ∃ q, hR h k0 2 = some q ∧ Tr sc d 150 (4, [l0, l1], [.ref q], h) Q) := t_getr k_150_1
theorem k_150_4 : lk 150 4 = some (.iload_n 1, 5, 1, 0, .null) := by decide +kernel
theorem x_150_4 : Tr sc d 150 (4, [l0, some (.int x)], [.ref k0], h) Q = Tr sc d 150 (5, [l0, some (.int x)], [.int x, .ref k0], h) Q := t_iload_n k_150_4 rfl
theorem k_150_5 : lk 150 5 = some (.aaload, 6, 0, 0, .null) := by decide +kernel
theorem x_150_5 : Tr sc d 150 (5, [l0, l1], [.int i1, .ref k0], h) Q = (((okp h k0 14 || okp h k0 15) && inb i1 (LN k0)) = true ∧ ∃ q, hR h k0 i1.toNatClampNeg = some q ∧ Tr sc d 150 (6, [l0, l1], [.ref q], h) Q) := t_aald k_150_5
theorem k_150_6 : lk 150 6 = some (.aload_n 0, 7, 0, 0, .null) := by decide +kernel
theorem x_150_6 : Tr sc d 150 (6, [some (.ref xk), l1], [.ref k0], h) Q = Tr sc d 150 (7, [some (.ref xk), l1], [.ref xk, .ref k0], h) Q := t_aload_n k_150_6 rfl
theorem k_150_7 : lk 150 7 = some (.getfield 25, 10, 9, 3, .null) := by decide +kernel
theorem x_150_7 : Tr sc d 150 (7, [l0, l1], [.ref k1, .ref k0], h) Q = (okp h k1 9 = true ∧ ∃ q, hR h k1 3 = some q ∧ Tr sc d 150 (10, [l0, l1], [.ref q, .ref k0], h) Q) := t_getr k_150_7
theorem k_150_10 : lk 150 10 = some (.invokevirtual 169, 13, 53, 1, .null) := by decide +kernel
theorem x_150_10 : Tr sc (d + 1) 150 (10, [l0, l1], [.ref k1, .ref k0], h) Q = (okp h k0 6 = true ∧ Tr sc d 53 (ent0 53 [.ref k0, .ref k1] h) (fun z => Tr sc (d + 1) 150 (13, [l0, l1], z.1.toList ++ [], z.2) Q)) := t_cv (as := [.ref k1]) (r := []) k_150_10 rfl rfl (Nat.le_of_ble_eq_true rfl) (Nat.le_of_ble_eq_true rfl) (Nat.le_of_ble_eq_true rfl)
theorem k_150_13 : lk 150 13 = some (.aload_n 0, 14, 0, 0, .null) := by decide +kernel
theorem x_150_13 : Tr sc d 150 (13, [some (.ref xk), l1], [], h) Q = Tr sc d 150 (14, [some (.ref xk), l1], [.ref xk], h) Q := t_aload_n k_150_13 rfl
theorem k_150_14 : lk 150 14 = some (.getfield 20, 17, 9, 2, .null) := by decide +kernel
theorem x_150_14 : Tr sc d 150 (14, [l0, l1], [.ref k0], h) Q = (okp h k0 9 = true ∧ ∃ q, hR h k0 2 = some q ∧ Tr sc d 150 (17, [l0, l1], [.ref q], h) Q) := t_getr k_150_14
theorem k_150_17 : lk 150 17 = some (.iload_n 1, 18, 1, 0, .null) := by decide +kernel
theorem x_150_17 : Tr sc d 150 (17, [l0, some (.int x)], [.ref k0], h) Q = Tr sc d 150 (18, [l0, some (.int x)], [.int x, .ref k0], h) Q := t_iload_n k_150_17 rfl
theorem k_150_18 : lk 150 18 = some (.aaload, 19, 0, 0, .null) := by decide +kernel
theorem x_150_18 : Tr sc d 150 (18, [l0, l1], [.int i1, .ref k0], h) Q = (((okp h k0 14 || okp h k0 15) && inb i1 (LN k0)) = true ∧ ∃ q, hR h k0 i1.toNatClampNeg = some q ∧ Tr sc d 150 (19, [l0, l1], [.ref q], h) Q) := t_aald k_150_18
theorem k_150_19 : lk 150 19 = some (.aload_n 0, 20, 0, 0, .null) := by decide +kernel
theorem x_150_19 : Tr sc d 150 (19, [some (.ref xk), l1], [.ref k0], h) Q = Tr sc d 150 (20, [some (.ref xk), l1], [.ref xk, .ref k0], h) Q := t_aload_n k_150_19 rfl
theorem k_150_20 : lk 150 20 = some (.aload_n 0, 21, 0, 0, .null) := by decide +kernel
theorem x_150_20 : Tr sc d 150 (20, [some (.ref xk), l1], [.ref k1, .ref k0], h) Q = Tr sc d 150 (21, [some (.ref xk), l1], [.ref xk, .ref k1, .ref k0], h) Q := t_aload_n k_150_20 rfl
theorem k_150_21 : lk 150 21 = some (.getfield 20, 24, 9, 2, .null) := by decide +kernel
theorem x_150_21 : Tr sc d 150 (21, [l0, l1], [.ref k2, .ref k1, .ref k0], h) Q = (okp h k2 9 = true ∧ ∃ q, hR h k2 2 = some q ∧ Tr sc d 150 (24, [l0, l1], [.ref q, .ref k1, .ref k0], h) Q) := t_getr k_150_21
theorem k_150_24 : lk 150 24 = some (.iload_n 1, 25, 1, 0, .null) := by decide +kernel
theorem x_150_24 : Tr sc d 150 (24, [l0, some (.int x)], [.ref k2, .ref k1, .ref k0], h) Q = Tr sc d 150 (25, [l0, some (.int x)], [.int x, .ref k2, .ref k1, .ref k0], h) Q := t_iload_n k_150_24 rfl
theorem k_150_25 : lk 150 25 = some (.aaload, 26, 0, 0, .null) := by decide +kernel
theorem x_150_25 : Tr sc d 150 (25, [l0, l1], [.int i3, .ref k2, .ref k1, .ref k0], h) Q = (((okp h k2 14 || okp h k2 15) && inb i3 (LN k2)) = true ∧ ∃ q, hR h k2 i3.toNatClampNeg = some q ∧ Tr sc d 150 (26, [l0, l1], [.ref q, .ref k1, .ref k0], h) Q) := t_aald k_150_25
theorem k_150_26 : lk 150 26 = some (.invokevirtual 382, 29, 151, 1, .null) := by decide +kernel
theorem x_150_26 : Tr sc (d + 1) 150 (26, [l0, l1], [.ref k2, .ref k1, .ref k0], h) Q = (okp h k1 9 = true ∧ Tr sc d 151 (ent0 151 [.ref k1, .ref k2] h) (fun z => Tr sc (d + 1) 150 (29, [l0, l1], z.1.toList ++ [.ref k0], z.2) Q)) := t_cv (as := [.ref k2]) (r := [.ref k0]) k_150_26 rfl rfl (Nat.le_of_ble_eq_true rfl) (Nat.le_of_ble_eq_true rfl) (Nat.le_of_ble_eq_true rfl)
theorem k_150_29 : lk 150 29 = some (.putfield 200, 32, 6, 6, .int 0) := by decide +kernel
theorem x_150_29 : Tr sc d 150 (29, [l0, l1], [.int i1, .ref k0], h) Q = (okp h k0 6 = true ∧ Tr sc d 150 (32, [l0, l1], [], (sI h k0 6 i1)) Q) := t_gd k_150_29 rfl
theorem k_150_32 : lk 150 32 = some (.aload_n 0, 33, 0, 0, .null) := by decide +kernel
theorem x_150_32 : Tr sc d 150 (32, [some (.ref xk), l1], [], h) Q = Tr sc d 150 (33, [some (.ref xk), l1], [.ref xk], h) Q := t_aload_n k_150_32 rfl
theorem k_150_33 : lk 150 33 = some (.getfield 20, 36, 9, 2, .null) := by decide +kernel
theorem x_150_33 : Tr sc d 150 (33, [l0, l1], [.ref k0], h) Q = (okp h k0 9 = true ∧ ∃ q, hR h k0 2 = some q ∧ Tr sc d 150 (36, [l0, l1], [.ref q], h) Q) := t_getr k_150_33
theorem k_150_36 : lk 150 36 = some (.iload_n 1, 37, 1, 0, .null) := by decide +kernel
theorem x_150_36 : Tr sc d 150 (36, [l0, some (.int x)], [.ref k0], h) Q = Tr sc d 150 (37, [l0, some (.int x)], [.int x, .ref k0], h) Q := t_iload_n k_150_36 rfl
theorem k_150_37 : lk 150 37 = some (.aaload, 38, 0, 0, .null) := by decide +kernel
theorem x_150_37 : Tr sc d 150 (37, [l0, l1], [.int i1, .ref k0], h) Q = (((okp h k0 14 || okp h k0 15) && inb i1 (LN k0)) = true ∧ ∃ q, hR h k0 i1.toNatClampNeg = some q ∧ Tr sc d 150 (38, [l0, l1], [.ref q], h) Q) := t_aald k_150_37
theorem k_150_38 : lk 150 38 = some (.getfield 200, 41, 6, 6, .int 0) := by decide +kernel
theorem x_150_38 : Tr sc d 150 (38, [l0, l1], [.ref k0], h) Q = (okp h k0 6 = true ∧ Tr sc d 150 (41, [l0, l1], [.int (hI h k0 6)], h) Q) := t_gd k_150_38 rfl
theorem k_150_41 : lk 150 41 = some (.ireturn, 42, 0, 0, .null) := by decide +kernel
theorem x_150_41 : Tr sc d 150 (41, [l0, l1], [.int i0], h) Q = Q (some (.int i0), h) := t_ret k_150_41 (by rw [r_150]; rfl)
theorem e_150 : Tr sc d 150 (ent0 150 [.ref k0, .int i1] h) Q = Tr sc d 150 (0, [some (.ref k0), some (.int i1)], [], h) Q := by
  have e : mL 150 = 2 := by decide +kernel
  unfold ent0
  rw [e]
  rfl
theorem r_151 : mR 151 = some .int := by decide +kernel
theorem k_151_0 : lk 151 0 = some (.aload_n 1, 1, 1, 0, .null) := by decide +kernel
theorem x_151_0 : Tr sc d 151 (0, [l0, some (.ref xk)], [], h) Q = Tr sc d 151 (1, [l0, some (.ref xk)], [.ref xk], h) Q := t_aload_n k_151_0 rfl
theorem k_151_1 : lk 151 1 = some (.invokevirtual 386, 4, 60, 0, .null) := by decide +kernel
theorem x_151_1 : Tr sc (d + 1) 151 (1, [l0, l1], [.ref k0], h) Q = (okp h k0 6 = true ∧ Tr sc d 60 (ent0 60 [.ref k0] h) (fun z => Tr sc (d + 1) 151 (4, [l0, l1], z.1.toList ++ [], z.2) Q)) := t_cv (as := []) (r := []) k_151_1 rfl rfl (Nat.le_of_ble_eq_true rfl) (Nat.le_of_ble_eq_true rfl) (Nat.le_of_ble_eq_true rfl)
theorem k_151_4 : lk 151 4 = some (.ifCond .ne 5, 7, 9, 0, .null) := by decide +kernel
theorem x_151_4 : Tr sc d 151 (4, [l0, l1], [.int i0], h) Q = if i0 = 0 then Tr sc d 151 (7, [l0, l1], [], h) Q else Tr sc d 151 (9, [l0, l1], [], h) Q := t_if k_151_4 rfl
theorem k_151_7 : lk 151 7 = some (.iconst 0, 8, 0, 0, .int 0) := by decide +kernel
theorem x_151_7 : Tr sc d 151 (7, [l0, l1], [], h) Q = Tr sc d 151 (8, [l0, l1], [.int 0], h) Q := t_go k_151_7 rfl
theorem k_151_8 : lk 151 8 = some (.ireturn, 9, 0, 0, .null) := by decide +kernel
theorem x_151_8 : Tr sc d 151 (8, [l0, l1], [.int i0], h) Q = Q (some (.int i0), h) := t_ret k_151_8 (by rw [r_151]; rfl)
theorem k_151_9 : lk 151 9 = some (.aload_n 1, 10, 1, 0, .null) := by decide +kernel
theorem x_151_9 : Tr sc d 151 (9, [l0, some (.ref xk)], [], h) Q = Tr sc d 151 (10, [l0, some (.ref xk)], [.ref xk], h) Q := t_aload_n k_151_9 rfl
theorem k_151_10 : lk 151 10 = some (.invokevirtual 389, 13, 61, 0, .null) := by decide +kernel
theorem x_151_10 : Tr sc (d + 1) 151 (10, [l0, l1], [.ref k0], h) Q = (okp h k0 6 = true ∧ Tr sc d 61 (ent0 61 [.ref k0] h) (fun z => Tr sc (d + 1) 151 (13, [l0, l1], z.1.toList ++ [], z.2) Q)) := t_cv (as := []) (r := []) k_151_10 rfl rfl (Nat.le_of_ble_eq_true rfl) (Nat.le_of_ble_eq_true rfl) (Nat.le_of_ble_eq_true rfl)
theorem k_151_13 : lk 151 13 = some (.ifCond .eq 5, 16, 18, 0, .null) := by decide +kernel
theorem x_151_13 : Tr sc d 151 (13, [l0, l1], [.int i0], h) Q = if i0 = 0 then Tr sc d 151 (18, [l0, l1], [], h) Q else Tr sc d 151 (16, [l0, l1], [], h) Q := t_if k_151_13 rfl
theorem k_151_16 : lk 151 16 = some (.iconst 1, 17, 0, 0, .int 1) := by decide +kernel
theorem x_151_16 : Tr sc d 151 (16, [l0, l1], [], h) Q = Tr sc d 151 (17, [l0, l1], [.int 1], h) Q := t_go k_151_16 rfl
theorem k_151_17 : lk 151 17 = some (.ireturn, 18, 0, 0, .null) := by decide +kernel
theorem x_151_17 : Tr sc d 151 (17, [l0, l1], [.int i0], h) Q = Q (some (.int i0), h) := t_ret k_151_17 (by rw [r_151]; rfl)
theorem k_151_18 : lk 151 18 = some (.aload_n 0, 19, 0, 0, .null) := by decide +kernel
theorem x_151_18 : Tr sc d 151 (18, [some (.ref xk), l1], [], h) Q = Tr sc d 151 (19, [some (.ref xk), l1], [.ref xk], h) Q := t_aload_n k_151_18 rfl
theorem k_151_19 : lk 151 19 = some (.getfield 61, 22, 9, 9, .null) := by decide +kernel
theorem x_151_19 : Tr sc d 151 (19, [l0, l1], [.ref k0], h) Q = (okp h k0 9 = true ∧ ∃ q, hR h k0 9 = some q ∧ Tr sc d 151 (22, [l0, l1], [.ref q], h) Q) := t_getr k_151_19
theorem k_151_22 : lk 151 22 = some (.aload_n 1, 23, 1, 0, .null) := by decide +kernel
theorem x_151_22 : Tr sc d 151 (22, [l0, some (.ref xk)], [.ref k0], h) Q = Tr sc d 151 (23, [l0, some (.ref xk)], [.ref xk, .ref k0], h) Q := t_aload_n k_151_22 rfl
theorem k_151_23 : lk 151 23 = some (.invokevirtual 303, 26, 73, 1, .null) := by decide +kernel
theorem x_151_23 : Tr sc (d + 1) 151 (23, [l0, l1], [.ref k1, .ref k0], h) Q = (okp h k0 7 = true ∧ Tr sc d 73 (ent0 73 [.ref k0, .ref k1] h) (fun z => Tr sc (d + 1) 151 (26, [l0, l1], z.1.toList ++ [], z.2) Q)) := t_cv (as := [.ref k1]) (r := []) k_151_23 rfl rfl (Nat.le_of_ble_eq_true rfl) (Nat.le_of_ble_eq_true rfl) (Nat.le_of_ble_eq_true rfl)
theorem k_151_26 : lk 151 26 = some (.aload_n 0, 27, 0, 0, .null) := by decide +kernel
theorem x_151_26 : Tr sc d 151 (26, [some (.ref xk), l1], [], h) Q = Tr sc d 151 (27, [some (.ref xk), l1], [.ref xk], h) Q := t_aload_n k_151_26 rfl
theorem k_151_27 : lk 151 27 = some (.getfield 61, 30, 9, 9, .null) := by decide +kernel
theorem x_151_27 : Tr sc d 151 (27, [l0, l1], [.ref k0], h) Q = (okp h k0 9 = true ∧ ∃ q, hR h k0 9 = some q ∧ Tr sc d 151 (30, [l0, l1], [.ref q], h) Q) := t_getr k_151_27
theorem k_151_30 : lk 151 30 = some (.invokevirtual 392, 33, 82, 0, .null) := by decide +kernel
theorem x_151_30 : Tr sc (d + 1) 151 (30, [l0, l1], [.ref k0], h) Q = (okp h k0 7 = true ∧ Tr sc d 82 (ent0 82 [.ref k0] h) (fun z => Tr sc (d + 1) 151 (33, [l0, l1], z.1.toList ++ [], z.2) Q)) := t_cv (as := []) (r := []) k_151_30 rfl rfl (Nat.le_of_ble_eq_true rfl) (Nat.le_of_ble_eq_true rfl) (Nat.le_of_ble_eq_true rfl)
theorem k_151_33 : lk 151 33 = some (.ifCond .eq 7, 36, 40, 0, .null) := by decide +kernel
theorem x_151_33 : Tr sc d 151 (33, [l0, l1], [.int i0], h) Q = if i0 = 0 then Tr sc d 151 (40, [l0, l1], [], h) Q else Tr sc d 151 (36, [l0, l1], [], h) Q := t_if k_151_33 rfl
theorem k_151_36 : lk 151 36 = some (.iconst 1, 37, 0, 0, .int 1) := by decide +kernel
theorem x_151_36 : Tr sc d 151 (36, [l0, l1], [], h) Q = Tr sc d 151 (37, [l0, l1], [.int 1], h) Q := t_go k_151_36 rfl
theorem k_151_37 : lk 151 37 = some (.goto 4, 40, 41, 0, .null) := by decide +kernel
theorem x_151_37 : Tr sc d 151 (37, [l0, l1], [.int i0], h) Q = Tr sc d 151 (41, [l0, l1], [.int i0], h) Q := t_go k_151_37 rfl
theorem k_151_40 : lk 151 40 = some (.iconst 2, 41, 0, 0, .int 2) := by decide +kernel
theorem x_151_40 : Tr sc d 151 (40, [l0, l1], [], h) Q = Tr sc d 151 (41, [l0, l1], [.int 2], h) Q := t_go k_151_40 rfl
theorem k_151_41 : lk 151 41 = some (.ireturn, 42, 0, 0, .null) := by decide +kernel
theorem x_151_41 : Tr sc d 151 (41, [l0, l1], [.int i0], h) Q = Q (some (.int i0), h) := t_ret k_151_41 (by rw [r_151]; rfl)
theorem e_151 : Tr sc d 151 (ent0 151 [.ref k0, .ref k1] h) Q = Tr sc d 151 (0, [some (.ref k0), some (.ref k1)], [], h) Q := by
  have e : mL 151 = 2 := by decide +kernel
  unfold ent0
  rw [e]
  rfl
theorem r_152 : mR 152 = none := by decide +kernel
theorem k_152_0 : lk 152 0 = some (.aload_n 0, 1, 0, 0, .null) := by decide +kernel
theorem x_152_0 : Tr sc d 152 (0, [some (.ref xk), l1, l2], [], h) Q = Tr sc d 152 (1, [some (.ref xk), l1, l2], [.ref xk], h) Q := t_aload_n k_152_0 rfl
theorem k_152_1 : lk 152 1 = some (.getfield 61, 4, 9, 9, .null) := by decide +kernel
theorem x_152_1 : Tr sc d 152 (1, [l0, l1, l2], [.ref k0], h) Q = (okp h k0 9 = true ∧ ∃ q, hR h k0 9 = some q ∧ Tr sc d 152 (4, [l0, l1, l2], [.ref q], h) Q) := t_getr k_152_1
theorem k_152_4 : lk 152 4 = some (.aload_n 0, 5, 0, 0, .null) := by decide +kernel
theorem x_152_4 : Tr sc d 152 (4, [some (.ref xk), l1, l2], [.ref k0], h) Q = Tr sc d 152 (5, [some (.ref xk), l1, l2], [.ref xk, .ref k0], h) Q := t_aload_n k_152_4 rfl
theorem k_152_5 : lk 152 5 = some (.getfield 20, 8, 9, 2, .null) := by decide +kernel
theorem x_152_5 : Tr sc d 152 (5, [l0, l1, l2], [.ref k1, .ref k0], h) Q = (okp h k1 9 = true ∧ ∃ q, hR h k1 2 = some q ∧ Tr sc d 152 (8, [l0, l1, l2], [.ref q, .ref k0], h) Q) := t_getr k_152_5
theorem k_152_8 : lk 152 8 = some (.iload_n 1, 9, 1, 0, .null) := by decide +kernel
theorem x_152_8 : Tr sc d 152 (8, [l0, some (.int x), l2], [.ref k1, .ref k0], h) Q = Tr sc d 152 (9, [l0, some (.int x), l2], [.int x, .ref k1, .ref k0], h) Q := t_iload_n k_152_8 rfl
theorem k_152_9 : lk 152 9 = some (.aaload, 10, 0, 0, .null) := by decide +kernel
theorem x_152_9 : Tr sc d 152 (9, [l0, l1, l2], [.int i2, .ref k1, .ref k0], h) Q = (((okp h k1 14 || okp h k1 15) && inb i2 (LN k1)) = true ∧ ∃ q, hR h k1 i2.toNatClampNeg = some q ∧ Tr sc d 152 (10, [l0, l1, l2], [.ref q, .ref k0], h) Q) := t_aald k_152_9
theorem k_152_10 : lk 152 10 = some (.invokevirtual 303, 13, 73, 1, .null) := by decide +kernel
theorem x_152_10 : Tr sc (d + 1) 152 (10, [l0, l1, l2], [.ref k1, .ref k0], h) Q = (okp h k0 7 = true ∧ Tr sc d 73 (ent0 73 [.ref k0, .ref k1] h) (fun z => Tr sc (d + 1) 152 (13, [l0, l1, l2], z.1.toList ++ [], z.2) Q)) := t_cv (as := [.ref k1]) (r := []) k_152_10 rfl rfl (Nat.le_of_ble_eq_true rfl) (Nat.le_of_ble_eq_true rfl) (Nat.le_of_ble_eq_true rfl)
theorem k_152_13 : lk 152 13 = some (.aload_n 0, 14, 0, 0, .null) := by decide +kernel
theorem x_152_13 : Tr sc d 152 (13, [some (.ref xk), l1, l2], [], h) Q = Tr sc d 152 (14, [some (.ref xk), l1, l2], [.ref xk], h) Q := t_aload_n k_152_13 rfl
theorem k_152_14 : lk 152 14 = some (.getfield 51, 17, 9, 7, .null) := by decide +kernel
theorem x_152_14 : Tr sc d 152 (14, [l0, l1, l2], [.ref k0], h) Q = (okp h k0 9 = true ∧ ∃ q, hR h k0 7 = some q ∧ Tr sc d 152 (17, [l0, l1, l2], [.ref q], h) Q) := t_getr k_152_14
theorem k_152_17 : lk 152 17 = some (.aload_n 0, 18, 0, 0, .null) := by decide +kernel
theorem x_152_17 : Tr sc d 152 (17, [some (.ref xk), l1, l2], [.ref k0], h) Q = Tr sc d 152 (18, [some (.ref xk), l1, l2], [.ref xk, .ref k0], h) Q := t_aload_n k_152_17 rfl
theorem k_152_18 : lk 152 18 = some (.getfield 20, 21, 9, 2, .null) := by decide +kernel
theorem x_152_18 : Tr sc d 152 (18, [l0, l1, l2], [.ref k1, .ref k0], h) Q = (okp h k1 9 = true ∧ ∃ q, hR h k1 2 = some q ∧ Tr sc d 152 (21, [l0, l1, l2], [.ref q, .ref k0], h) Q) := t_getr k_152_18
theorem k_152_21 : lk 152 21 = some (.iload_n 1, 22, 1, 0, .null) := by decide +kernel
theorem x_152_21 : Tr sc d 152 (21, [l0, some (.int x), l2], [.ref k1, .ref k0], h) Q = Tr sc d 152 (22, [l0, some (.int x), l2], [.int x, .ref k1, .ref k0], h) Q := t_iload_n k_152_21 rfl
theorem k_152_22 : lk 152 22 = some (.aaload, 23, 0, 0, .null) := by decide +kernel
theorem x_152_22 : Tr sc d 152 (22, [l0, l1, l2], [.int i2, .ref k1, .ref k0], h) Q = (((okp h k1 14 || okp h k1 15) && inb i2 (LN k1)) = true ∧ ∃ q, hR h k1 i2.toNatClampNeg = some q ∧ Tr sc d 152 (23, [l0, l1, l2], [.ref q, .ref k0], h) Q) := t_aald k_152_22
theorem k_152_23 : lk 152 23 = some (.iload_n 2, 24, 2, 0, .null) := by decide +kernel
theorem x_152_23 : Tr sc d 152 (23, [l0, l1, some (.int x)], [.ref k1, .ref k0], h) Q = Tr sc d 152 (24, [l0, l1, some (.int x)], [.int x, .ref k1, .ref k0], h) Q := t_iload_n k_152_23 rfl
theorem k_152_24 : lk 152 24 = some (.invokevirtual 273, 27, 10, 2, .null) := by decide +kernel
theorem x_152_24 : Tr sc (d + 1) 152 (24, [l0, l1, l2], [.int i2, .ref k1, .ref k0], h) Q = (okp h k0 1 = true ∧ Tr sc d 10 (ent0 10 [.ref k0, .ref k1, .int i2] h) (fun z => Tr sc (d + 1) 152 (27, [l0, l1, l2], z.1.toList ++ [], z.2) Q)) := t_cv (as := [.ref k1, .int i2]) (r := []) k_152_24 rfl rfl (Nat.le_of_ble_eq_true rfl) (Nat.le_of_ble_eq_true rfl) (Nat.le_of_ble_eq_true rfl)
theorem k_152_27 : lk 152 27 = some (.aload_n 0, 28, 0, 0, .null) := by decide +kernel
theorem x_152_27 : Tr sc d 152 (27, [some (.ref xk), l1, l2], [], h) Q = Tr sc d 152 (28, [some (.ref xk), l1, l2], [.ref xk], h) Q := t_aload_n k_152_27 rfl
theorem k_152_28 : lk 152 28 = some (.getfield 70, 31, 9, 10, .null) := by decide +kernel
theorem x_152_28 : Tr sc d 152 (28, [l0, l1, l2], [.ref k0], h) Q = (okp h k0 9 = true ∧ ∃ q, hR h k0 10 = some q ∧ Tr sc d 152 (31, [l0, l1, l2], [.ref q], h) Q) := t_getr k_152_28
theorem k_152_31 : lk 152 31 = some (.invokevirtual 395, 34, 23, 0, .null) := by decide +kernel
theorem x_152_31 : Tr sc (d + 1) 152 (31, [l0, l1, l2], [.ref k0], h) Q = (okp h k0 2 = true ∧ Tr sc d 23 (ent0 23 [.ref k0] h) (fun z => Tr sc (d + 1) 152 (34, [l0, l1, l2], z.1.toList ++ [], z.2) Q)) := t_cv (as := []) (r := []) k_152_31 rfl rfl (Nat.le_of_ble_eq_true rfl) (Nat.le_of_ble_eq_true rfl) (Nat.le_of_ble_eq_true rfl)
theorem k_152_34 : lk 152 34 = some (.return_, 35, 0, 0, .null) := by decide +kernel
theorem x_152_34 : Tr sc d 152 (34, [l0, l1, l2], [], h) Q = Q (none, h) := t_ret k_152_34 (by rw [r_152]; rfl)
theorem e_152 : Tr sc d 152 (ent0 152 [.ref k0, .int i1, .int i2] h) Q = Tr sc d 152 (0, [some (.ref k0), some (.int i1), some (.int i2)], [], h) Q := by
  have e : mL 152 = 3 := by decide +kernel
  unfold ent0
  rw [e]
  rfl
theorem r_153 : mR 153 = some .int := by decide +kernel
theorem k_153_0 : lk 153 0 = some (.iconst 0, 1, 0, 0, .int 0) := by decide +kernel
theorem x_153_0 : Tr sc d 153 (0, [l0, l1, l2], [], h) Q = Tr sc d 153 (1, [l0, l1, l2], [.int 0], h) Q := t_go k_153_0 rfl
theorem k_153_1 : lk 153 1 = some (.istore_n 1, 2, 1, 0, .null) := by decide +kernel
theorem x_153_1 : Tr sc d 153 (1, [l0, l1, l2], [.int i0], h) Q = Tr sc d 153 (2, [cl2 l0, some (.int i0), l2], [], h) Q := t_istore_n k_153_1 (Nat.le_of_ble_eq_true rfl)
theorem k_153_2 : lk 153 2 = some (.iconst 0, 3, 0, 0, .int 0) := by decide +kernel
theorem x_153_2 : Tr sc d 153 (2, [l0, l1, l2], [], h) Q = Tr sc d 153 (3, [l0, l1, l2], [.int 0], h) Q := t_go k_153_2 rfl
theorem k_153_3 : lk 153 3 = some (.istore_n 2, 4, 2, 0, .null) := by decide +kernel
theorem x_153_3 : Tr sc d 153 (3, [l0, l1, l2], [.int i0], h) Q = Tr sc d 153 (4, [l0, cl2 l1, some (.int i0)], [], h) Q := t_istore_n k_153_3 (Nat.le_of_ble_eq_true rfl)
theorem k_153_4 : lk 153 4 = some (.iload_n 2, 5, 2, 0, .null) := by decide +kernel
theorem x_153_4 : Tr sc d 153 (4, [l0, l1, some (.int x)], [], h) Q = Tr sc d 153 (5, [l0, l1, some (.int x)], [.int x], h) Q := t_iload_n k_153_4 rfl
theorem k_153_5 : lk 153 5 = some (.aload_n 0, 6, 0, 0, .null) := by decide +kernel
theorem x_153_5 : Tr sc d 153 (5, [some (.ref xk), l1, l2], [.int i0], h) Q = Tr sc d 153 (6, [some (.ref xk), l1, l2], [.ref xk, .int i0], h) Q := t_aload_n k_153_5 rfl
theorem k_153_6 : lk 153 6 = some (.arraylength, 7, 0, 0, .null) := by decide +kernel
theorem x_153_6 (hk : k1 < 1000) : Tr sc d 153 (6, [l0, l1, l2], [.ref k1, .int i0], h) Q = ((okp h k1 11 || (okp h k1 12 || (okp h k1 13 || (okp h k1 14 || okp h k1 15)))) = true ∧ Tr sc d 153 (7, [l0, l1, l2], [.int (Int32.ofNat (LN k1)), .int i0], h) Q) := t_gd k_153_6 (if_pos hk)
theorem k_153_7 : lk 153 7 = some (.if_icmp .ge 21, 10, 28, 0, .null) := by decide +kernel
theorem x_153_7 : Tr sc d 153 (7, [l0, l1, l2], [.int i1, .int i0], h) Q = if i1 ≤ i0 then Tr sc d 153 (28, [l0, l1, l2], [], h) Q else Tr sc d 153 (10, [l0, l1, l2], [], h) Q := t_if k_153_7 rfl
theorem k_153_10 : lk 153 10 = some (.aload_n 0, 11, 0, 0, .null) := by decide +kernel
theorem x_153_10 : Tr sc d 153 (10, [some (.ref xk), l1, l2], [], h) Q = Tr sc d 153 (11, [some (.ref xk), l1, l2], [.ref xk], h) Q := t_aload_n k_153_10 rfl
theorem k_153_11 : lk 153 11 = some (.iload_n 2, 12, 2, 0, .null) := by decide +kernel
theorem x_153_11 : Tr sc d 153 (11, [l0, l1, some (.int x)], [.ref k0], h) Q = Tr sc d 153 (12, [l0, l1, some (.int x)], [.int x, .ref k0], h) Q := t_iload_n k_153_11 rfl
theorem k_153_12 : lk 153 12 = some (.aaload, 13, 0, 0, .null) := by decide +kernel
theorem x_153_12 : Tr sc d 153 (12, [l0, l1, l2], [.int i1, .ref k0], h) Q = (((okp h k0 14 || okp h k0 15) && inb i1 (LN k0)) = true ∧ ∃ q, hR h k0 i1.toNatClampNeg = some q ∧ Tr sc d 153 (13, [l0, l1, l2], [.ref q], h) Q) := t_aald k_153_12
theorem k_153_13 : lk 153 13 = some (.invokevirtual 125, 16, 42, 0, .null) := by decide +kernel
theorem x_153_13 : Tr sc (d + 1) 153 (13, [l0, l1, l2], [.ref k0], h) Q = (okp h k0 5 = true ∧ Tr sc d 42 (ent0 42 [.ref k0] h) (fun z => Tr sc (d + 1) 153 (16, [l0, l1, l2], z.1.toList ++ [], z.2) Q)) := t_cv (as := []) (r := []) k_153_13 rfl rfl (Nat.le_of_ble_eq_true rfl) (Nat.le_of_ble_eq_true rfl) (Nat.le_of_ble_eq_true rfl)
theorem k_153_16 : lk 153 16 = some (.ifCond .ne 6, 19, 22, 0, .null) := by decide +kernel
theorem x_153_16 : Tr sc d 153 (16, [l0, l1, l2], [.int i0], h) Q = if i0 = 0 then Tr sc d 153 (19, [l0, l1, l2], [], h) Q else Tr sc d 153 (22, [l0, l1, l2], [], h) Q := t_if k_153_16 rfl
theorem k_153_19 : lk 153 19 = some (.iinc 1 1, 22, 1, 0, .int 1) := by decide +kernel
theorem x_153_19 : Tr sc d 153 (19, [l0, some (.int x), l2], [], h) Q = Tr sc d 153 (22, [cl2 l0, some (.int (x + 1)), l2], [], h) Q := t_inc k_153_19 rfl (Nat.le_of_ble_eq_true rfl)
theorem k_153_22 : lk 153 22 = some (.iinc 2 1, 25, 2, 0, .int 1) := by decide +kernel
theorem x_153_22 : Tr sc d 153 (22, [l0, l1, some (.int x)], [], h) Q = Tr sc d 153 (25, [l0, cl2 l1, some (.int (x + 1))], [], h) Q := t_inc k_153_22 rfl (Nat.le_of_ble_eq_true rfl)
theorem k_153_25 : lk 153 25 = some (.goto (-21), 28, 4, 0, .null) := by decide +kernel
theorem x_153_25 : Tr sc d 153 (25, [l0, l1, l2], [], h) Q = Tr sc d 153 (4, [l0, l1, l2], [], h) Q := t_go k_153_25 rfl
theorem k_153_28 : lk 153 28 = some (.iload_n 1, 29, 1, 0, .null) := by decide +kernel
theorem x_153_28 : Tr sc d 153 (28, [l0, some (.int x), l2], [], h) Q = Tr sc d 153 (29, [l0, some (.int x), l2], [.int x], h) Q := t_iload_n k_153_28 rfl
theorem k_153_29 : lk 153 29 = some (.ireturn, 30, 0, 0, .null) := by decide +kernel
theorem x_153_29 : Tr sc d 153 (29, [l0, l1, l2], [.int i0], h) Q = Q (some (.int i0), h) := t_ret k_153_29 (by rw [r_153]; rfl)
theorem e_153 : Tr sc d 153 (ent0 153 [.ref k0] h) Q = Tr sc d 153 (0, [some (.ref k0), none, none], [], h) Q := by
  have e : mL 153 = 3 := by decide +kernel
  unfold ent0
  rw [e]
  rfl
theorem r_154 : mR 154 = none := by decide +kernel
theorem k_154_0 : lk 154 0 = some (.lload_n 1, 1, 1, 0, .null) := by decide +kernel
theorem x_154_0 : Tr sc d 154 (0, [l0, some (.long xl), l2, l3, l4, l5, l6], [], h) Q = Tr sc d 154 (1, [l0, some (.long xl), l2, l3, l4, l5, l6], [.long xl], h) Q := t_lload_n k_154_0 rfl
theorem k_154_1 : lk 154 1 = some (.invokestatic 397, 4, 9004, 0, .null) := by decide +kernel
theorem x_154_1 : Tr sc d 154 (1, [l0, l1, l2, l3, l4, l5, l6], [.long j0], h) Q = Tr sc d 154 (4, [l0, l1, l2, l3, l4, l5, l6], [.long (if 0 < j0 then j0 else -j0)], h) Q := t_go k_154_1 rfl
theorem k_154_4 : lk 154 4 = some (.lload_n 3, 5, 3, 0, .null) := by decide +kernel
theorem x_154_4 : Tr sc d 154 (4, [l0, l1, l2, some (.long xl), l4, l5, l6], [.long j0], h) Q = Tr sc d 154 (5, [l0, l1, l2, some (.long xl), l4, l5, l6], [.long xl, .long j0], h) Q := t_lload_n k_154_4 rfl
theorem k_154_5 : lk 154 5 = some (.invokestatic 402, 8, 155, 2, .null) := by decide +kernel
theorem x_154_5 : Tr sc (d + 1) 154 (5, [l0, l1, l2, l3, l4, l5, l6], [.long j1, .long j0], h) Q = Tr sc d 155 (ent0 155 [.long j0, .long j1] h) (fun z => Tr sc (d + 1) 154 (8, [l0, l1, l2, l3, l4, l5, l6], z.1.toList ++ [], z.2) Q) := t_cs (as := [.long j0, .long j1]) (r := []) k_154_5 (by decide) rfl rfl (Nat.le_of_ble_eq_true rfl) (Nat.le_of_ble_eq_true rfl)
theorem k_154_8 : lk 154 8 = some (.lstore 5, 10, 5, 0, .null) := by decide +kernel
theorem x_154_8 : Tr sc d 154 (8, [l0, l1, l2, l3, l4, l5, l6], [.long j0], h) Q = Tr sc d 154 (10, [l0, l1, l2, l3, cl2 l4, some (.long j0), none], [], h) Q := t_lstore k_154_8 (Nat.le_of_ble_eq_true rfl)
theorem k_154_10 : lk 154 10 = some (.lload 5, 12, 5, 0, .null) := by decide +kernel
theorem x_154_10 : Tr sc d 154 (10, [l0, l1, l2, l3, l4, some (.long xl), l6], [], h) Q = Tr sc d 154 (12, [l0, l1, l2, l3, l4, some (.long xl), l6], [.long xl], h) Q := t_lload k_154_10 rfl
theorem k_154_12 : lk 154 12 = some (.lconst 0, 13, 0, 0, .long 0) := by decide +kernel
theorem x_154_12 : Tr sc d 154 (12, [l0, l1, l2, l3, l4, l5, l6], [.long j0], h) Q = Tr sc d 154 (13, [l0, l1, l2, l3, l4, l5, l6], [.long 0, .long j0], h) Q := t_go k_154_12 rfl
theorem k_154_13 : lk 154 13 = some (.lcmp, 14, 0, 0, .null) := by decide +kernel
theorem x_154_13 : Tr sc d 154 (13, [l0, l1, l2, l3, l4, l5, l6], [.long j1, .long j0], h) Q = Tr sc d 154 (14, [l0, l1, l2, l3, l4, l5, l6], [.int (lg_cmp j0 j1)], h) Q := t_go k_154_13 rfl
theorem k_154_14 : lk 154 14 = some (.ifCond .le 19, 17, 33, 0, .null) := by decide +kernel
theorem x_154_14 : Tr sc d 154 (14, [l0, l1, l2, l3, l4, l5, l6], [.int i0], h) Q = if i0 ≤ 0 then Tr sc d 154 (33, [l0, l1, l2, l3, l4, l5, l6], [], h) Q else Tr sc d 154 (17, [l0, l1, l2, l3, l4, l5, l6], [], h) Q := t_if k_154_14 rfl
theorem k_154_17 : lk 154 17 = some (.aload_n 0, 18, 0, 0, .null) := by decide +kernel
theorem x_154_17 : Tr sc d 154 (17, [some (.ref xk), l1, l2, l3, l4, l5, l6], [], h) Q = Tr sc d 154 (18, [some (.ref xk), l1, l2, l3, l4, l5, l6], [.ref xk], h) Q := t_aload_n k_154_17 rfl
theorem k_154_18 : lk 154 18 = some (.lload_n 1, 19, 1, 0, .null) := by decide +kernel
theorem x_154_18 : Tr sc d 154 (18, [l0, some (.long xl), l2, l3, l4, l5, l6], [.ref k0], h) Q = Tr sc d 154 (19, [l0, some (.long xl), l2, l3, l4, l5, l6], [.long xl, .ref k0], h) Q := t_lload_n k_154_18 rfl
theorem k_154_19 : lk 154 19 = some (.lload 5, 21, 5, 0, .null) := by decide +kernel
theorem x_154_19 : Tr sc d 154 (19, [l0, l1, l2, l3, l4, some (.long xl), l6], [.long j1, .ref k0], h) Q = Tr sc d 154 (21, [l0, l1, l2, l3, l4, some (.long xl), l6], [.long xl, .long j1, .ref k0], h) Q := t_lload k_154_19 rfl
theorem k_154_21 : lk 154 21 = some (.ldiv, 22, 0, 0, .null) := by decide +kernel
theorem x_154_21 : Tr sc d 154 (21, [l0, l1, l2, l3, l4, l5, l6], [.long j2, .long j1, .ref k0], h) Q = (¬ j2 = 0 ∧ Tr sc d 154 (22, [l0, l1, l2, l3, l4, l5, l6], [.long (j1 / j2), .ref k0], h) Q) := t_ng k_154_21 rfl
theorem k_154_22 : lk 154 22 = some (.putfield 105, 25, 9, 17, .long 0) := by decide +kernel
theorem x_154_22 : Tr sc d 154 (22, [l0, l1, l2, l3, l4, l5, l6], [.long j1, .ref k0], h) Q = (okp h k0 9 = true ∧ Tr sc d 154 (25, [l0, l1, l2, l3, l4, l5, l6], [], (sL h k0 17 j1)) Q) := t_gd k_154_22 rfl
theorem k_154_25 : lk 154 25 = some (.aload_n 0, 26, 0, 0, .null) := by decide +kernel
theorem x_154_25 : Tr sc d 154 (25, [some (.ref xk), l1, l2, l3, l4, l5, l6], [], h) Q = Tr sc d 154 (26, [some (.ref xk), l1, l2, l3, l4, l5, l6], [.ref xk], h) Q := t_aload_n k_154_25 rfl
theorem k_154_26 : lk 154 26 = some (.lload_n 3, 27, 3, 0, .null) := by decide +kernel
theorem x_154_26 : Tr sc d 154 (26, [l0, l1, l2, some (.long xl), l4, l5, l6], [.ref k0], h) Q = Tr sc d 154 (27, [l0, l1, l2, some (.long xl), l4, l5, l6], [.long xl, .ref k0], h) Q := t_lload_n k_154_26 rfl
theorem k_154_27 : lk 154 27 = some (.lload 5, 29, 5, 0, .null) := by decide +kernel
theorem x_154_27 : Tr sc d 154 (27, [l0, l1, l2, l3, l4, some (.long xl), l6], [.long j1, .ref k0], h) Q = Tr sc d 154 (29, [l0, l1, l2, l3, l4, some (.long xl), l6], [.long xl, .long j1, .ref k0], h) Q := t_lload k_154_27 rfl
theorem k_154_29 : lk 154 29 = some (.ldiv, 30, 0, 0, .null) := by decide +kernel
theorem x_154_29 : Tr sc d 154 (29, [l0, l1, l2, l3, l4, l5, l6], [.long j2, .long j1, .ref k0], h) Q = (¬ j2 = 0 ∧ Tr sc d 154 (30, [l0, l1, l2, l3, l4, l5, l6], [.long (j1 / j2), .ref k0], h) Q) := t_ng k_154_29 rfl
theorem k_154_30 : lk 154 30 = some (.putfield 108, 33, 9, 18, .long 0) := by decide +kernel
theorem x_154_30 : Tr sc d 154 (30, [l0, l1, l2, l3, l4, l5, l6], [.long j1, .ref k0], h) Q = (okp h k0 9 = true ∧ Tr sc d 154 (33, [l0, l1, l2, l3, l4, l5, l6], [], (sL h k0 18 j1)) Q) := t_gd k_154_30 rfl
theorem k_154_33 : lk 154 33 = some (.return_, 34, 0, 0, .null) := by decide +kernel
theorem x_154_33 : Tr sc d 154 (33, [l0, l1, l2, l3, l4, l5, l6], [], h) Q = Q (none, h) := t_ret k_154_33 (by rw [r_154]; rfl)
theorem e_154 : Tr sc d 154 (ent0 154 [.ref k0, .long j1, .long j2] h) Q = Tr sc d 154 (0, [some (.ref k0), some (.long j1), none, some (.long j2), none, none, none], [], h) Q := by
  have e : mL 154 = 7 := by decide +kernel
  unfold ent0
  rw [e]
  rfl
theorem r_155 : mR 155 = some .long := by decide +kernel
theorem k_155_0 : lk 155 0 = some (.iconst 0, 1, 0, 0, .int 0) := by decide +kernel
theorem x_155_0 : Tr sc d 155 (0, [l0, l1, l2, l3, l4, l5, l6], [], h) Q = Tr sc d 155 (1, [l0, l1, l2, l3, l4, l5, l6], [.int 0], h) Q := t_go k_155_0 rfl
theorem k_155_1 : lk 155 1 = some (.istore 4, 3, 4, 0, .null) := by decide +kernel
theorem x_155_1 : Tr sc d 155 (1, [l0, l1, l2, l3, l4, l5, l6], [.int i0], h) Q = Tr sc d 155 (3, [l0, l1, l2, cl2 l3, some (.int i0), l5, l6], [], h) Q := t_istore k_155_1 (Nat.le_of_ble_eq_true rfl)
theorem k_155_3 : lk 155 3 = some (.iload 4, 5, 4, 0, .null) := by decide +kernel
theorem x_155_3 : Tr sc d 155 (3, [l0, l1, l2, l3, some (.int x), l5, l6], [], h) Q = Tr sc d 155 (5, [l0, l1, l2, l3, some (.int x), l5, l6], [.int x], h) Q := t_iload k_155_3 rfl
theorem k_155_5 : lk 155 5 = some (.ldc_w 406, 8, 0, 811, .int 1000000) := by decide +kernel
theorem x_155_5 : Tr sc d 155 (5, [l0, l1, l2, l3, l4, l5, l6], [.int i0], h) Q = Tr sc d 155 (8, [l0, l1, l2, l3, l4, l5, l6], [.int 1000000, .int i0], h) Q := t_go k_155_5 rfl
theorem k_155_8 : lk 155 8 = some (.if_icmp .ge 25, 11, 33, 0, .null) := by decide +kernel
theorem x_155_8 : Tr sc d 155 (8, [l0, l1, l2, l3, l4, l5, l6], [.int i1, .int i0], h) Q = if i1 ≤ i0 then Tr sc d 155 (33, [l0, l1, l2, l3, l4, l5, l6], [], h) Q else Tr sc d 155 (11, [l0, l1, l2, l3, l4, l5, l6], [], h) Q := t_if k_155_8 rfl
theorem k_155_11 : lk 155 11 = some (.lload_n 2, 12, 2, 0, .null) := by decide +kernel
theorem x_155_11 : Tr sc d 155 (11, [l0, l1, some (.long xl), l3, l4, l5, l6], [], h) Q = Tr sc d 155 (12, [l0, l1, some (.long xl), l3, l4, l5, l6], [.long xl], h) Q := t_lload_n k_155_11 rfl
theorem k_155_12 : lk 155 12 = some (.lconst 0, 13, 0, 0, .long 0) := by decide +kernel
theorem x_155_12 : Tr sc d 155 (12, [l0, l1, l2, l3, l4, l5, l6], [.long j0], h) Q = Tr sc d 155 (13, [l0, l1, l2, l3, l4, l5, l6], [.long 0, .long j0], h) Q := t_go k_155_12 rfl
theorem k_155_13 : lk 155 13 = some (.lcmp, 14, 0, 0, .null) := by decide +kernel
theorem x_155_13 : Tr sc d 155 (13, [l0, l1, l2, l3, l4, l5, l6], [.long j1, .long j0], h) Q = Tr sc d 155 (14, [l0, l1, l2, l3, l4, l5, l6], [.int (lg_cmp j0 j1)], h) Q := t_go k_155_13 rfl
theorem k_155_14 : lk 155 14 = some (.ifCond .eq 19, 17, 33, 0, .null) := by decide +kernel
theorem x_155_14 : Tr sc d 155 (14, [l0, l1, l2, l3, l4, l5, l6], [.int i0], h) Q = if i0 = 0 then Tr sc d 155 (33, [l0, l1, l2, l3, l4, l5, l6], [], h) Q else Tr sc d 155 (17, [l0, l1, l2, l3, l4, l5, l6], [], h) Q := t_if k_155_14 rfl
theorem k_155_17 : lk 155 17 = some (.lload_n 0, 18, 0, 0, .null) := by decide +kernel
theorem x_155_17 : Tr sc d 155 (17, [some (.long xl), l1, l2, l3, l4, l5, l6], [], h) Q = Tr sc d 155 (18, [some (.long xl), l1, l2, l3, l4, l5, l6], [.long xl], h) Q := t_lload_n k_155_17 rfl
theorem k_155_18 : lk 155 18 = some (.lload_n 2, 19, 2, 0, .null) := by decide +kernel
theorem x_155_18 : Tr sc d 155 (18, [l0, l1, some (.long xl), l3, l4, l5, l6], [.long j0], h) Q = Tr sc d 155 (19, [l0, l1, some (.long xl), l3, l4, l5, l6], [.long xl, .long j0], h) Q := t_lload_n k_155_18 rfl
theorem k_155_19 : lk 155 19 = some (.lrem, 20, 0, 0, .null) := by decide +kernel
theorem x_155_19 : Tr sc d 155 (19, [l0, l1, l2, l3, l4, l5, l6], [.long j1, .long j0], h) Q = (¬ j1 = 0 ∧ Tr sc d 155 (20, [l0, l1, l2, l3, l4, l5, l6], [.long (j0 - j0 / j1 * j1)], h) Q) := t_ng k_155_19 rfl
theorem k_155_20 : lk 155 20 = some (.lstore 5, 22, 5, 0, .null) := by decide +kernel
theorem x_155_20 : Tr sc d 155 (20, [l0, l1, l2, l3, l4, l5, l6], [.long j0], h) Q = Tr sc d 155 (22, [l0, l1, l2, l3, cl2 l4, some (.long j0), none], [], h) Q := t_lstore k_155_20 (Nat.le_of_ble_eq_true rfl)
theorem k_155_22 : lk 155 22 = some (.lload_n 2, 23, 2, 0, .null) := by decide +kernel
theorem x_155_22 : Tr sc d 155 (22, [l0, l1, some (.long xl), l3, l4, l5, l6], [], h) Q = Tr sc d 155 (23, [l0, l1, some (.long xl), l3, l4, l5, l6], [.long xl], h) Q := t_lload_n k_155_22 rfl
theorem k_155_23 : lk 155 23 = some (.lstore_n 0, 24, 0, 0, .null) := by decide +kernel
theorem x_155_23 : Tr sc d 155 (23, [l0, l1, l2, l3, l4, l5, l6], [.long j0], h) Q = Tr sc d 155 (24, [some (.long j0), none, l2, l3, l4, l5, l6], [], h) Q := t_lstore_n k_155_23 (Nat.le_of_ble_eq_true rfl)
theorem k_155_24 : lk 155 24 = some (.lload 5, 26, 5, 0, .null) := by decide +kernel
theorem x_155_24 : Tr sc d 155 (24, [l0, l1, l2, l3, l4, some (.long xl), l6], [], h) Q = Tr sc d 155 (26, [l0, l1, l2, l3, l4, some (.long xl), l6], [.long xl], h) Q := t_lload k_155_24 rfl
theorem k_155_26 : lk 155 26 = some (.lstore_n 2, 27, 2, 0, .null) := by decide +kernel
theorem x_155_26 : Tr sc d 155 (26, [l0, l1, l2, l3, l4, l5, l6], [.long j0], h) Q = Tr sc d 155 (27, [l0, cl2 l1, some (.long j0), none, l4, l5, l6], [], h) Q := t_lstore_n k_155_26 (Nat.le_of_ble_eq_true rfl)
theorem k_155_27 : lk 155 27 = some (.iinc 4 1, 30, 4, 0, .int 1) := by decide +kernel
theorem x_155_27 : Tr sc d 155 (27, [l0, l1, l2, l3, some (.int x), l5, l6], [], h) Q = Tr sc d 155 (30, [l0, l1, l2, cl2 l3, some (.int (x + 1)), l5, l6], [], h) Q := t_inc k_155_27 rfl (Nat.le_of_ble_eq_true rfl)
theorem k_155_30 : lk 155 30 = some (.goto (-27), 33, 3, 0, .null) := by decide +kernel
theorem x_155_30 : Tr sc d 155 (30, [l0, l1, l2, l3, l4, l5, l6], [], h) Q = Tr sc d 155 (3, [l0, l1, l2, l3, l4, l5, l6], [], h) Q := t_go k_155_30 rfl
theorem k_155_33 : lk 155 33 = some (.lload_n 0, 34, 0, 0, .null) := by decide +kernel
theorem x_155_33 : Tr sc d 155 (33, [some (.long xl), l1, l2, l3, l4, l5, l6], [], h) Q = Tr sc d 155 (34, [some (.long xl), l1, l2, l3, l4, l5, l6], [.long xl], h) Q := t_lload_n k_155_33 rfl
theorem k_155_34 : lk 155 34 = some (.lreturn, 35, 0, 0, .null) := by decide +kernel
theorem x_155_34 : Tr sc d 155 (34, [l0, l1, l2, l3, l4, l5, l6], [.long j0], h) Q = Q (some (.long j0), h) := t_ret k_155_34 (by rw [r_155]; rfl)
theorem e_155 : Tr sc d 155 (ent0 155 [.long j0, .long j1] h) Q = Tr sc d 155 (0, [some (.long j0), none, some (.long j1), none, none, none, none], [], h) Q := by
  have e : mL 155 = 7 := by decide +kernel
  unfold ent0
  rw [e]
  rfl
end XX
