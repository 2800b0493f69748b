section XX
variable {sc : Nat × (Nat → Int32)} {d : Nat} {Q : PRes → Prop} {h : PH} {l0 l1 l2 l3 l4 l5 l6 l7 l8 l9 l10 l11 l12 l13 l14 l15 l16 l17 l18 l19 l20 l21 l22 l23 l24 l25 l26 l27 : Option Value} {x i0 i1 i2 i3 i4 i5 i6 i7 i8 i9 i10 i11 : Int32} {xl j0 j1 j2 j3 j4 j5 j6 j7 j8 j9 j10 j11 : Int64} {xk k0 k1 k2 k3 k4 k5 k6 k7 k8 k9 k10 k11 : Nat}
theorem r_0 : mR 0 = none := by decide +kernel
theorem k_0_0 : lk 0 0 = some (.aload_n 0, 1, 0, 0, .null) := by decide +kernel
theorem x_0_0 : Tr sc d 0 (0, [some (.ref xk)], [], h) Q = Tr sc d 0 (1, [some (.ref xk)], [.ref xk], h) Q := t_aload_n k_0_0 rfl
theorem k_0_1 : lk 0 1 = some (.invokespecial 1, 4, 9000, 0, .null) := by decide +kernel
theorem x_0_1 : Tr sc d 0 (1, [l0], [.ref k0], h) Q = Tr sc d 0 (4, [l0], [], h) Q := t_go k_0_1 rfl
theorem k_0_4 : lk 0 4 = some (.return_, 5, 0, 0, .null) := by decide +kernel
theorem x_0_4 : Tr sc d 0 (4, [l0], [], h) Q = Q (none, h) := t_ret k_0_4 (by rw [r_0]; rfl)
theorem e_0 : Tr sc d 0 (ent0 0 [.ref k0] h) Q = Tr sc d 0 (0, [some (.ref k0)], [], h) Q := by
  have e : mL 0 = 1 := by decide +kernel
  unfold ent0
  rw [e]
  rfl
theorem r_1 : mR 1 = none := by decide +kernel
theorem k_1_0 : lk 1 0 = some (.aload_n 0, 1, 0, 0, .null) := by decide +kernel
theorem x_1_0 : Tr sc d 1 (0, [some (.ref xk), l1, l2, l3, l4, l5], [], h) Q = Tr sc d 1 (1, [some (.ref xk), l1, l2, l3, l4, l5], [.ref xk], h) Q := t_aload_n k_1_0 rfl
theorem k_1_1 : lk 1 1 = some (.invokevirtual 7, 4, 2, 0, .null) := by decide +kernel
theorem x_1_1 : Tr sc (d + 1) 1 (1, [l0, l1, l2, l3, l4, l5], [.ref k0], h) Q = (okp h k0 0 = true ∧ Tr sc d 2 (ent0 2 [.ref k0] h) (fun z => Tr sc (d + 1) 1 (4, [l0, l1, l2, l3, l4, l5], z.1.toList ++ [], z.2) Q)) := t_cv (as := []) (r := []) k_1_1 rfl rfl (Nat.le_of_ble_eq_true rfl) (Nat.le_of_ble_eq_true rfl) (Nat.le_of_ble_eq_true rfl)
theorem k_1_4 : lk 1 4 = some (.iload_n 3, 5, 3, 0, .null) := by decide +kernel
theorem x_1_4 : Tr sc d 1 (4, [l0, l1, l2, some (.int x), l4, l5], [], h) Q = Tr sc d 1 (5, [l0, l1, l2, some (.int x), l4, l5], [.int x], h) Q := t_iload_n k_1_4 rfl
theorem k_1_5 : lk 1 5 = some (.iload 4, 7, 4, 0, .null) := by decide +kernel
theorem x_1_5 : Tr sc d 1 (5, [l0, l1, l2, l3, some (.int x), l5], [.int i0], h) Q = Tr sc d 1 (7, [l0, l1, l2, l3, some (.int x), l5], [.int x, .int i0], h) Q := t_iload k_1_5 rfl
theorem k_1_7 : lk 1 7 = some (.iadd, 8, 0, 0, .null) := by decide +kernel
theorem x_1_7 : Tr sc d 1 (7, [l0, l1, l2, l3, l4, l5], [.int i1, .int i0], h) Q = Tr sc d 1 (8, [l0, l1, l2, l3, l4, l5], [.int (i0 + i1)], h) Q := t_go k_1_7 rfl
theorem k_1_8 : lk 1 8 = some (.iconst 1, 9, 0, 0, .int 1) := by decide +kernel
theorem x_1_8 : Tr sc d 1 (8, [l0, l1, l2, l3, l4, l5], [.int i0], h) Q = Tr sc d 1 (9, [l0, l1, l2, l3, l4, l5], [.int 1, .int i0], h) Q := t_go k_1_8 rfl
theorem k_1_9 : lk 1 9 = some (.isub, 10, 0, 0, .null) := by decide +kernel
theorem x_1_9 : Tr sc d 1 (9, [l0, l1, l2, l3, l4, l5], [.int i1, .int i0], h) Q = Tr sc d 1 (10, [l0, l1, l2, l3, l4, l5], [.int (i0 - i1)], h) Q := t_go k_1_9 rfl
theorem k_1_10 : lk 1 10 = some (.istore 5, 12, 5, 0, .null) := by decide +kernel
theorem x_1_10 : Tr sc d 1 (10, [l0, l1, l2, l3, l4, l5], [.int i0], h) Q = Tr sc d 1 (12, [l0, l1, l2, l3, cl2 l4, some (.int i0)], [], h) Q := t_istore k_1_10 (Nat.le_of_ble_eq_true rfl)
theorem k_1_12 : lk 1 12 = some (.iload 5, 14, 5, 0, .null) := by decide +kernel
theorem x_1_12 : Tr sc d 1 (12, [l0, l1, l2, l3, l4, some (.int x)], [], h) Q = Tr sc d 1 (14, [l0, l1, l2, l3, l4, some (.int x)], [.int x], h) Q := t_iload k_1_12 rfl
theorem k_1_14 : lk 1 14 = some (.iload_n 3, 15, 3, 0, .null) := by decide +kernel
theorem x_1_14 : Tr sc d 1 (14, [l0, l1, l2, some (.int x), l4, l5], [.int i0], h) Q = Tr sc d 1 (15, [l0, l1, l2, some (.int x), l4, l5], [.int x, .int i0], h) Q := t_iload_n k_1_14 rfl
theorem k_1_15 : lk 1 15 = some (.if_icmp .lt 21, 18, 36, 0, .null) := by decide +kernel
theorem x_1_15 : Tr sc d 1 (15, [l0, l1, l2, l3, l4, l5], [.int i1, .int i0], h) Q = if i0 < i1 then Tr sc d 1 (36, [l0, l1, l2, l3, l4, l5], [], h) Q else Tr sc d 1 (18, [l0, l1, l2, l3, l4, l5], [], h) Q := t_if k_1_15 rfl
theorem k_1_18 : lk 1 18 = some (.aload_n 0, 19, 0, 0, .null) := by decide +kernel
theorem x_1_18 : Tr sc d 1 (18, [some (.ref xk), l1, l2, l3, l4, l5], [], h) Q = Tr sc d 1 (19, [some (.ref xk), l1, l2, l3, l4, l5], [.ref xk], h) Q := t_aload_n k_1_18 rfl
theorem k_1_19 : lk 1 19 = some (.aload_n 1, 20, 1, 0, .null) := by decide +kernel
theorem x_1_19 : Tr sc d 1 (19, [l0, some (.ref xk), l2, l3, l4, l5], [.ref k0], h) Q = Tr sc d 1 (20, [l0, some (.ref xk), l2, l3, l4, l5], [.ref xk, .ref k0], h) Q := t_aload_n k_1_19 rfl
theorem k_1_20 : lk 1 20 = some (.aload_n 2, 21, 2, 0, .null) := by decide +kernel
theorem x_1_20 : Tr sc d 1 (20, [l0, l1, some (.ref xk), l3, l4, l5], [.ref k1, .ref k0], h) Q = Tr sc d 1 (21, [l0, l1, some (.ref xk), l3, l4, l5], [.ref xk, .ref k1, .ref k0], h) Q := t_aload_n k_1_20 rfl
theorem k_1_21 : lk 1 21 = some (.getfield 12, 24, 5, 0, .null) := by decide +kernel
theorem x_1_21 : Tr sc d 1 (21, [l0, l1, l2, l3, l4, l5], [.ref k2, .ref k1, .ref k0], h) Q = (okp h k2 5 = true ∧ ∃ q, hR h k2 0 = some q ∧ Tr sc d 1 (24, [l0, l1, l2, l3, l4, l5], [.ref q, .ref k1, .ref k0], h) Q) := t_getr k_1_21
theorem k_1_24 : lk 1 24 = some (.iload 5, 26, 5, 0, .null) := by decide +kernel
theorem x_1_24 : Tr sc d 1 (24, [l0, l1, l2, l3, l4, some (.int x)], [.ref k2, .ref k1, .ref k0], h) Q = Tr sc d 1 (26, [l0, l1, l2, l3, l4, some (.int x)], [.int x, .ref k2, .ref k1, .ref k0], h) Q := t_iload k_1_24 rfl
theorem k_1_26 : lk 1 26 = some (.iaload, 27, 0, 0, .null) := by decide +kernel
theorem x_1_26 : Tr sc d 1 (26, [l0, l1, l2, l3, l4, l5], [.int i3, .ref k2, .ref k1, .ref k0], h) Q = (iOk sc h k2 i3 ∧ Tr sc d 1 (27, [l0, l1, l2, l3, l4, l5], [.int (iRd sc h k2 i3), .ref k1, .ref k0], h) Q) := t_iald k_1_26
theorem k_1_27 : lk 1 27 = some (.invokevirtual 18, 30, 3, 2, .null) := by decide +kernel
theorem x_1_27 : Tr sc (d + 1) 1 (27, [l0, l1, l2, l3, l4, l5], [.int i2, .ref k1, .ref k0], h) Q = (okp h k0 0 = true ∧ Tr sc d 3 (ent0 3 [.ref k0, .ref k1, .int i2] h) (fun z => Tr sc (d + 1) 1 (30, [l0, l1, l2, l3, l4, l5], z.1.toList ++ [], z.2) Q)) := t_cv (as := [.ref k1, .int i2]) (r := []) k_1_27 rfl rfl (Nat.le_of_ble_eq_true rfl) (Nat.le_of_ble_eq_true rfl) (Nat.le_of_ble_eq_true rfl)
theorem k_1_30 : lk 1 30 = some (.iinc 5 (-1), 33, 5, 0, .int (-1)) := by decide +kernel
theorem x_1_30 : Tr sc d 1 (30, [l0, l1, l2, l3, l4, some (.int x)], [], h) Q = Tr sc d 1 (33, [l0, l1, l2, l3, cl2 l4, some (.int (x + (-1)))], [], h) Q := t_inc k_1_30 rfl (Nat.le_of_ble_eq_true rfl)
theorem k_1_33 : lk 1 33 = some (.goto (-21), 36, 12, 0, .null) := by decide +kernel
theorem x_1_33 : Tr sc d 1 (33, [l0, l1, l2, l3, l4, l5], [], h) Q = Tr sc d 1 (12, [l0, l1, l2, l3, l4, l5], [], h) Q := t_go k_1_33 rfl
theorem k_1_36 : lk 1 36 = some (.return_, 37, 0, 0, .null) := by decide +kernel
theorem x_1_36 : Tr sc d 1 (36, [l0, l1, l2, l3, l4, l5], [], h) Q = Q (none, h) := t_ret k_1_36 (by rw [r_1]; rfl)
theorem e_1 : Tr sc d 1 (ent0 1 [.ref k0, .ref k1, .ref k2, .int i3, .int i4] h) Q = Tr sc d 1 (0, [some (.ref k0), some (.ref k1), some (.ref k2), some (.int i3), some (.int i4), none], [], h) Q := by
  have e : mL 1 = 6 := by decide +kernel
  unfold ent0
  rw [e]
  rfl
theorem r_2 : mR 2 = none := by decide +kernel
theorem k_2_0 : lk 2 0 = some (.aload_n 0, 1, 0, 0, .null) := by decide +kernel
theorem x_2_0 : Tr sc d 2 (0, [some (.ref xk)], [], h) Q = Tr sc d 2 (1, [some (.ref xk)], [.ref xk], h) Q := t_aload_n k_2_0 rfl
theorem k_2_1 : lk 2 1 = some (.lconst 1, 2, 0, 0, .long 1) := by decide +kernel
theorem x_2_1 : Tr sc d 2 (1, [l0], [.ref k0], h) Q = Tr sc d 2 (2, [l0], [.long 1, .ref k0], h) Q := t_go k_2_1 rfl
theorem k_2_2 : lk 2 2 = some (.putfield 22, 5, 0, 0, .long 0) := by decide +kernel
theorem x_2_2 : Tr sc d 2 (2, [l0], [.long j1, .ref k0], h) Q = (okp h k0 0 = true ∧ Tr sc d 2 (5, [l0], [], (sL h k0 0 j1)) Q) := t_gd k_2_2 rfl
theorem k_2_5 : lk 2 5 = some (.aload_n 0, 6, 0, 0, .null) := by decide +kernel
theorem x_2_5 : Tr sc d 2 (5, [some (.ref xk)], [], h) Q = Tr sc d 2 (6, [some (.ref xk)], [.ref xk], h) Q := t_aload_n k_2_5 rfl
theorem k_2_6 : lk 2 6 = some (.lconst 0, 7, 0, 0, .long 0) := by decide +kernel
theorem x_2_6 : Tr sc d 2 (6, [l0], [.ref k0], h) Q = Tr sc d 2 (7, [l0], [.long 0, .ref k0], h) Q := t_go k_2_6 rfl
theorem k_2_7 : lk 2 7 = some (.putfield 26, 10, 0, 1, .long 0) := by decide +kernel
theorem x_2_7 : Tr sc d 2 (7, [l0], [.long j1, .ref k0], h) Q = (okp h k0 0 = true ∧ Tr sc d 2 (10, [l0], [], (sL h k0 1 j1)) Q) := t_gd k_2_7 rfl
theorem k_2_10 : lk 2 10 = some (.aload_n 0, 11, 0, 0, .null) := by decide +kernel
theorem x_2_10 : Tr sc d 2 (10, [some (.ref xk)], [], h) Q = Tr sc d 2 (11, [some (.ref xk)], [.ref xk], h) Q := t_aload_n k_2_10 rfl
theorem k_2_11 : lk 2 11 = some (.lconst 0, 12, 0, 0, .long 0) := by decide +kernel
theorem x_2_11 : Tr sc d 2 (11, [l0], [.ref k0], h) Q = Tr sc d 2 (12, [l0], [.long 0, .ref k0], h) Q := t_go k_2_11 rfl
theorem k_2_12 : lk 2 12 = some (.putfield 29, 15, 0, 2, .long 0) := by decide +kernel
theorem x_2_12 : Tr sc d 2 (12, [l0], [.long j1, .ref k0], h) Q = (okp h k0 0 = true ∧ Tr sc d 2 (15, [l0], [], (sL h k0 2 j1)) Q) := t_gd k_2_12 rfl
theorem k_2_15 : lk 2 15 = some (.aload_n 0, 16, 0, 0, .null) := by decide +kernel
theorem x_2_15 : Tr sc d 2 (15, [some (.ref xk)], [], h) Q = Tr sc d 2 (16, [some (.ref xk)], [.ref xk], h) Q := t_aload_n k_2_15 rfl
theorem k_2_16 : lk 2 16 = some (.lconst 1, 17, 0, 0, .long 1) := by decide +kernel
theorem x_2_16 : Tr sc d 2 (16, [l0], [.ref k0], h) Q = Tr sc d 2 (17, [l0], [.long 1, .ref k0], h) Q := t_go k_2_16 rfl
theorem k_2_17 : lk 2 17 = some (.putfield 32, 20, 0, 3, .long 0) := by decide +kernel
theorem x_2_17 : Tr sc d 2 (17, [l0], [.long j1, .ref k0], h) Q = (okp h k0 0 = true ∧ Tr sc d 2 (20, [l0], [], (sL h k0 3 j1)) Q) := t_gd k_2_17 rfl
theorem k_2_20 : lk 2 20 = some (.aload_n 0, 21, 0, 0, .null) := by decide +kernel
theorem x_2_20 : Tr sc d 2 (20, [some (.ref xk)], [], h) Q = Tr sc d 2 (21, [some (.ref xk)], [.ref xk], h) Q := t_aload_n k_2_20 rfl
theorem k_2_21 : lk 2 21 = some (.lconst 0, 22, 0, 0, .long 0) := by decide +kernel
theorem x_2_21 : Tr sc d 2 (21, [l0], [.ref k0], h) Q = Tr sc d 2 (22, [l0], [.long 0, .ref k0], h) Q := t_go k_2_21 rfl
theorem k_2_22 : lk 2 22 = some (.putfield 35, 25, 0, 4, .long 0) := by decide +kernel
theorem x_2_22 : Tr sc d 2 (22, [l0], [.long j1, .ref k0], h) Q = (okp h k0 0 = true ∧ Tr sc d 2 (25, [l0], [], (sL h k0 4 j1)) Q) := t_gd k_2_22 rfl
theorem k_2_25 : lk 2 25 = some (.aload_n 0, 26, 0, 0, .null) := by decide +kernel
theorem x_2_25 : Tr sc d 2 (25, [some (.ref xk)], [], h) Q = Tr sc d 2 (26, [some (.ref xk)], [.ref xk], h) Q := t_aload_n k_2_25 rfl
theorem k_2_26 : lk 2 26 = some (.lconst 0, 27, 0, 0, .long 0) := by decide +kernel
theorem x_2_26 : Tr sc d 2 (26, [l0], [.ref k0], h) Q = Tr sc d 2 (27, [l0], [.long 0, .ref k0], h) Q := t_go k_2_26 rfl
theorem k_2_27 : lk 2 27 = some (.putfield 38, 30, 0, 5, .long 0) := by decide +kernel
theorem x_2_27 : Tr sc d 2 (27, [l0], [.long j1, .ref k0], h) Q = (okp h k0 0 = true ∧ Tr sc d 2 (30, [l0], [], (sL h k0 5 j1)) Q) := t_gd k_2_27 rfl
theorem k_2_30 : lk 2 30 = some (.aload_n 0, 31, 0, 0, .null) := by decide +kernel
theorem x_2_30 : Tr sc d 2 (30, [some (.ref xk)], [], h) Q = Tr sc d 2 (31, [some (.ref xk)], [.ref xk], h) Q := t_aload_n k_2_30 rfl
theorem k_2_31 : lk 2 31 = some (.lconst 1, 32, 0, 0, .long 1) := by decide +kernel
theorem x_2_31 : Tr sc d 2 (31, [l0], [.ref k0], h) Q = Tr sc d 2 (32, [l0], [.long 1, .ref k0], h) Q := t_go k_2_31 rfl
theorem k_2_32 : lk 2 32 = some (.putfield 41, 35, 0, 6, .long 0) := by decide +kernel
theorem x_2_32 : Tr sc d 2 (32, [l0], [.long j1, .ref k0], h) Q = (okp h k0 0 = true ∧ Tr sc d 2 (35, [l0], [], (sL h k0 6 j1)) Q) := t_gd k_2_32 rfl
theorem k_2_35 : lk 2 35 = some (.return_, 36, 0, 0, .null) := by decide +kernel
theorem x_2_35 : Tr sc d 2 (35, [l0], [], h) Q = Q (none, h) := t_ret k_2_35 (by rw [r_2]; rfl)
theorem e_2 : Tr sc d 2 (ent0 2 [.ref k0] h) Q = Tr sc d 2 (0, [some (.ref k0)], [], h) Q := by
  have e : mL 2 = 1 := by decide +kernel
  unfold ent0
  rw [e]
  rfl
theorem r_3 : mR 3 = none := by decide +kernel
theorem k_3_0 : lk 3 0 = some (.aload_n 1, 1, 1, 0, .null) := by decide +kernel
theorem x_3_0 : Tr sc d 3 (0, [l0, some (.ref xk), l2, l3, l4, l5, l6, l7, l8, l9, l10, l11, l12, l13, l14, l15, l16, l17], [], h) Q = Tr sc d 3 (1, [l0, some (.ref xk), l2, l3, l4, l5, l6, l7, l8, l9, l10, l11, l12, l13, l14, l15, l16, l17], [.ref xk], h) Q := t_aload_n k_3_0 rfl
theorem k_3_1 : lk 3 1 = some (.getfield 44, 4, 6, 0, .null) := by decide +kernel
theorem x_3_1 : Tr sc d 3 (1, [l0, l1, l2, l3, l4, l5, l6, l7, l8, l9, l10, l11, l12, l13, l14, l15, l16, l17], [.ref k0], h) Q = (okp h k0 6 = true ∧ ∃ q, hR h k0 0 = some q ∧ Tr sc d 3 (4, [l0, l1, l2, l3, l4, l5, l6, l7, l8, l9, l10, l11, l12, l13, l14, l15, l16, l17], [.ref q], h) Q) := t_getr k_3_1
theorem k_3_4 : lk 3 4 = some (.iload_n 2, 5, 2, 0, .null) := by decide +kernel
theorem x_3_4 : Tr sc d 3 (4, [l0, l1, some (.int x), l3, l4, l5, l6, l7, l8, l9, l10, l11, l12, l13, l14, l15, l16, l17], [.ref k0], h) Q = Tr sc d 3 (5, [l0, l1, some (.int x), l3, l4, l5, l6, l7, l8, l9, l10, l11, l12, l13, l14, l15, l16, l17], [.int x, .ref k0], h) Q := t_iload_n k_3_4 rfl
theorem k_3_5 : lk 3 5 = some (.iaload, 6, 0, 0, .null) := by decide +kernel
theorem x_3_5 : Tr sc d 3 (5, [l0, l1, l2, l3, l4, l5, l6, l7, l8, l9, l10, l11, l12, l13, l14, l15, l16, l17], [.int i1, .ref k0], h) Q = (iOk sc h k0 i1 ∧ Tr sc d 3 (6, [l0, l1, l2, l3, l4, l5, l6, l7, l8, l9, l10, l11, l12, l13, l14, l15, l16, l17], [.int (iRd sc h k0 i1)], h) Q) := t_iald k_3_5
theorem k_3_6 : lk 3 6 = some (.istore_n 3, 7, 3, 0, .null) := by decide +kernel
theorem x_3_6 : Tr sc d 3 (6, [l0, l1, l2, l3, l4, l5, l6, l7, l8, l9, l10, l11, l12, l13, l14, l15, l16, l17], [.int i0], h) Q = Tr sc d 3 (7, [l0, l1, cl2 l2, some (.int i0), l4, l5, l6, l7, l8, l9, l10, l11, l12, l13, l14, l15, l16, l17], [], h) Q := t_istore_n k_3_6 (Nat.le_of_ble_eq_true rfl)
theorem k_3_7 : lk 3 7 = some (.getstatic 49, 10, 0, 777, .null) := by decide +kernel
theorem x_3_7 : Tr sc d 3 (7, [l0, l1, l2, l3, l4, l5, l6, l7, l8, l9, l10, l11, l12, l13, l14, l15, l16, l17], [], h) Q = Tr sc d 3 (10, [l0, l1, l2, l3, l4, l5, l6, l7, l8, l9, l10, l11, l12, l13, l14, l15, l16, l17], [.ref 1000], h) Q := t_go k_3_7 rfl
theorem k_3_10 : lk 3 10 = some (.iload_n 3, 11, 3, 0, .null) := by decide +kernel
theorem x_3_10 : Tr sc d 3 (10, [l0, l1, l2, some (.int x), l4, l5, l6, l7, l8, l9, l10, l11, l12, l13, l14, l15, l16, l17], [.ref k0], h) Q = Tr sc d 3 (11, [l0, l1, l2, some (.int x), l4, l5, l6, l7, l8, l9, l10, l11, l12, l13, l14, l15, l16, l17], [.int x, .ref k0], h) Q := t_iload_n k_3_10 rfl
theorem k_3_11 : lk 3 11 = some (.iaload, 12, 0, 0, .null) := by decide +kernel
theorem x_3_11 : Tr sc d 3 (11, [l0, l1, l2, l3, l4, l5, l6, l7, l8, l9, l10, l11, l12, l13, l14, l15, l16, l17], [.int i1, .ref k0], h) Q = (iOk sc h k0 i1 ∧ Tr sc d 3 (12, [l0, l1, l2, l3, l4, l5, l6, l7, l8, l9, l10, l11, l12, l13, l14, l15, l16, l17], [.int (iRd sc h k0 i1)], h) Q) := t_iald k_3_11
theorem k_3_12 : lk 3 12 = some (.i2l, 13, 0, 0, .null) := by decide +kernel
theorem x_3_12 : Tr sc d 3 (12, [l0, l1, l2, l3, l4, l5, l6, l7, l8, l9, l10, l11, l12, l13, l14, l15, l16, l17], [.int i0], h) Q = Tr sc d 3 (13, [l0, l1, l2, l3, l4, l5, l6, l7, l8, l9, l10, l11, l12, l13, l14, l15, l16, l17], [.long i0.toInt64], h) Q := t_go k_3_12 rfl
theorem k_3_13 : lk 3 13 = some (.lstore 4, 15, 4, 0, .null) := by decide +kernel
theorem x_3_13 : Tr sc d 3 (13, [l0, l1, l2, l3, l4, l5, l6, l7, l8, l9, l10, l11, l12, l13, l14, l15, l16, l17], [.long j0], h) Q = Tr sc d 3 (15, [l0, l1, l2, cl2 l3, some (.long j0), none, l6, l7, l8, l9, l10, l11, l12, l13, l14, l15, l16, l17], [], h) Q := t_lstore k_3_13 (Nat.le_of_ble_eq_true rfl)
theorem k_3_15 : lk 3 15 = some (.getstatic 54, 18, 1, 779, .null) := by decide +kernel
theorem x_3_15 : Tr sc d 3 (15, [l0, l1, l2, l3, l4, l5, l6, l7, l8, l9, l10, l11, l12, l13, l14, l15, l16, l17], [], h) Q = Tr sc d 3 (18, [l0, l1, l2, l3, l4, l5, l6, l7, l8, l9, l10, l11, l12, l13, l14, l15, l16, l17], [.ref 1001], h) Q := t_go k_3_15 rfl
theorem k_3_18 : lk 3 18 = some (.iload_n 3, 19, 3, 0, .null) := by decide +kernel
theorem x_3_18 : Tr sc d 3 (18, [l0, l1, l2, some (.int x), l4, l5, l6, l7, l8, l9, l10, l11, l12, l13, l14, l15, l16, l17], [.ref k0], h) Q = Tr sc d 3 (19, [l0, l1, l2, some (.int x), l4, l5, l6, l7, l8, l9, l10, l11, l12, l13, l14, l15, l16, l17], [.int x, .ref k0], h) Q := t_iload_n k_3_18 rfl
theorem k_3_19 : lk 3 19 = some (.iaload, 20, 0, 0, .null) := by decide +kernel
theorem x_3_19 : Tr sc d 3 (19, [l0, l1, l2, l3, l4, l5, l6, l7, l8, l9, l10, l11, l12, l13, l14, l15, l16, l17], [.int i1, .ref k0], h) Q = (iOk sc h k0 i1 ∧ Tr sc d 3 (20, [l0, l1, l2, l3, l4, l5, l6, l7, l8, l9, l10, l11, l12, l13, l14, l15, l16, l17], [.int (iRd sc h k0 i1)], h) Q) := t_iald k_3_19
theorem k_3_20 : lk 3 20 = some (.i2l, 21, 0, 0, .null) := by decide +kernel
theorem x_3_20 : Tr sc d 3 (20, [l0, l1, l2, l3, l4, l5, l6, l7, l8, l9, l10, l11, l12, l13, l14, l15, l16, l17], [.int i0], h) Q = Tr sc d 3 (21, [l0, l1, l2, l3, l4, l5, l6, l7, l8, l9, l10, l11, l12, l13, l14, l15, l16, l17], [.long i0.toInt64], h) Q := t_go k_3_20 rfl
theorem k_3_21 : lk 3 21 = some (.lstore 6, 23, 6, 0, .null) := by decide +kernel
theorem x_3_21 : Tr sc d 3 (21, [l0, l1, l2, l3, l4, l5, l6, l7, l8, l9, l10, l11, l12, l13, l14, l15, l16, l17], [.long j0], h) Q = Tr sc d 3 (23, [l0, l1, l2, l3, l4, cl2 l5, some (.long j0), none, l8, l9, l10, l11, l12, l13, l14, l15, l16, l17], [], h) Q := t_lstore k_3_21 (Nat.le_of_ble_eq_true rfl)
theorem k_3_23 : lk 3 23 = some (.getstatic 57, 26, 2, 781, .null) := by decide +kernel
theorem x_3_23 : Tr sc d 3 (23, [l0, l1, l2, l3, l4, l5, l6, l7, l8, l9, l10, l11, l12, l13, l14, l15, l16, l17], [], h) Q = Tr sc d 3 (26, [l0, l1, l2, l3, l4, l5, l6, l7, l8, l9, l10, l11, l12, l13, l14, l15, l16, l17], [.ref 1002], h) Q := t_go k_3_23 rfl
theorem k_3_26 : lk 3 26 = some (.iload_n 3, 27, 3, 0, .null) := by decide +kernel
theorem x_3_26 : Tr sc d 3 (26, [l0, l1, l2, some (.int x), l4, l5, l6, l7, l8, l9, l10, l11, l12, l13, l14, l15, l16, l17], [.ref k0], h) Q = Tr sc d 3 (27, [l0, l1, l2, some (.int x), l4, l5, l6, l7, l8, l9, l10, l11, l12, l13, l14, l15, l16, l17], [.int x, .ref k0], h) Q := t_iload_n k_3_26 rfl
theorem k_3_27 : lk 3 27 = some (.iaload, 28, 0, 0, .null) := by decide +kernel
theorem x_3_27 : Tr sc d 3 (27, [l0, l1, l2, l3, l4, l5, l6, l7, l8, l9, l10, l11, l12, l13, l14, l15, l16, l17], [.int i1, .ref k0], h) Q = (iOk sc h k0 i1 ∧ Tr sc d 3 (28, [l0, l1, l2, l3, l4, l5, l6, l7, l8, l9, l10, l11, l12, l13, l14, l15, l16, l17], [.int (iRd sc h k0 i1)], h) Q) := t_iald k_3_27
theorem k_3_28 : lk 3 28 = some (.i2l, 29, 0, 0, .null) := by decide +kernel
theorem x_3_28 : Tr sc d 3 (28, [l0, l1, l2, l3, l4, l5, l6, l7, l8, l9, l10, l11, l12, l13, l14, l15, l16, l17], [.int i0], h) Q = Tr sc d 3 (29, [l0, l1, l2, l3, l4, l5, l6, l7, l8, l9, l10, l11, l12, l13, l14, l15, l16, l17], [.long i0.toInt64], h) Q := t_go k_3_28 rfl
theorem k_3_29 : lk 3 29 = some (.lstore 8, 31, 8, 0, .null) := by decide +kernel
theorem x_3_29 : Tr sc d 3 (29, [l0, l1, l2, l3, l4, l5, l6, l7, l8, l9, l10, l11, l12, l13, l14, l15, l16, l17], [.long j0], h) Q = Tr sc d 3 (31, [l0, l1, l2, l3, l4, l5, l6, cl2 l7, some (.long j0), none, l10, l11, l12, l13, l14, l15, l16, l17], [], h) Q := t_lstore k_3_29 (Nat.le_of_ble_eq_true rfl)
theorem k_3_31 : lk 3 31 = some (.getstatic 60, 34, 3, 783, .null) := by decide +kernel
theorem x_3_31 : Tr sc d 3 (31, [l0, l1, l2, l3, l4, l5, l6, l7, l8, l9, l10, l11, l12, l13, l14, l15, l16, l17], [], h) Q = Tr sc d 3 (34, [l0, l1, l2, l3, l4, l5, l6, l7, l8, l9, l10, l11, l12, l13, l14, l15, l16, l17], [.ref 1003], h) Q := t_go k_3_31 rfl
theorem k_3_34 : lk 3 34 = some (.iload_n 3, 35, 3, 0, .null) := by decide +kernel
theorem x_3_34 : Tr sc d 3 (34, [l0, l1, l2, some (.int x), l4, l5, l6, l7, l8, l9, l10, l11, l12, l13, l14, l15, l16, l17], [.ref k0], h) Q = Tr sc d 3 (35, [l0, l1, l2, some (.int x), l4, l5, l6, l7, l8, l9, l10, l11, l12, l13, l14, l15, l16, l17], [.int x, .ref k0], h) Q := t_iload_n k_3_34 rfl
theorem k_3_35 : lk 3 35 = some (.iaload, 36, 0, 0, .null) := by decide +kernel
theorem x_3_35 : Tr sc d 3 (35, [l0, l1, l2, l3, l4, l5, l6, l7, l8, l9, l10, l11, l12, l13, l14, l15, l16, l17], [.int i1, .ref k0], h) Q = (iOk sc h k0 i1 ∧ Tr sc d 3 (36, [l0, l1, l2, l3, l4, l5, l6, l7, l8, l9, l10, l11, l12, l13, l14, l15, l16, l17], [.int (iRd sc h k0 i1)], h) Q) := t_iald k_3_35
theorem k_3_36 : lk 3 36 = some (.i2l, 37, 0, 0, .null) := by decide +kernel
theorem x_3_36 : Tr sc d 3 (36, [l0, l1, l2, l3, l4, l5, l6, l7, l8, l9, l10, l11, l12, l13, l14, l15, l16, l17], [.int i0], h) Q = Tr sc d 3 (37, [l0, l1, l2, l3, l4, l5, l6, l7, l8, l9, l10, l11, l12, l13, l14, l15, l16, l17], [.long i0.toInt64], h) Q := t_go k_3_36 rfl
theorem k_3_37 : lk 3 37 = some (.lstore 10, 39, 10, 0, .null) := by decide +kernel
theorem x_3_37 : Tr sc d 3 (37, [l0, l1, l2, l3, l4, l5, l6, l7, l8, l9, l10, l11, l12, l13, l14, l15, l16, l17], [.long j0], h) Q = Tr sc d 3 (39, [l0, l1, l2, l3, l4, l5, l6, l7, l8, cl2 l9, some (.long j0), none, l12, l13, l14, l15, l16, l17], [], h) Q := t_lstore k_3_37 (Nat.le_of_ble_eq_true rfl)
theorem k_3_39 : lk 3 39 = some (.aload_n 0, 40, 0, 0, .null) := by decide +kernel
theorem x_3_39 : Tr sc d 3 (39, [some (.ref xk), l1, l2, l3, l4, l5, l6, l7, l8, l9, l10, l11, l12, l13, l14, l15, l16, l17], [], h) Q = Tr sc d 3 (40, [some (.ref xk), l1, l2, l3, l4, l5, l6, l7, l8, l9, l10, l11, l12, l13, l14, l15, l16, l17], [.ref xk], h) Q := t_aload_n k_3_39 rfl
theorem k_3_40 : lk 3 40 = some (.getfield 22, 43, 0, 0, .long 0) := by decide +kernel
theorem x_3_40 : Tr sc d 3 (40, [l0, l1, l2, l3, l4, l5, l6, l7, l8, l9, l10, l11, l12, l13, l14, l15, l16, l17], [.ref k0], h) Q = (okp h k0 0 = true ∧ Tr sc d 3 (43, [l0, l1, l2, l3, l4, l5, l6, l7, l8, l9, l10, l11, l12, l13, l14, l15, l16, l17], [.long (hL h k0 0)], h) Q) := t_gd k_3_40 rfl
theorem k_3_43 : lk 3 43 = some (.lstore 12, 45, 12, 0, .null) := by decide +kernel
theorem x_3_43 : Tr sc d 3 (43, [l0, l1, l2, l3, l4, l5, l6, l7, l8, l9, l10, l11, l12, l13, l14, l15, l16, l17], [.long j0], h) Q = Tr sc d 3 (45, [l0, l1, l2, l3, l4, l5, l6, l7, l8, l9, l10, cl2 l11, some (.long j0), none, l14, l15, l16, l17], [], h) Q := t_lstore k_3_43 (Nat.le_of_ble_eq_true rfl)
theorem k_3_45 : lk 3 45 = some (.aload_n 0, 46, 0, 0, .null) := by decide +kernel
theorem x_3_45 : Tr sc d 3 (45, [some (.ref xk), l1, l2, l3, l4, l5, l6, l7, l8, l9, l10, l11, l12, l13, l14, l15, l16, l17], [], h) Q = Tr sc d 3 (46, [some (.ref xk), l1, l2, l3, l4, l5, l6, l7, l8, l9, l10, l11, l12, l13, l14, l15, l16, l17], [.ref xk], h) Q := t_aload_n k_3_45 rfl
theorem k_3_46 : lk 3 46 = some (.getfield 26, 49, 0, 1, .long 0) := by decide +kernel
theorem x_3_46 : Tr sc d 3 (46, [l0, l1, l2, l3, l4, l5, l6, l7, l8, l9, l10, l11, l12, l13, l14, l15, l16, l17], [.ref k0], h) Q = (okp h k0 0 = true ∧ Tr sc d 3 (49, [l0, l1, l2, l3, l4, l5, l6, l7, l8, l9, l10, l11, l12, l13, l14, l15, l16, l17], [.long (hL h k0 1)], h) Q) := t_gd k_3_46 rfl
theorem k_3_49 : lk 3 49 = some (.lstore 14, 51, 14, 0, .null) := by decide +kernel
theorem x_3_49 : Tr sc d 3 (49, [l0, l1, l2, l3, l4, l5, l6, l7, l8, l9, l10, l11, l12, l13, l14, l15, l16, l17], [.long j0], h) Q = Tr sc d 3 (51, [l0, l1, l2, l3, l4, l5, l6, l7, l8, l9, l10, l11, l12, cl2 l13, some (.long j0), none, l16, l17], [], h) Q := t_lstore k_3_49 (Nat.le_of_ble_eq_true rfl)
theorem k_3_51 : lk 3 51 = some (.aload_n 0, 52, 0, 0, .null) := by decide +kernel
theorem x_3_51 : Tr sc d 3 (51, [some (.ref xk), l1, l2, l3, l4, l5, l6, l7, l8, l9, l10, l11, l12, l13, l14, l15, l16, l17], [], h) Q = Tr sc d 3 (52, [some (.ref xk), l1, l2, l3, l4, l5, l6, l7, l8, l9, l10, l11, l12, l13, l14, l15, l16, l17], [.ref xk], h) Q := t_aload_n k_3_51 rfl
theorem k_3_52 : lk 3 52 = some (.getfield 35, 55, 0, 4, .long 0) := by decide +kernel
theorem x_3_52 : Tr sc d 3 (52, [l0, l1, l2, l3, l4, l5, l6, l7, l8, l9, l10, l11, l12, l13, l14, l15, l16, l17], [.ref k0], h) Q = (okp h k0 0 = true ∧ Tr sc d 3 (55, [l0, l1, l2, l3, l4, l5, l6, l7, l8, l9, l10, l11, l12, l13, l14, l15, l16, l17], [.long (hL h k0 4)], h) Q) := t_gd k_3_52 rfl
theorem k_3_55 : lk 3 55 = some (.lstore 16, 57, 16, 0, .null) := by decide +kernel
theorem x_3_55 : Tr sc d 3 (55, [l0, l1, l2, l3, l4, l5, l6, l7, l8, l9, l10, l11, l12, l13, l14, l15, l16, l17], [.long j0], h) Q = Tr sc d 3 (57, [l0, l1, l2, l3, l4, l5, l6, l7, l8, l9, l10, l11, l12, l13, l14, cl2 l15, some (.long j0), none], [], h) Q := t_lstore k_3_55 (Nat.le_of_ble_eq_true rfl)
theorem k_3_57 : lk 3 57 = some (.aload_n 0, 58, 0, 0, .null) := by decide +kernel
theorem x_3_57 : Tr sc d 3 (57, [some (.ref xk), l1, l2, l3, l4, l5, l6, l7, l8, l9, l10, l11, l12, l13, l14, l15, l16, l17], [], h) Q = Tr sc d 3 (58, [some (.ref xk), l1, l2, l3, l4, l5, l6, l7, l8, l9, l10, l11, l12, l13, l14, l15, l16, l17], [.ref xk], h) Q := t_aload_n k_3_57 rfl
theorem k_3_58 : lk 3 58 = some (.lload 4, 60, 4, 0, .null) := by decide +kernel
theorem x_3_58 : Tr sc d 3 (58, [l0, l1, l2, l3, some (.long xl), l5, l6, l7, l8, l9, l10, l11, l12, l13, l14, l15, l16, l17], [.ref k0], h) Q = Tr sc d 3 (60, [l0, l1, l2, l3, some (.long xl), l5, l6, l7, l8, l9, l10, l11, l12, l13, l14, l15, l16, l17], [.long xl, .ref k0], h) Q := t_lload k_3_58 rfl
theorem k_3_60 : lk 3 60 = some (.lload 12, 62, 12, 0, .null) := by decide +kernel
theorem x_3_60 : Tr sc d 3 (60, [l0, l1, l2, l3, l4, l5, l6, l7, l8, l9, l10, l11, some (.long xl), l13, l14, l15, l16, l17], [.long j1, .ref k0], h) Q = Tr sc d 3 (62, [l0, l1, l2, l3, l4, l5, l6, l7, l8, l9, l10, l11, some (.long xl), l13, l14, l15, l16, l17], [.long xl, .long j1, .ref k0], h) Q := t_lload k_3_60 rfl
theorem k_3_62 : lk 3 62 = some (.lmul, 63, 0, 0, .null) := by decide +kernel
theorem x_3_62 : Tr sc d 3 (62, [l0, l1, l2, l3, l4, l5, l6, l7, l8, l9, l10, l11, l12, l13, l14, l15, l16, l17], [.long j2, .long j1, .ref k0], h) Q = Tr sc d 3 (63, [l0, l1, l2, l3, l4, l5, l6, l7, l8, l9, l10, l11, l12, l13, l14, l15, l16, l17], [.long (j1 * j2), .ref k0], h) Q := t_go k_3_62 rfl
theorem k_3_63 : lk 3 63 = some (.lload 6, 65, 6, 0, .null) := by decide +kernel
theorem x_3_63 : Tr sc d 3 (63, [l0, l1, l2, l3, l4, l5, some (.long xl), l7, l8, l9, l10, l11, l12, l13, l14, l15, l16, l17], [.long j1, .ref k0], h) Q = Tr sc d 3 (65, [l0, l1, l2, l3, l4, l5, some (.long xl), l7, l8, l9, l10, l11, l12, l13, l14, l15, l16, l17], [.long xl, .long j1, .ref k0], h) Q := t_lload k_3_63 rfl
theorem k_3_65 : lk 3 65 = some (.aload_n 0, 66, 0, 0, .null) := by decide +kernel
theorem x_3_65 : Tr sc d 3 (65, [some (.ref xk), l1, l2, l3, l4, l5, l6, l7, l8, l9, l10, l11, l12, l13, l14, l15, l16, l17], [.long j2, .long j1, .ref k0], h) Q = Tr sc d 3 (66, [some (.ref xk), l1, l2, l3, l4, l5, l6, l7, l8, l9, l10, l11, l12, l13, l14, l15, l16, l17], [.ref xk, .long j2, .long j1, .ref k0], h) Q := t_aload_n k_3_65 rfl
theorem k_3_66 : lk 3 66 = some (.getfield 29, 69, 0, 2, .long 0) := by decide +kernel
theorem x_3_66 : Tr sc d 3 (66, [l0, l1, l2, l3, l4, l5, l6, l7, l8, l9, l10, l11, l12, l13, l14, l15, l16, l17], [.ref k3, .long j2, .long j1, .ref k0], h) Q = (okp h k3 0 = true ∧ Tr sc d 3 (69, [l0, l1, l2, l3, l4, l5, l6, l7, l8, l9, l10, l11, l12, l13, l14, l15, l16, l17], [.long (hL h k3 2), .long j2, .long j1, .ref k0], h) Q) := t_gd k_3_66 rfl
theorem k_3_69 : lk 3 69 = some (.lmul, 70, 0, 0, .null) := by decide +kernel
theorem x_3_69 : Tr sc d 3 (69, [l0, l1, l2, l3, l4, l5, l6, l7, l8, l9, l10, l11, l12, l13, l14, l15, l16, l17], [.long j3, .long j2, .long j1, .ref k0], h) Q = Tr sc d 3 (70, [l0, l1, l2, l3, l4, l5, l6, l7, l8, l9, l10, l11, l12, l13, l14, l15, l16, l17], [.long (j2 * j3), .long j1, .ref k0], h) Q := t_go k_3_69 rfl
theorem k_3_70 : lk 3 70 = some (.ladd, 71, 0, 0, .null) := by decide +kernel
theorem x_3_70 : Tr sc d 3 (70, [l0, l1, l2, l3, l4, l5, l6, l7, l8, l9, l10, l11, l12, l13, l14, l15, l16, l17], [.long j2, .long j1, .ref k0], h) Q = Tr sc d 3 (71, [l0, l1, l2, l3, l4, l5, l6, l7, l8, l9, l10, l11, l12, l13, l14, l15, l16, l17], [.long (j1 + j2), .ref k0], h) Q := t_go k_3_70 rfl
theorem k_3_71 : lk 3 71 = some (.putfield 22, 74, 0, 0, .long 0) := by decide +kernel
theorem x_3_71 : Tr sc d 3 (71, [l0, l1, l2, l3, l4, l5, l6, l7, l8, l9, l10, l11, l12, l13, l14, l15, l16, l17], [.long j1, .ref k0], h) Q = (okp h k0 0 = true ∧ Tr sc d 3 (74, [l0, l1, l2, l3, l4, l5, l6, l7, l8, l9, l10, l11, l12, l13, l14, l15, l16, l17], [], (sL h k0 0 j1)) Q) := t_gd k_3_71 rfl
theorem k_3_74 : lk 3 74 = some (.aload_n 0, 75, 0, 0, .null) := by decide +kernel
theorem x_3_74 : Tr sc d 3 (74, [some (.ref xk), l1, l2, l3, l4, l5, l6, l7, l8, l9, l10, l11, l12, l13, l14, l15, l16, l17], [], h) Q = Tr sc d 3 (75, [some (.ref xk), l1, l2, l3, l4, l5, l6, l7, l8, l9, l10, l11, l12, l13, l14, l15, l16, l17], [.ref xk], h) Q := t_aload_n k_3_74 rfl
theorem k_3_75 : lk 3 75 = some (.lload 4, 77, 4, 0, .null) := by decide +kernel
theorem x_3_75 : Tr sc d 3 (75, [l0, l1, l2, l3, some (.long xl), l5, l6, l7, l8, l9, l10, l11, l12, l13, l14, l15, l16, l17], [.ref k0], h) Q = Tr sc d 3 (77, [l0, l1, l2, l3, some (.long xl), l5, l6, l7, l8, l9, l10, l11, l12, l13, l14, l15, l16, l17], [.long xl, .ref k0], h) Q := t_lload k_3_75 rfl
theorem k_3_77 : lk 3 77 = some (.lload 14, 79, 14, 0, .null) := by decide +kernel
theorem x_3_77 : Tr sc d 3 (77, [l0, l1, l2, l3, l4, l5, l6, l7, l8, l9, l10, l11, l12, l13, some (.long xl), l15, l16, l17], [.long j1, .ref k0], h) Q = Tr sc d 3 (79, [l0, l1, l2, l3, l4, l5, l6, l7, l8, l9, l10, l11, l12, l13, some (.long xl), l15, l16, l17], [.long xl, .long j1, .ref k0], h) Q := t_lload k_3_77 rfl
theorem k_3_79 : lk 3 79 = some (.lmul, 80, 0, 0, .null) := by decide +kernel
theorem x_3_79 : Tr sc d 3 (79, [l0, l1, l2, l3, l4, l5, l6, l7, l8, l9, l10, l11, l12, l13, l14, l15, l16, l17], [.long j2, .long j1, .ref k0], h) Q = Tr sc d 3 (80, [l0, l1, l2, l3, l4, l5, l6, l7, l8, l9, l10, l11, l12, l13, l14, l15, l16, l17], [.long (j1 * j2), .ref k0], h) Q := t_go k_3_79 rfl
theorem k_3_80 : lk 3 80 = some (.lload 6, 82, 6, 0, .null) := by decide +kernel
theorem x_3_80 : Tr sc d 3 (80, [l0, l1, l2, l3, l4, l5, some (.long xl), l7, l8, l9, l10, l11, l12, l13, l14, l15, l16, l17], [.long j1, .ref k0], h) Q = Tr sc d 3 (82, [l0, l1, l2, l3, l4, l5, some (.long xl), l7, l8, l9, l10, l11, l12, l13, l14, l15, l16, l17], [.long xl, .long j1, .ref k0], h) Q := t_lload k_3_80 rfl
theorem k_3_82 : lk 3 82 = some (.aload_n 0, 83, 0, 0, .null) := by decide +kernel
theorem x_3_82 : Tr sc d 3 (82, [some (.ref xk), l1, l2, l3, l4, l5, l6, l7, l8, l9, l10, l11, l12, l13, l14, l15, l16, l17], [.long j2, .long j1, .ref k0], h) Q = Tr sc d 3 (83, [some (.ref xk), l1, l2, l3, l4, l5, l6, l7, l8, l9, l10, l11, l12, l13, l14, l15, l16, l17], [.ref xk, .long j2, .long j1, .ref k0], h) Q := t_aload_n k_3_82 rfl
theorem k_3_83 : lk 3 83 = some (.getfield 32, 86, 0, 3, .long 0) := by decide +kernel
theorem x_3_83 : Tr sc d 3 (83, [l0, l1, l2, l3, l4, l5, l6, l7, l8, l9, l10, l11, l12, l13, l14, l15, l16, l17], [.ref k3, .long j2, .long j1, .ref k0], h) Q = (okp h k3 0 = true ∧ Tr sc d 3 (86, [l0, l1, l2, l3, l4, l5, l6, l7, l8, l9, l10, l11, l12, l13, l14, l15, l16, l17], [.long (hL h k3 3), .long j2, .long j1, .ref k0], h) Q) := t_gd k_3_83 rfl
theorem k_3_86 : lk 3 86 = some (.lmul, 87, 0, 0, .null) := by decide +kernel
theorem x_3_86 : Tr sc d 3 (86, [l0, l1, l2, l3, l4, l5, l6, l7, l8, l9, l10, l11, l12, l13, l14, l15, l16, l17], [.long j3, .long j2, .long j1, .ref k0], h) Q = Tr sc d 3 (87, [l0, l1, l2, l3, l4, l5, l6, l7, l8, l9, l10, l11, l12, l13, l14, l15, l16, l17], [.long (j2 * j3), .long j1, .ref k0], h) Q := t_go k_3_86 rfl
theorem k_3_87 : lk 3 87 = some (.ladd, 88, 0, 0, .null) := by decide +kernel
theorem x_3_87 : Tr sc d 3 (87, [l0, l1, l2, l3, l4, l5, l6, l7, l8, l9, l10, l11, l12, l13, l14, l15, l16, l17], [.long j2, .long j1, .ref k0], h) Q = Tr sc d 3 (88, [l0, l1, l2, l3, l4, l5, l6, l7, l8, l9, l10, l11, l12, l13, l14, l15, l16, l17], [.long (j1 + j2), .ref k0], h) Q := t_go k_3_87 rfl
theorem k_3_88 : lk 3 88 = some (.putfield 26, 91, 0, 1, .long 0) := by decide +kernel
theorem x_3_88 : Tr sc d 3 (88, [l0, l1, l2, l3, l4, l5, l6, l7, l8, l9, l10, l11, l12, l13, l14, l15, l16, l17], [.long j1, .ref k0], h) Q = (okp h k0 0 = true ∧ Tr sc d 3 (91, [l0, l1, l2, l3, l4, l5, l6, l7, l8, l9, l10, l11, l12, l13, l14, l15, l16, l17], [], (sL h k0 1 j1)) Q) := t_gd k_3_88 rfl
theorem k_3_91 : lk 3 91 = some (.aload_n 0, 92, 0, 0, .null) := by decide +kernel
theorem x_3_91 : Tr sc d 3 (91, [some (.ref xk), l1, l2, l3, l4, l5, l6, l7, l8, l9, l10, l11, l12, l13, l14, l15, l16, l17], [], h) Q = Tr sc d 3 (92, [some (.ref xk), l1, l2, l3, l4, l5, l6, l7, l8, l9, l10, l11, l12, l13, l14, l15, l16, l17], [.ref xk], h) Q := t_aload_n k_3_91 rfl
theorem k_3_92 : lk 3 92 = some (.lload 8, 94, 8, 0, .null) := by decide +kernel
theorem x_3_92 : Tr sc d 3 (92, [l0, l1, l2, l3, l4, l5, l6, l7, some (.long xl), l9, l10, l11, l12, l13, l14, l15, l16, l17], [.ref k0], h) Q = Tr sc d 3 (94, [l0, l1, l2, l3, l4, l5, l6, l7, some (.long xl), l9, l10, l11, l12, l13, l14, l15, l16, l17], [.long xl, .ref k0], h) Q := t_lload k_3_92 rfl
theorem k_3_94 : lk 3 94 = some (.lload 12, 96, 12, 0, .null) := by decide +kernel
theorem x_3_94 : Tr sc d 3 (94, [l0, l1, l2, l3, l4, l5, l6, l7, l8, l9, l10, l11, some (.long xl), l13, l14, l15, l16, l17], [.long j1, .ref k0], h) Q = Tr sc d 3 (96, [l0, l1, l2, l3, l4, l5, l6, l7, l8, l9, l10, l11, some (.long xl), l13, l14, l15, l16, l17], [.long xl, .long j1, .ref k0], h) Q := t_lload k_3_94 rfl
theorem k_3_96 : lk 3 96 = some (.lmul, 97, 0, 0, .null) := by decide +kernel
theorem x_3_96 : Tr sc d 3 (96, [l0, l1, l2, l3, l4, l5, l6, l7, l8, l9, l10, l11, l12, l13, l14, l15, l16, l17], [.long j2, .long j1, .ref k0], h) Q = Tr sc d 3 (97, [l0, l1, l2, l3, l4, l5, l6, l7, l8, l9, l10, l11, l12, l13, l14, l15, l16, l17], [.long (j1 * j2), .ref k0], h) Q := t_go k_3_96 rfl
theorem k_3_97 : lk 3 97 = some (.lload 10, 99, 10, 0, .null) := by decide +kernel
theorem x_3_97 : Tr sc d 3 (97, [l0, l1, l2, l3, l4, l5, l6, l7, l8, l9, some (.long xl), l11, l12, l13, l14, l15, l16, l17], [.long j1, .ref k0], h) Q = Tr sc d 3 (99, [l0, l1, l2, l3, l4, l5, l6, l7, l8, l9, some (.long xl), l11, l12, l13, l14, l15, l16, l17], [.long xl, .long j1, .ref k0], h) Q := t_lload k_3_97 rfl
theorem k_3_99 : lk 3 99 = some (.aload_n 0, 100, 0, 0, .null) := by decide +kernel
theorem x_3_99 : Tr sc d 3 (99, [some (.ref xk), l1, l2, l3, l4, l5, l6, l7, l8, l9, l10, l11, l12, l13, l14, l15, l16, l17], [.long j2, .long j1, .ref k0], h) Q = Tr sc d 3 (100, [some (.ref xk), l1, l2, l3, l4, l5, l6, l7, l8, l9, l10, l11, l12, l13, l14, l15, l16, l17], [.ref xk, .long j2, .long j1, .ref k0], h) Q := t_aload_n k_3_99 rfl
theorem k_3_100 : lk 3 100 = some (.getfield 29, 103, 0, 2, .long 0) := by decide +kernel
theorem x_3_100 : Tr sc d 3 (100, [l0, l1, l2, l3, l4, l5, l6, l7, l8, l9, l10, l11, l12, l13, l14, l15, l16, l17], [.ref k3, .long j2, .long j1, .ref k0], h) Q = (okp h k3 0 = true ∧ Tr sc d 3 (103, [l0, l1, l2, l3, l4, l5, l6, l7, l8, l9, l10, l11, l12, l13, l14, l15, l16, l17], [.long (hL h k3 2), .long j2, .long j1, .ref k0], h) Q) := t_gd k_3_100 rfl
theorem k_3_103 : lk 3 103 = some (.lmul, 104, 0, 0, .null) := by decide +kernel
theorem x_3_103 : Tr sc d 3 (103, [l0, l1, l2, l3, l4, l5, l6, l7, l8, l9, l10, l11, l12, l13, l14, l15, l16, l17], [.long j3, .long j2, .long j1, .ref k0], h) Q = Tr sc d 3 (104, [l0, l1, l2, l3, l4, l5, l6, l7, l8, l9, l10, l11, l12, l13, l14, l15, l16, l17], [.long (j2 * j3), .long j1, .ref k0], h) Q := t_go k_3_103 rfl
theorem k_3_104 : lk 3 104 = some (.ladd, 105, 0, 0, .null) := by decide +kernel
theorem x_3_104 : Tr sc d 3 (104, [l0, l1, l2, l3, l4, l5, l6, l7, l8, l9, l10, l11, l12, l13, l14, l15, l16, l17], [.long j2, .long j1, .ref k0], h) Q = Tr sc d 3 (105, [l0, l1, l2, l3, l4, l5, l6, l7, l8, l9, l10, l11, l12, l13, l14, l15, l16, l17], [.long (j1 + j2), .ref k0], h) Q := t_go k_3_104 rfl
theorem k_3_105 : lk 3 105 = some (.putfield 29, 108, 0, 2, .long 0) := by decide +kernel
theorem x_3_105 : Tr sc d 3 (105, [l0, l1, l2, l3, l4, l5, l6, l7, l8, l9, l10, l11, l12, l13, l14, l15, l16, l17], [.long j1, .ref k0], h) Q = (okp h k0 0 = true ∧ Tr sc d 3 (108, [l0, l1, l2, l3, l4, l5, l6, l7, l8, l9, l10, l11, l12, l13, l14, l15, l16, l17], [], (sL h k0 2 j1)) Q) := t_gd k_3_105 rfl
theorem k_3_108 : lk 3 108 = some (.aload_n 0, 109, 0, 0, .null) := by decide +kernel
theorem x_3_108 : Tr sc d 3 (108, [some (.ref xk), l1, l2, l3, l4, l5, l6, l7, l8, l9, l10, l11, l12, l13, l14, l15, l16, l17], [], h) Q = Tr sc d 3 (109, [some (.ref xk), l1, l2, l3, l4, l5, l6, l7, l8, l9, l10, l11, l12, l13, l14, l15, l16, l17], [.ref xk], h) Q := t_aload_n k_3_108 rfl
theorem k_3_109 : lk 3 109 = some (.lload 8, 111, 8, 0, .null) := by decide +kernel
theorem x_3_109 : Tr sc d 3 (109, [l0, l1, l2, l3, l4, l5, l6, l7, some (.long xl), l9, l10, l11, l12, l13, l14, l15, l16, l17], [.ref k0], h) Q = Tr sc d 3 (111, [l0, l1, l2, l3, l4, l5, l6, l7, some (.long xl), l9, l10, l11, l12, l13, l14, l15, l16, l17], [.long xl, .ref k0], h) Q := t_lload k_3_109 rfl
theorem k_3_111 : lk 3 111 = some (.lload 14, 113, 14, 0, .null) := by decide +kernel
theorem x_3_111 : Tr sc d 3 (111, [l0, l1, l2, l3, l4, l5, l6, l7, l8, l9, l10, l11, l12, l13, some (.long xl), l15, l16, l17], [.long j1, .ref k0], h) Q = Tr sc d 3 (113, [l0, l1, l2, l3, l4, l5, l6, l7, l8, l9, l10, l11, l12, l13, some (.long xl), l15, l16, l17], [.long xl, .long j1, .ref k0], h) Q := t_lload k_3_111 rfl
theorem k_3_113 : lk 3 113 = some (.lmul, 114, 0, 0, .null) := by decide +kernel
theorem x_3_113 : Tr sc d 3 (113, [l0, l1, l2, l3, l4, l5, l6, l7, l8, l9, l10, l11, l12, l13, l14, l15, l16, l17], [.long j2, .long j1, .ref k0], h) Q = Tr sc d 3 (114, [l0, l1, l2, l3, l4, l5, l6, l7, l8, l9, l10, l11, l12, l13, l14, l15, l16, l17], [.long (j1 * j2), .ref k0], h) Q := t_go k_3_113 rfl
theorem k_3_114 : lk 3 114 = some (.lload 10, 116, 10, 0, .null) := by decide +kernel
theorem x_3_114 : Tr sc d 3 (114, [l0, l1, l2, l3, l4, l5, l6, l7, l8, l9, some (.long xl), l11, l12, l13, l14, l15, l16, l17], [.long j1, .ref k0], h) Q = Tr sc d 3 (116, [l0, l1, l2, l3, l4, l5, l6, l7, l8, l9, some (.long xl), l11, l12, l13, l14, l15, l16, l17], [.long xl, .long j1, .ref k0], h) Q := t_lload k_3_114 rfl
theorem k_3_116 : lk 3 116 = some (.aload_n 0, 117, 0, 0, .null) := by decide +kernel
theorem x_3_116 : Tr sc d 3 (116, [some (.ref xk), l1, l2, l3, l4, l5, l6, l7, l8, l9, l10, l11, l12, l13, l14, l15, l16, l17], [.long j2, .long j1, .ref k0], h) Q = Tr sc d 3 (117, [some (.ref xk), l1, l2, l3, l4, l5, l6, l7, l8, l9, l10, l11, l12, l13, l14, l15, l16, l17], [.ref xk, .long j2, .long j1, .ref k0], h) Q := t_aload_n k_3_116 rfl
theorem k_3_117 : lk 3 117 = some (.getfield 32, 120, 0, 3, .long 0) := by decide +kernel
theorem x_3_117 : Tr sc d 3 (117, [l0, l1, l2, l3, l4, l5, l6, l7, l8, l9, l10, l11, l12, l13, l14, l15, l16, l17], [.ref k3, .long j2, .long j1, .ref k0], h) Q = (okp h k3 0 = true ∧ Tr sc d 3 (120, [l0, l1, l2, l3, l4, l5, l6, l7, l8, l9, l10, l11, l12, l13, l14, l15, l16, l17], [.long (hL h k3 3), .long j2, .long j1, .ref k0], h) Q) := t_gd k_3_117 rfl
theorem k_3_120 : lk 3 120 = some (.lmul, 121, 0, 0, .null) := by decide +kernel
theorem x_3_120 : Tr sc d 3 (120, [l0, l1, l2, l3, l4, l5, l6, l7, l8, l9, l10, l11, l12, l13, l14, l15, l16, l17], [.long j3, .long j2, .long j1, .ref k0], h) Q = Tr sc d 3 (121, [l0, l1, l2, l3, l4, l5, l6, l7, l8, l9, l10, l11, l12, l13, l14, l15, l16, l17], [.long (j2 * j3), .long j1, .ref k0], h) Q := t_go k_3_120 rfl
theorem k_3_121 : lk 3 121 = some (.ladd, 122, 0, 0, .null) := by decide +kernel
theorem x_3_121 : Tr sc d 3 (121, [l0, l1, l2, l3, l4, l5, l6, l7, l8, l9, l10, l11, l12, l13, l14, l15, l16, l17], [.long j2, .long j1, .ref k0], h) Q = Tr sc d 3 (122, [l0, l1, l2, l3, l4, l5, l6, l7, l8, l9, l10, l11, l12, l13, l14, l15, l16, l17], [.long (j1 + j2), .ref k0], h) Q := t_go k_3_121 rfl
theorem k_3_122 : lk 3 122 = some (.putfield 32, 125, 0, 3, .long 0) := by decide +kernel
theorem x_3_122 : Tr sc d 3 (122, [l0, l1, l2, l3, l4, l5, l6, l7, l8, l9, l10, l11, l12, l13, l14, l15, l16, l17], [.long j1, .ref k0], h) Q = (okp h k0 0 = true ∧ Tr sc d 3 (125, [l0, l1, l2, l3, l4, l5, l6, l7, l8, l9, l10, l11, l12, l13, l14, l15, l16, l17], [], (sL h k0 3 j1)) Q) := t_gd k_3_122 rfl
theorem k_3_125 : lk 3 125 = some (.aload_n 0, 126, 0, 0, .null) := by decide +kernel
theorem x_3_125 : Tr sc d 3 (125, [some (.ref xk), l1, l2, l3, l4, l5, l6, l7, l8, l9, l10, l11, l12, l13, l14, l15, l16, l17], [], h) Q = Tr sc d 3 (126, [some (.ref xk), l1, l2, l3, l4, l5, l6, l7, l8, l9, l10, l11, l12, l13, l14, l15, l16, l17], [.ref xk], h) Q := t_aload_n k_3_125 rfl
theorem k_3_126 : lk 3 126 = some (.lload 4, 128, 4, 0, .null) := by decide +kernel
theorem x_3_126 : Tr sc d 3 (126, [l0, l1, l2, l3, some (.long xl), l5, l6, l7, l8, l9, l10, l11, l12, l13, l14, l15, l16, l17], [.ref k0], h) Q = Tr sc d 3 (128, [l0, l1, l2, l3, some (.long xl), l5, l6, l7, l8, l9, l10, l11, l12, l13, l14, l15, l16, l17], [.long xl, .ref k0], h) Q := t_lload k_3_126 rfl
theorem k_3_128 : lk 3 128 = some (.lload 16, 130, 16, 0, .null) := by decide +kernel
theorem x_3_128 : Tr sc d 3 (128, [l0, l1, l2, l3, l4, l5, l6, l7, l8, l9, l10, l11, l12, l13, l14, l15, some (.long xl), l17], [.long j1, .ref k0], h) Q = Tr sc d 3 (130, [l0, l1, l2, l3, l4, l5, l6, l7, l8, l9, l10, l11, l12, l13, l14, l15, some (.long xl), l17], [.long xl, .long j1, .ref k0], h) Q := t_lload k_3_128 rfl
theorem k_3_130 : lk 3 130 = some (.lmul, 131, 0, 0, .null) := by decide +kernel
theorem x_3_130 : Tr sc d 3 (130, [l0, l1, l2, l3, l4, l5, l6, l7, l8, l9, l10, l11, l12, l13, l14, l15, l16, l17], [.long j2, .long j1, .ref k0], h) Q = Tr sc d 3 (131, [l0, l1, l2, l3, l4, l5, l6, l7, l8, l9, l10, l11, l12, l13, l14, l15, l16, l17], [.long (j1 * j2), .ref k0], h) Q := t_go k_3_130 rfl
theorem k_3_131 : lk 3 131 = some (.lload 6, 133, 6, 0, .null) := by decide +kernel
theorem x_3_131 : Tr sc d 3 (131, [l0, l1, l2, l3, l4, l5, some (.long xl), l7, l8, l9, l10, l11, l12, l13, l14, l15, l16, l17], [.long j1, .ref k0], h) Q = Tr sc d 3 (133, [l0, l1, l2, l3, l4, l5, some (.long xl), l7, l8, l9, l10, l11, l12, l13, l14, l15, l16, l17], [.long xl, .long j1, .ref k0], h) Q := t_lload k_3_131 rfl
theorem k_3_133 : lk 3 133 = some (.aload_n 0, 134, 0, 0, .null) := by decide +kernel
theorem x_3_133 : Tr sc d 3 (133, [some (.ref xk), l1, l2, l3, l4, l5, l6, l7, l8, l9, l10, l11, l12, l13, l14, l15, l16, l17], [.long j2, .long j1, .ref k0], h) Q = Tr sc d 3 (134, [some (.ref xk), l1, l2, l3, l4, l5, l6, l7, l8, l9, l10, l11, l12, l13, l14, l15, l16, l17], [.ref xk, .long j2, .long j1, .ref k0], h) Q := t_aload_n k_3_133 rfl
theorem k_3_134 : lk 3 134 = some (.getfield 38, 137, 0, 5, .long 0) := by decide +kernel
theorem x_3_134 : Tr sc d 3 (134, [l0, l1, l2, l3, l4, l5, l6, l7, l8, l9, l10, l11, l12, l13, l14, l15, l16, l17], [.ref k3, .long j2, .long j1, .ref k0], h) Q = (okp h k3 0 = true ∧ Tr sc d 3 (137, [l0, l1, l2, l3, l4, l5, l6, l7, l8, l9, l10, l11, l12, l13, l14, l15, l16, l17], [.long (hL h k3 5), .long j2, .long j1, .ref k0], h) Q) := t_gd k_3_134 rfl
theorem k_3_137 : lk 3 137 = some (.lmul, 138, 0, 0, .null) := by decide +kernel
theorem x_3_137 : Tr sc d 3 (137, [l0, l1, l2, l3, l4, l5, l6, l7, l8, l9, l10, l11, l12, l13, l14, l15, l16, l17], [.long j3, .long j2, .long j1, .ref k0], h) Q = Tr sc d 3 (138, [l0, l1, l2, l3, l4, l5, l6, l7, l8, l9, l10, l11, l12, l13, l14, l15, l16, l17], [.long (j2 * j3), .long j1, .ref k0], h) Q := t_go k_3_137 rfl
theorem k_3_138 : lk 3 138 = some (.ladd, 139, 0, 0, .null) := by decide +kernel
theorem x_3_138 : Tr sc d 3 (138, [l0, l1, l2, l3, l4, l5, l6, l7, l8, l9, l10, l11, l12, l13, l14, l15, l16, l17], [.long j2, .long j1, .ref k0], h) Q = Tr sc d 3 (139, [l0, l1, l2, l3, l4, l5, l6, l7, l8, l9, l10, l11, l12, l13, l14, l15, l16, l17], [.long (j1 + j2), .ref k0], h) Q := t_go k_3_138 rfl
theorem k_3_139 : lk 3 139 = some (.aload_n 0, 140, 0, 0, .null) := by decide +kernel
theorem x_3_139 : Tr sc d 3 (139, [some (.ref xk), l1, l2, l3, l4, l5, l6, l7, l8, l9, l10, l11, l12, l13, l14, l15, l16, l17], [.long j1, .ref k0], h) Q = Tr sc d 3 (140, [some (.ref xk), l1, l2, l3, l4, l5, l6, l7, l8, l9, l10, l11, l12, l13, l14, l15, l16, l17], [.ref xk, .long j1, .ref k0], h) Q := t_aload_n k_3_139 rfl
theorem k_3_140 : lk 3 140 = some (.getfield 41, 143, 0, 6, .long 0) := by decide +kernel
theorem x_3_140 : Tr sc d 3 (140, [l0, l1, l2, l3, l4, l5, l6, l7, l8, l9, l10, l11, l12, l13, l14, l15, l16, l17], [.ref k2, .long j1, .ref k0], h) Q = (okp h k2 0 = true ∧ Tr sc d 3 (143, [l0, l1, l2, l3, l4, l5, l6, l7, l8, l9, l10, l11, l12, l13, l14, l15, l16, l17], [.long (hL h k2 6), .long j1, .ref k0], h) Q) := t_gd k_3_140 rfl
theorem k_3_143 : lk 3 143 = some (.aload_n 1, 144, 1, 0, .null) := by decide +kernel
theorem x_3_143 : Tr sc d 3 (143, [l0, some (.ref xk), l2, l3, l4, l5, l6, l7, l8, l9, l10, l11, l12, l13, l14, l15, l16, l17], [.long j2, .long j1, .ref k0], h) Q = Tr sc d 3 (144, [l0, some (.ref xk), l2, l3, l4, l5, l6, l7, l8, l9, l10, l11, l12, l13, l14, l15, l16, l17], [.ref xk, .long j2, .long j1, .ref k0], h) Q := t_aload_n k_3_143 rfl
theorem k_3_144 : lk 3 144 = some (.getfield 63, 147, 6, 1, .null) := by decide +kernel
theorem x_3_144 : Tr sc d 3 (144, [l0, l1, l2, l3, l4, l5, l6, l7, l8, l9, l10, l11, l12, l13, l14, l15, l16, l17], [.ref k3, .long j2, .long j1, .ref k0], h) Q = (okp h k3 6 = true ∧ ∃ q, hR h k3 1 = some q ∧ Tr sc d 3 (147, [l0, l1, l2, l3, l4, l5, l6, l7, l8, l9, l10, l11, l12, l13, l14, l15, l16, l17], [.ref q, .long j2, .long j1, .ref k0], h) Q) := t_getr k_3_144
theorem k_3_147 : lk 3 147 = some (.iload_n 2, 148, 2, 0, .null) := by decide +kernel
theorem x_3_147 : Tr sc d 3 (147, [l0, l1, some (.int x), l3, l4, l5, l6, l7, l8, l9, l10, l11, l12, l13, l14, l15, l16, l17], [.ref k3, .long j2, .long j1, .ref k0], h) Q = Tr sc d 3 (148, [l0, l1, some (.int x), l3, l4, l5, l6, l7, l8, l9, l10, l11, l12, l13, l14, l15, l16, l17], [.int x, .ref k3, .long j2, .long j1, .ref k0], h) Q := t_iload_n k_3_147 rfl
theorem k_3_148 : lk 3 148 = some (.iaload, 149, 0, 0, .null) := by decide +kernel
theorem x_3_148 : Tr sc d 3 (148, [l0, l1, l2, l3, l4, l5, l6, l7, l8, l9, l10, l11, l12, l13, l14, l15, l16, l17], [.int i4, .ref k3, .long j2, .long j1, .ref k0], h) Q = (iOk sc h k3 i4 ∧ Tr sc d 3 (149, [l0, l1, l2, l3, l4, l5, l6, l7, l8, l9, l10, l11, l12, l13, l14, l15, l16, l17], [.int (iRd sc h k3 i4), .long j2, .long j1, .ref k0], h) Q) := t_iald k_3_148
theorem k_3_149 : lk 3 149 = some (.i2l, 150, 0, 0, .null) := by decide +kernel
theorem x_3_149 : Tr sc d 3 (149, [l0, l1, l2, l3, l4, l5, l6, l7, l8, l9, l10, l11, l12, l13, l14, l15, l16, l17], [.int i3, .long j2, .long j1, .ref k0], h) Q = Tr sc d 3 (150, [l0, l1, l2, l3, l4, l5, l6, l7, l8, l9, l10, l11, l12, l13, l14, l15, l16, l17], [.long i3.toInt64, .long j2, .long j1, .ref k0], h) Q := t_go k_3_149 rfl
theorem k_3_150 : lk 3 150 = some (.lmul, 151, 0, 0, .null) := by decide +kernel
theorem x_3_150 : Tr sc d 3 (150, [l0, l1, l2, l3, l4, l5, l6, l7, l8, l9, l10, l11, l12, l13, l14, l15, l16, l17], [.long j3, .long j2, .long j1, .ref k0], h) Q = Tr sc d 3 (151, [l0, l1, l2, l3, l4, l5, l6, l7, l8, l9, l10, l11, l12, l13, l14, l15, l16, l17], [.long (j2 * j3), .long j1, .ref k0], h) Q := t_go k_3_150 rfl
theorem k_3_151 : lk 3 151 = some (.ladd, 152, 0, 0, .null) := by decide +kernel
theorem x_3_151 : Tr sc d 3 (151, [l0, l1, l2, l3, l4, l5, l6, l7, l8, l9, l10, l11, l12, l13, l14, l15, l16, l17], [.long j2, .long j1, .ref k0], h) Q = Tr sc d 3 (152, [l0, l1, l2, l3, l4, l5, l6, l7, l8, l9, l10, l11, l12, l13, l14, l15, l16, l17], [.long (j1 + j2), .ref k0], h) Q := t_go k_3_151 rfl
theorem k_3_152 : lk 3 152 = some (.putfield 35, 155, 0, 4, .long 0) := by decide +kernel
theorem x_3_152 : Tr sc d 3 (152, [l0, l1, l2, l3, l4, l5, l6, l7, l8, l9, l10, l11, l12, l13, l14, l15, l16, l17], [.long j1, .ref k0], h) Q = (okp h k0 0 = true ∧ Tr sc d 3 (155, [l0, l1, l2, l3, l4, l5, l6, l7, l8, l9, l10, l11, l12, l13, l14, l15, l16, l17], [], (sL h k0 4 j1)) Q) := t_gd k_3_152 rfl
theorem k_3_155 : lk 3 155 = some (.aload_n 0, 156, 0, 0, .null) := by decide +kernel
theorem x_3_155 : Tr sc d 3 (155, [some (.ref xk), l1, l2, l3, l4, l5, l6, l7, l8, l9, l10, l11, l12, l13, l14, l15, l16, l17], [], h) Q = Tr sc d 3 (156, [some (.ref xk), l1, l2, l3, l4, l5, l6, l7, l8, l9, l10, l11, l12, l13, l14, l15, l16, l17], [.ref xk], h) Q := t_aload_n k_3_155 rfl
theorem k_3_156 : lk 3 156 = some (.lload 8, 158, 8, 0, .null) := by decide +kernel
theorem x_3_156 : Tr sc d 3 (156, [l0, l1, l2, l3, l4, l5, l6, l7, some (.long xl), l9, l10, l11, l12, l13, l14, l15, l16, l17], [.ref k0], h) Q = Tr sc d 3 (158, [l0, l1, l2, l3, l4, l5, l6, l7, some (.long xl), l9, l10, l11, l12, l13, l14, l15, l16, l17], [.long xl, .ref k0], h) Q := t_lload k_3_156 rfl
theorem k_3_158 : lk 3 158 = some (.lload 16, 160, 16, 0, .null) := by decide +kernel
theorem x_3_158 : Tr sc d 3 (158, [l0, l1, l2, l3, l4, l5, l6, l7, l8, l9, l10, l11, l12, l13, l14, l15, some (.long xl), l17], [.long j1, .ref k0], h) Q = Tr sc d 3 (160, [l0, l1, l2, l3, l4, l5, l6, l7, l8, l9, l10, l11, l12, l13, l14, l15, some (.long xl), l17], [.long xl, .long j1, .ref k0], h) Q := t_lload k_3_158 rfl
theorem k_3_160 : lk 3 160 = some (.lmul, 161, 0, 0, .null) := by decide +kernel
theorem x_3_160 : Tr sc d 3 (160, [l0, l1, l2, l3, l4, l5, l6, l7, l8, l9, l10, l11, l12, l13, l14, l15, l16, l17], [.long j2, .long j1, .ref k0], h) Q = Tr sc d 3 (161, [l0, l1, l2, l3, l4, l5, l6, l7, l8, l9, l10, l11, l12, l13, l14, l15, l16, l17], [.long (j1 * j2), .ref k0], h) Q := t_go k_3_160 rfl
theorem k_3_161 : lk 3 161 = some (.lload 10, 163, 10, 0, .null) := by decide +kernel
theorem x_3_161 : Tr sc d 3 (161, [l0, l1, l2, l3, l4, l5, l6, l7, l8, l9, some (.long xl), l11, l12, l13, l14, l15, l16, l17], [.long j1, .ref k0], h) Q = Tr sc d 3 (163, [l0, l1, l2, l3, l4, l5, l6, l7, l8, l9, some (.long xl), l11, l12, l13, l14, l15, l16, l17], [.long xl, .long j1, .ref k0], h) Q := t_lload k_3_161 rfl
theorem k_3_163 : lk 3 163 = some (.aload_n 0, 164, 0, 0, .null) := by decide +kernel
theorem x_3_163 : Tr sc d 3 (163, [some (.ref xk), l1, l2, l3, l4, l5, l6, l7, l8, l9, l10, l11, l12, l13, l14, l15, l16, l17], [.long j2, .long j1, .ref k0], h) Q = Tr sc d 3 (164, [some (.ref xk), l1, l2, l3, l4, l5, l6, l7, l8, l9, l10, l11, l12, l13, l14, l15, l16, l17], [.ref xk, .long j2, .long j1, .ref k0], h) Q := t_aload_n k_3_163 rfl
theorem k_3_164 : lk 3 164 = some (.getfield 38, 167, 0, 5, .long 0) := by decide +kernel
theorem x_3_164 : Tr sc d 3 (164, [l0, l1, l2, l3, l4, l5, l6, l7, l8, l9, l10, l11, l12, l13, l14, l15, l16, l17], [.ref k3, .long j2, .long j1, .ref k0], h) Q = (okp h k3 0 = true ∧ Tr sc d 3 (167, [l0, l1, l2, l3, l4, l5, l6, l7, l8, l9, l10, l11, l12, l13, l14, l15, l16, l17], [.long (hL h k3 5), .long j2, .long j1, .ref k0], h) Q) := t_gd k_3_164 rfl
theorem k_3_167 : lk 3 167 = some (.lmul, 168, 0, 0, .null) := by decide +kernel
theorem x_3_167 : Tr sc d 3 (167, [l0, l1, l2, l3, l4, l5, l6, l7, l8, l9, l10, l11, l12, l13, l14, l15, l16, l17], [.long j3, .long j2, .long j1, .ref k0], h) Q = Tr sc d 3 (168, [l0, l1, l2, l3, l4, l5, l6, l7, l8, l9, l10, l11, l12, l13, l14, l15, l16, l17], [.long (j2 * j3), .long j1, .ref k0], h) Q := t_go k_3_167 rfl
theorem k_3_168 : lk 3 168 = some (.ladd, 169, 0, 0, .null) := by decide +kernel
theorem x_3_168 : Tr sc d 3 (168, [l0, l1, l2, l3, l4, l5, l6, l7, l8, l9, l10, l11, l12, l13, l14, l15, l16, l17], [.long j2, .long j1, .ref k0], h) Q = Tr sc d 3 (169, [l0, l1, l2, l3, l4, l5, l6, l7, l8, l9, l10, l11, l12, l13, l14, l15, l16, l17], [.long (j1 + j2), .ref k0], h) Q := t_go k_3_168 rfl
theorem k_3_169 : lk 3 169 = some (.aload_n 0, 170, 0, 0, .null) := by decide +kernel
theorem x_3_169 : Tr sc d 3 (169, [some (.ref xk), l1, l2, l3, l4, l5, l6, l7, l8, l9, l10, l11, l12, l13, l14, l15, l16, l17], [.long j1, .ref k0], h) Q = Tr sc d 3 (170, [some (.ref xk), l1, l2, l3, l4, l5, l6, l7, l8, l9, l10, l11, l12, l13, l14, l15, l16, l17], [.ref xk, .long j1, .ref k0], h) Q := t_aload_n k_3_169 rfl
theorem k_3_170 : lk 3 170 = some (.getfield 41, 173, 0, 6, .long 0) := by decide +kernel
theorem x_3_170 : Tr sc d 3 (170, [l0, l1, l2, l3, l4, l5, l6, l7, l8, l9, l10, l11, l12, l13, l14, l15, l16, l17], [.ref k2, .long j1, .ref k0], h) Q = (okp h k2 0 = true ∧ Tr sc d 3 (173, [l0, l1, l2, l3, l4, l5, l6, l7, l8, l9, l10, l11, l12, l13, l14, l15, l16, l17], [.long (hL h k2 6), .long j1, .ref k0], h) Q) := t_gd k_3_170 rfl
theorem k_3_173 : lk 3 173 = some (.aload_n 1, 174, 1, 0, .null) := by decide +kernel
theorem x_3_173 : Tr sc d 3 (173, [l0, some (.ref xk), l2, l3, l4, l5, l6, l7, l8, l9, l10, l11, l12, l13, l14, l15, l16, l17], [.long j2, .long j1, .ref k0], h) Q = Tr sc d 3 (174, [l0, some (.ref xk), l2, l3, l4, l5, l6, l7, l8, l9, l10, l11, l12, l13, l14, l15, l16, l17], [.ref xk, .long j2, .long j1, .ref k0], h) Q := t_aload_n k_3_173 rfl
theorem k_3_174 : lk 3 174 = some (.getfield 66, 177, 6, 2, .null) := by decide +kernel
theorem x_3_174 : Tr sc d 3 (174, [l0, l1, l2, l3, l4, l5, l6, l7, l8, l9, l10, l11, l12, l13, l14, l15, l16, l17], [.ref k3, .long j2, .long j1, .ref k0], h) Q = (okp h k3 6 = true ∧ ∃ q, hR h k3 2 = some q ∧ Tr sc d 3 (177, [l0, l1, l2, l3, l4, l5, l6, l7, l8, l9, l10, l11, l12, l13, l14, l15, l16, l17], [.ref q, .long j2, .long j1, .ref k0], h) Q) := t_getr k_3_174
theorem k_3_177 : lk 3 177 = some (.iload_n 2, 178, 2, 0, .null) := by decide +kernel
theorem x_3_177 : Tr sc d 3 (177, [l0, l1, some (.int x), l3, l4, l5, l6, l7, l8, l9, l10, l11, l12, l13, l14, l15, l16, l17], [.ref k3, .long j2, .long j1, .ref k0], h) Q = Tr sc d 3 (178, [l0, l1, some (.int x), l3, l4, l5, l6, l7, l8, l9, l10, l11, l12, l13, l14, l15, l16, l17], [.int x, .ref k3, .long j2, .long j1, .ref k0], h) Q := t_iload_n k_3_177 rfl
theorem k_3_178 : lk 3 178 = some (.iaload, 179, 0, 0, .null) := by decide +kernel
theorem x_3_178 : Tr sc d 3 (178, [l0, l1, l2, l3, l4, l5, l6, l7, l8, l9, l10, l11, l12, l13, l14, l15, l16, l17], [.int i4, .ref k3, .long j2, .long j1, .ref k0], h) Q = (iOk sc h k3 i4 ∧ Tr sc d 3 (179, [l0, l1, l2, l3, l4, l5, l6, l7, l8, l9, l10, l11, l12, l13, l14, l15, l16, l17], [.int (iRd sc h k3 i4), .long j2, .long j1, .ref k0], h) Q) := t_iald k_3_178
theorem k_3_179 : lk 3 179 = some (.i2l, 180, 0, 0, .null) := by decide +kernel
theorem x_3_179 : Tr sc d 3 (179, [l0, l1, l2, l3, l4, l5, l6, l7, l8, l9, l10, l11, l12, l13, l14, l15, l16, l17], [.int i3, .long j2, .long j1, .ref k0], h) Q = Tr sc d 3 (180, [l0, l1, l2, l3, l4, l5, l6, l7, l8, l9, l10, l11, l12, l13, l14, l15, l16, l17], [.long i3.toInt64, .long j2, .long j1, .ref k0], h) Q := t_go k_3_179 rfl
theorem k_3_180 : lk 3 180 = some (.lmul, 181, 0, 0, .null) := by decide +kernel
theorem x_3_180 : Tr sc d 3 (180, [l0, l1, l2, l3, l4, l5, l6, l7, l8, l9, l10, l11, l12, l13, l14, l15, l16, l17], [.long j3, .long j2, .long j1, .ref k0], h) Q = Tr sc d 3 (181, [l0, l1, l2, l3, l4, l5, l6, l7, l8, l9, l10, l11, l12, l13, l14, l15, l16, l17], [.long (j2 * j3), .long j1, .ref k0], h) Q := t_go k_3_180 rfl
theorem k_3_181 : lk 3 181 = some (.ladd, 182, 0, 0, .null) := by decide +kernel
theorem x_3_181 : Tr sc d 3 (181, [l0, l1, l2, l3, l4, l5, l6, l7, l8, l9, l10, l11, l12, l13, l14, l15, l16, l17], [.long j2, .long j1, .ref k0], h) Q = Tr sc d 3 (182, [l0, l1, l2, l3, l4, l5, l6, l7, l8, l9, l10, l11, l12, l13, l14, l15, l16, l17], [.long (j1 + j2), .ref k0], h) Q := t_go k_3_181 rfl
theorem k_3_182 : lk 3 182 = some (.putfield 38, 185, 0, 5, .long 0) := by decide +kernel
theorem x_3_182 : Tr sc d 3 (182, [l0, l1, l2, l3, l4, l5, l6, l7, l8, l9, l10, l11, l12, l13, l14, l15, l16, l17], [.long j1, .ref k0], h) Q = (okp h k0 0 = true ∧ Tr sc d 3 (185, [l0, l1, l2, l3, l4, l5, l6, l7, l8, l9, l10, l11, l12, l13, l14, l15, l16, l17], [], (sL h k0 5 j1)) Q) := t_gd k_3_182 rfl
theorem k_3_185 : lk 3 185 = some (.aload_n 0, 186, 0, 0, .null) := by decide +kernel
theorem x_3_185 : Tr sc d 3 (185, [some (.ref xk), l1, l2, l3, l4, l5, l6, l7, l8, l9, l10, l11, l12, l13, l14, l15, l16, l17], [], h) Q = Tr sc d 3 (186, [some (.ref xk), l1, l2, l3, l4, l5, l6, l7, l8, l9, l10, l11, l12, l13, l14, l15, l16, l17], [.ref xk], h) Q := t_aload_n k_3_185 rfl
theorem k_3_186 : lk 3 186 = some (.dup, 187, 0, 0, .null) := by decide +kernel
theorem x_3_186 : Tr sc d 3 (186, [l0, l1, l2, l3, l4, l5, l6, l7, l8, l9, l10, l11, l12, l13, l14, l15, l16, l17], [.ref k0], h) Q = Tr sc d 3 (187, [l0, l1, l2, l3, l4, l5, l6, l7, l8, l9, l10, l11, l12, l13, l14, l15, l16, l17], [.ref k0, .ref k0], h) Q := t_go k_3_186 rfl
theorem k_3_187 : lk 3 187 = some (.getfield 41, 190, 0, 6, .long 0) := by decide +kernel
theorem x_3_187 : Tr sc d 3 (187, [l0, l1, l2, l3, l4, l5, l6, l7, l8, l9, l10, l11, l12, l13, l14, l15, l16, l17], [.ref k1, .ref k0], h) Q = (okp h k1 0 = true ∧ Tr sc d 3 (190, [l0, l1, l2, l3, l4, l5, l6, l7, l8, l9, l10, l11, l12, l13, l14, l15, l16, l17], [.long (hL h k1 6), .ref k0], h) Q) := t_gd k_3_187 rfl
theorem k_3_190 : lk 3 190 = some (.aload_n 1, 191, 1, 0, .null) := by decide +kernel
theorem x_3_190 : Tr sc d 3 (190, [l0, some (.ref xk), l2, l3, l4, l5, l6, l7, l8, l9, l10, l11, l12, l13, l14, l15, l16, l17], [.long j1, .ref k0], h) Q = Tr sc d 3 (191, [l0, some (.ref xk), l2, l3, l4, l5, l6, l7, l8, l9, l10, l11, l12, l13, l14, l15, l16, l17], [.ref xk, .long j1, .ref k0], h) Q := t_aload_n k_3_190 rfl
theorem k_3_191 : lk 3 191 = some (.getfield 69, 194, 6, 7, .int 0) := by decide +kernel
theorem x_3_191 : Tr sc d 3 (191, [l0, l1, l2, l3, l4, l5, l6, l7, l8, l9, l10, l11, l12, l13, l14, l15, l16, l17], [.ref k2, .long j1, .ref k0], h) Q = (okp h k2 6 = true ∧ Tr sc d 3 (194, [l0, l1, l2, l3, l4, l5, l6, l7, l8, l9, l10, l11, l12, l13, l14, l15, l16, l17], [.int (hI h k2 7), .long j1, .ref k0], h) Q) := t_gd k_3_191 rfl
theorem k_3_194 : lk 3 194 = some (.i2l, 195, 0, 0, .null) := by decide +kernel
theorem x_3_194 : Tr sc d 3 (194, [l0, l1, l2, l3, l4, l5, l6, l7, l8, l9, l10, l11, l12, l13, l14, l15, l16, l17], [.int i2, .long j1, .ref k0], h) Q = Tr sc d 3 (195, [l0, l1, l2, l3, l4, l5, l6, l7, l8, l9, l10, l11, l12, l13, l14, l15, l16, l17], [.long i2.toInt64, .long j1, .ref k0], h) Q := t_go k_3_194 rfl
theorem k_3_195 : lk 3 195 = some (.lmul, 196, 0, 0, .null) := by decide +kernel
theorem x_3_195 : Tr sc d 3 (195, [l0, l1, l2, l3, l4, l5, l6, l7, l8, l9, l10, l11, l12, l13, l14, l15, l16, l17], [.long j2, .long j1, .ref k0], h) Q = Tr sc d 3 (196, [l0, l1, l2, l3, l4, l5, l6, l7, l8, l9, l10, l11, l12, l13, l14, l15, l16, l17], [.long (j1 * j2), .ref k0], h) Q := t_go k_3_195 rfl
theorem k_3_196 : lk 3 196 = some (.putfield 41, 199, 0, 6, .long 0) := by decide +kernel
theorem x_3_196 : Tr sc d 3 (196, [l0, l1, l2, l3, l4, l5, l6, l7, l8, l9, l10, l11, l12, l13, l14, l15, l16, l17], [.long j1, .ref k0], h) Q = (okp h k0 0 = true ∧ Tr sc d 3 (199, [l0, l1, l2, l3, l4, l5, l6, l7, l8, l9, l10, l11, l12, l13, l14, l15, l16, l17], [], (sL h k0 6 j1)) Q) := t_gd k_3_196 rfl
theorem k_3_199 : lk 3 199 = some (.return_, 200, 0, 0, .null) := by decide +kernel
theorem x_3_199 : Tr sc d 3 (199, [l0, l1, l2, l3, l4, l5, l6, l7, l8, l9, l10, l11, l12, l13, l14, l15, l16, l17], [], h) Q = Q (none, h) := t_ret k_3_199 (by rw [r_3]; rfl)
theorem e_3 : Tr sc d 3 (ent0 3 [.ref k0, .ref k1, .int i2] h) Q = Tr sc d 3 (0, [some (.ref k0), some (.ref k1), some (.int i2), none, none, none, none, none, none, none, none, none, none, none, none, none, none, none], [], h) Q := by
  have e : mL 3 = 18 := by decide +kernel
  unfold ent0
  rw [e]
  rfl
theorem r_4 : mR 4 = none := by decide +kernel
theorem k_4_0 : lk 4 0 = some (.aload_n 0, 1, 0, 0, .null) := by decide +kernel
theorem x_4_0 : Tr sc d 4 (0, [some (.ref xk), l1, l2, l3, l4, l5], [], h) Q = Tr sc d 4 (1, [some (.ref xk), l1, l2, l3, l4, l5], [.ref xk], h) Q := t_aload_n k_4_0 rfl
theorem k_4_1 : lk 4 1 = some (.invokevirtual 7, 4, 2, 0, .null) := by decide +kernel
theorem x_4_1 : Tr sc (d + 1) 4 (1, [l0, l1, l2, l3, l4, l5], [.ref k0], h) Q = (okp h k0 0 = true ∧ Tr sc d 2 (ent0 2 [.ref k0] h) (fun z => Tr sc (d + 1) 4 (4, [l0, l1, l2, l3, l4, l5], z.1.toList ++ [], z.2) Q)) := t_cv (as := []) (r := []) k_4_1 rfl rfl (Nat.le_of_ble_eq_true rfl) (Nat.le_of_ble_eq_true rfl) (Nat.le_of_ble_eq_true rfl)
theorem k_4_4 : lk 4 4 = some (.aload_n 0, 5, 0, 0, .null) := by decide +kernel
theorem x_4_4 : Tr sc d 4 (4, [some (.ref xk), l1, l2, l3, l4, l5], [], h) Q = Tr sc d 4 (5, [some (.ref xk), l1, l2, l3, l4, l5], [.ref xk], h) Q := t_aload_n k_4_4 rfl
theorem k_4_5 : lk 4 5 = some (.lconst 0, 6, 0, 0, .long 0) := by decide +kernel
theorem x_4_5 : Tr sc d 4 (5, [l0, l1, l2, l3, l4, l5], [.ref k0], h) Q = Tr sc d 4 (6, [l0, l1, l2, l3, l4, l5], [.long 0, .ref k0], h) Q := t_go k_4_5 rfl
theorem k_4_6 : lk 4 6 = some (.putfield 22, 9, 0, 0, .long 0) := by decide +kernel
theorem x_4_6 : Tr sc d 4 (6, [l0, l1, l2, l3, l4, l5], [.long j1, .ref k0], h) Q = (okp h k0 0 = true ∧ Tr sc d 4 (9, [l0, l1, l2, l3, l4, l5], [], (sL h k0 0 j1)) Q) := t_gd k_4_6 rfl
theorem k_4_9 : lk 4 9 = some (.aload_n 0, 10, 0, 0, .null) := by decide +kernel
theorem x_4_9 : Tr sc d 4 (9, [some (.ref xk), l1, l2, l3, l4, l5], [], h) Q = Tr sc d 4 (10, [some (.ref xk), l1, l2, l3, l4, l5], [.ref xk], h) Q := t_aload_n k_4_9 rfl
theorem k_4_10 : lk 4 10 = some (.lconst 0, 11, 0, 0, .long 0) := by decide +kernel
theorem x_4_10 : Tr sc d 4 (10, [l0, l1, l2, l3, l4, l5], [.ref k0], h) Q = Tr sc d 4 (11, [l0, l1, l2, l3, l4, l5], [.long 0, .ref k0], h) Q := t_go k_4_10 rfl
theorem k_4_11 : lk 4 11 = some (.putfield 32, 14, 0, 3, .long 0) := by decide +kernel
theorem x_4_11 : Tr sc d 4 (11, [l0, l1, l2, l3, l4, l5], [.long j1, .ref k0], h) Q = (okp h k0 0 = true ∧ Tr sc d 4 (14, [l0, l1, l2, l3, l4, l5], [], (sL h k0 3 j1)) Q) := t_gd k_4_11 rfl
theorem k_4_14 : lk 4 14 = some (.iconst 0, 15, 0, 0, .int 0) := by decide +kernel
theorem x_4_14 : Tr sc d 4 (14, [l0, l1, l2, l3, l4, l5], [], h) Q = Tr sc d 4 (15, [l0, l1, l2, l3, l4, l5], [.int 0], h) Q := t_go k_4_14 rfl
theorem k_4_15 : lk 4 15 = some (.istore_n 2, 16, 2, 0, .null) := by decide +kernel
theorem x_4_15 : Tr sc d 4 (15, [l0, l1, l2, l3, l4, l5], [.int i0], h) Q = Tr sc d 4 (16, [l0, cl2 l1, some (.int i0), l3, l4, l5], [], h) Q := t_istore_n k_4_15 (Nat.le_of_ble_eq_true rfl)
theorem k_4_16 : lk 4 16 = some (.iload_n 2, 17, 2, 0, .null) := by decide +kernel
theorem x_4_16 : Tr sc d 4 (16, [l0, l1, some (.int x), l3, l4, l5], [], h) Q = Tr sc d 4 (17, [l0, l1, some (.int x), l3, l4, l5], [.int x], h) Q := t_iload_n k_4_16 rfl
theorem k_4_17 : lk 4 17 = some (.aload_n 1, 18, 1, 0, .null) := by decide +kernel
theorem x_4_17 : Tr sc d 4 (17, [l0, some (.ref xk), l2, l3, l4, l5], [.int i0], h) Q = Tr sc d 4 (18, [l0, some (.ref xk), l2, l3, l4, l5], [.ref xk, .int i0], h) Q := t_aload_n k_4_17 rfl
theorem k_4_18 : lk 4 18 = some (.getfield 73, 21, 6, 8, .int 0) := by decide +kernel
theorem x_4_18 : Tr sc d 4 (18, [l0, l1, l2, l3, l4, l5], [.ref k1, .int i0], h) Q = (okp h k1 6 = true ∧ Tr sc d 4 (21, [l0, l1, l2, l3, l4, l5], [.int (hI h k1 8), .int i0], h) Q) := t_gd k_4_18 rfl
theorem k_4_21 : lk 4 21 = some (.if_icmp .ge 132, 24, 153, 0, .null) := by decide +kernel
theorem x_4_21 : Tr sc d 4 (21, [l0, l1, l2, l3, l4, l5], [.int i1, .int i0], h) Q = if i1 ≤ i0 then Tr sc d 4 (153, [l0, l1, l2, l3, l4, l5], [], h) Q else Tr sc d 4 (24, [l0, l1, l2, l3, l4, l5], [], h) Q := t_if k_4_21 rfl
theorem k_4_24 : lk 4 24 = some (.aload_n 1, 25, 1, 0, .null) := by decide +kernel
theorem x_4_24 : Tr sc d 4 (24, [l0, some (.ref xk), l2, l3, l4, l5], [], h) Q = Tr sc d 4 (25, [l0, some (.ref xk), l2, l3, l4, l5], [.ref xk], h) Q := t_aload_n k_4_24 rfl
theorem k_4_25 : lk 4 25 = some (.iload_n 2, 26, 2, 0, .null) := by decide +kernel
theorem x_4_25 : Tr sc d 4 (25, [l0, l1, some (.int x), l3, l4, l5], [.ref k0], h) Q = Tr sc d 4 (26, [l0, l1, some (.int x), l3, l4, l5], [.int x, .ref k0], h) Q := t_iload_n k_4_25 rfl
theorem k_4_26 : lk 4 26 = some (.invokevirtual 76, 29, 56, 1, .null) := by decide +kernel
theorem x_4_26 : Tr sc (d + 1) 4 (26, [l0, l1, l2, l3, l4, l5], [.int i1, .ref k0], h) Q = (okp h k0 6 = true ∧ Tr sc d 56 (ent0 56 [.ref k0, .int i1] h) (fun z => Tr sc (d + 1) 4 (29, [l0, l1, l2, l3, l4, l5], z.1.toList ++ [], z.2) Q)) := t_cv (as := [.int i1]) (r := []) k_4_26 rfl rfl (Nat.le_of_ble_eq_true rfl) (Nat.le_of_ble_eq_true rfl) (Nat.le_of_ble_eq_true rfl)
theorem k_4_29 : lk 4 29 = some (.i2l, 30, 0, 0, .null) := by decide +kernel
theorem x_4_29 : Tr sc d 4 (29, [l0, l1, l2, l3, l4, l5], [.int i0], h) Q = Tr sc d 4 (30, [l0, l1, l2, l3, l4, l5], [.long i0.toInt64], h) Q := t_go k_4_29 rfl
theorem k_4_30 : lk 4 30 = some (.lstore_n 3, 31, 3, 0, .null) := by decide +kernel
theorem x_4_30 : Tr sc d 4 (30, [l0, l1, l2, l3, l4, l5], [.long j0], h) Q = Tr sc d 4 (31, [l0, l1, cl2 l2, some (.long j0), none, l5], [], h) Q := t_lstore_n k_4_30 (Nat.le_of_ble_eq_true rfl)
theorem k_4_31 : lk 4 31 = some (.aload_n 1, 32, 1, 0, .null) := by decide +kernel
theorem x_4_31 : Tr sc d 4 (31, [l0, some (.ref xk), l2, l3, l4, l5], [], h) Q = Tr sc d 4 (32, [l0, some (.ref xk), l2, l3, l4, l5], [.ref xk], h) Q := t_aload_n k_4_31 rfl
theorem k_4_32 : lk 4 32 = some (.getfield 44, 35, 6, 0, .null) := by decide +kernel
theorem x_4_32 : Tr sc d 4 (32, [l0, l1, l2, l3, l4, l5], [.ref k0], h) Q = (okp h k0 6 = true ∧ ∃ q, hR h k0 0 = some q ∧ Tr sc d 4 (35, [l0, l1, l2, l3, l4, l5], [.ref q], h) Q) := t_getr k_4_32
theorem k_4_35 : lk 4 35 = some (.iload_n 2, 36, 2, 0, .null) := by decide +kernel
theorem x_4_35 : Tr sc d 4 (35, [l0, l1, some (.int x), l3, l4, l5], [.ref k0], h) Q = Tr sc d 4 (36, [l0, l1, some (.int x), l3, l4, l5], [.int x, .ref k0], h) Q := t_iload_n k_4_35 rfl
theorem k_4_36 : lk 4 36 = some (.iaload, 37, 0, 0, .null) := by decide +kernel
theorem x_4_36 : Tr sc d 4 (36, [l0, l1, l2, l3, l4, l5], [.int i1, .ref k0], h) Q = (iOk sc h k0 i1 ∧ Tr sc d 4 (37, [l0, l1, l2, l3, l4, l5], [.int (iRd sc h k0 i1)], h) Q) := t_iald k_4_36
theorem k_4_37 : lk 4 37 = some (.istore 5, 39, 5, 0, .null) := by decide +kernel
theorem x_4_37 : Tr sc d 4 (37, [l0, l1, l2, l3, l4, l5], [.int i0], h) Q = Tr sc d 4 (39, [l0, l1, l2, l3, cl2 l4, some (.int i0)], [], h) Q := t_istore k_4_37 (Nat.le_of_ble_eq_true rfl)
theorem k_4_39 : lk 4 39 = some (.aload_n 0, 40, 0, 0, .null) := by decide +kernel
theorem x_4_39 : Tr sc d 4 (39, [some (.ref xk), l1, l2, l3, l4, l5], [], h) Q = Tr sc d 4 (40, [some (.ref xk), l1, l2, l3, l4, l5], [.ref xk], h) Q := t_aload_n k_4_39 rfl
theorem k_4_40 : lk 4 40 = some (.dup, 41, 0, 0, .null) := by decide +kernel
theorem x_4_40 : Tr sc d 4 (40, [l0, l1, l2, l3, l4, l5], [.ref k0], h) Q = Tr sc d 4 (41, [l0, l1, l2, l3, l4, l5], [.ref k0, .ref k0], h) Q := t_go k_4_40 rfl
theorem k_4_41 : lk 4 41 = some (.getfield 22, 44, 0, 0, .long 0) := by decide +kernel
theorem x_4_41 : Tr sc d 4 (41, [l0, l1, l2, l3, l4, l5], [.ref k1, .ref k0], h) Q = (okp h k1 0 = true ∧ Tr sc d 4 (44, [l0, l1, l2, l3, l4, l5], [.long (hL h k1 0), .ref k0], h) Q) := t_gd k_4_41 rfl
theorem k_4_44 : lk 4 44 = some (.lload_n 3, 45, 3, 0, .null) := by decide +kernel
theorem x_4_44 : Tr sc d 4 (44, [l0, l1, l2, some (.long xl), l4, l5], [.long j1, .ref k0], h) Q = Tr sc d 4 (45, [l0, l1, l2, some (.long xl), l4, l5], [.long xl, .long j1, .ref k0], h) Q := t_lload_n k_4_44 rfl
theorem k_4_45 : lk 4 45 = some (.getstatic 49, 48, 0, 777, .null) := by decide +kernel
theorem x_4_45 : Tr sc d 4 (45, [l0, l1, l2, l3, l4, l5], [.long j2, .long j1, .ref k0], h) Q = Tr sc d 4 (48, [l0, l1, l2, l3, l4, l5], [.ref 1000, .long j2, .long j1, .ref k0], h) Q := t_go k_4_45 rfl
theorem k_4_48 : lk 4 48 = some (.iload 5, 50, 5, 0, .null) := by decide +kernel
theorem x_4_48 : Tr sc d 4 (48, [l0, l1, l2, l3, l4, some (.int x)], [.ref k3, .long j2, .long j1, .ref k0], h) Q = Tr sc d 4 (50, [l0, l1, l2, l3, l4, some (.int x)], [.int x, .ref k3, .long j2, .long j1, .ref k0], h) Q := t_iload k_4_48 rfl
theorem k_4_50 : lk 4 50 = some (.iaload, 51, 0, 0, .null) := by decide +kernel
theorem x_4_50 : Tr sc d 4 (50, [l0, l1, l2, l3, l4, l5], [.int i4, .ref k3, .long j2, .long j1, .ref k0], h) Q = (iOk sc h k3 i4 ∧ Tr sc d 4 (51, [l0, l1, l2, l3, l4, l5], [.int (iRd sc h k3 i4), .long j2, .long j1, .ref k0], h) Q) := t_iald k_4_50
theorem k_4_51 : lk 4 51 = some (.i2l, 52, 0, 0, .null) := by decide +kernel
theorem x_4_51 : Tr sc d 4 (51, [l0, l1, l2, l3, l4, l5], [.int i3, .long j2, .long j1, .ref k0], h) Q = Tr sc d 4 (52, [l0, l1, l2, l3, l4, l5], [.long i3.toInt64, .long j2, .long j1, .ref k0], h) Q := t_go k_4_51 rfl
theorem k_4_52 : lk 4 52 = some (.lmul, 53, 0, 0, .null) := by decide +kernel
theorem x_4_52 : Tr sc d 4 (52, [l0, l1, l2, l3, l4, l5], [.long j3, .long j2, .long j1, .ref k0], h) Q = Tr sc d 4 (53, [l0, l1, l2, l3, l4, l5], [.long (j2 * j3), .long j1, .ref k0], h) Q := t_go k_4_52 rfl
theorem k_4_53 : lk 4 53 = some (.ladd, 54, 0, 0, .null) := by decide +kernel
theorem x_4_53 : Tr sc d 4 (53, [l0, l1, l2, l3, l4, l5], [.long j2, .long j1, .ref k0], h) Q = Tr sc d 4 (54, [l0, l1, l2, l3, l4, l5], [.long (j1 + j2), .ref k0], h) Q := t_go k_4_53 rfl
theorem k_4_54 : lk 4 54 = some (.putfield 22, 57, 0, 0, .long 0) := by decide +kernel
theorem x_4_54 : Tr sc d 4 (54, [l0, l1, l2, l3, l4, l5], [.long j1, .ref k0], h) Q = (okp h k0 0 = true ∧ Tr sc d 4 (57, [l0, l1, l2, l3, l4, l5], [], (sL h k0 0 j1)) Q) := t_gd k_4_54 rfl
theorem k_4_57 : lk 4 57 = some (.aload_n 0, 58, 0, 0, .null) := by decide +kernel
theorem x_4_57 : Tr sc d 4 (57, [some (.ref xk), l1, l2, l3, l4, l5], [], h) Q = Tr sc d 4 (58, [some (.ref xk), l1, l2, l3, l4, l5], [.ref xk], h) Q := t_aload_n k_4_57 rfl
theorem k_4_58 : lk 4 58 = some (.dup, 59, 0, 0, .null) := by decide +kernel
theorem x_4_58 : Tr sc d 4 (58, [l0, l1, l2, l3, l4, l5], [.ref k0], h) Q = Tr sc d 4 (59, [l0, l1, l2, l3, l4, l5], [.ref k0, .ref k0], h) Q := t_go k_4_58 rfl
theorem k_4_59 : lk 4 59 = some (.getfield 26, 62, 0, 1, .long 0) := by decide +kernel
theorem x_4_59 : Tr sc d 4 (59, [l0, l1, l2, l3, l4, l5], [.ref k1, .ref k0], h) Q = (okp h k1 0 = true ∧ Tr sc d 4 (62, [l0, l1, l2, l3, l4, l5], [.long (hL h k1 1), .ref k0], h) Q) := t_gd k_4_59 rfl
theorem k_4_62 : lk 4 62 = some (.lload_n 3, 63, 3, 0, .null) := by decide +kernel
theorem x_4_62 : Tr sc d 4 (62, [l0, l1, l2, some (.long xl), l4, l5], [.long j1, .ref k0], h) Q = Tr sc d 4 (63, [l0, l1, l2, some (.long xl), l4, l5], [.long xl, .long j1, .ref k0], h) Q := t_lload_n k_4_62 rfl
theorem k_4_63 : lk 4 63 = some (.getstatic 54, 66, 1, 779, .null) := by decide +kernel
theorem x_4_63 : Tr sc d 4 (63, [l0, l1, l2, l3, l4, l5], [.long j2, .long j1, .ref k0], h) Q = Tr sc d 4 (66, [l0, l1, l2, l3, l4, l5], [.ref 1001, .long j2, .long j1, .ref k0], h) Q := t_go k_4_63 rfl
theorem k_4_66 : lk 4 66 = some (.iload 5, 68, 5, 0, .null) := by decide +kernel
theorem x_4_66 : Tr sc d 4 (66, [l0, l1, l2, l3, l4, some (.int x)], [.ref k3, .long j2, .long j1, .ref k0], h) Q = Tr sc d 4 (68, [l0, l1, l2, l3, l4, some (.int x)], [.int x, .ref k3, .long j2, .long j1, .ref k0], h) Q := t_iload k_4_66 rfl
theorem k_4_68 : lk 4 68 = some (.iaload, 69, 0, 0, .null) := by decide +kernel
theorem x_4_68 : Tr sc d 4 (68, [l0, l1, l2, l3, l4, l5], [.int i4, .ref k3, .long j2, .long j1, .ref k0], h) Q = (iOk sc h k3 i4 ∧ Tr sc d 4 (69, [l0, l1, l2, l3, l4, l5], [.int (iRd sc h k3 i4), .long j2, .long j1, .ref k0], h) Q) := t_iald k_4_68
theorem k_4_69 : lk 4 69 = some (.i2l, 70, 0, 0, .null) := by decide +kernel
theorem x_4_69 : Tr sc d 4 (69, [l0, l1, l2, l3, l4, l5], [.int i3, .long j2, .long j1, .ref k0], h) Q = Tr sc d 4 (70, [l0, l1, l2, l3, l4, l5], [.long i3.toInt64, .long j2, .long j1, .ref k0], h) Q := t_go k_4_69 rfl
theorem k_4_70 : lk 4 70 = some (.lmul, 71, 0, 0, .null) := by decide +kernel
theorem x_4_70 : Tr sc d 4 (70, [l0, l1, l2, l3, l4, l5], [.long j3, .long j2, .long j1, .ref k0], h) Q = Tr sc d 4 (71, [l0, l1, l2, l3, l4, l5], [.long (j2 * j3), .long j1, .ref k0], h) Q := t_go k_4_70 rfl
theorem k_4_71 : lk 4 71 = some (.ladd, 72, 0, 0, .null) := by decide +kernel
theorem x_4_71 : Tr sc d 4 (71, [l0, l1, l2, l3, l4, l5], [.long j2, .long j1, .ref k0], h) Q = Tr sc d 4 (72, [l0, l1, l2, l3, l4, l5], [.long (j1 + j2), .ref k0], h) Q := t_go k_4_71 rfl
theorem k_4_72 : lk 4 72 = some (.putfield 26, 75, 0, 1, .long 0) := by decide +kernel
theorem x_4_72 : Tr sc d 4 (72, [l0, l1, l2, l3, l4, l5], [.long j1, .ref k0], h) Q = (okp h k0 0 = true ∧ Tr sc d 4 (75, [l0, l1, l2, l3, l4, l5], [], (sL h k0 1 j1)) Q) := t_gd k_4_72 rfl
theorem k_4_75 : lk 4 75 = some (.aload_n 0, 76, 0, 0, .null) := by decide +kernel
theorem x_4_75 : Tr sc d 4 (75, [some (.ref xk), l1, l2, l3, l4, l5], [], h) Q = Tr sc d 4 (76, [some (.ref xk), l1, l2, l3, l4, l5], [.ref xk], h) Q := t_aload_n k_4_75 rfl
theorem k_4_76 : lk 4 76 = some (.dup, 77, 0, 0, .null) := by decide +kernel
theorem x_4_76 : Tr sc d 4 (76, [l0, l1, l2, l3, l4, l5], [.ref k0], h) Q = Tr sc d 4 (77, [l0, l1, l2, l3, l4, l5], [.ref k0, .ref k0], h) Q := t_go k_4_76 rfl
theorem k_4_77 : lk 4 77 = some (.getfield 29, 80, 0, 2, .long 0) := by decide +kernel
theorem x_4_77 : Tr sc d 4 (77, [l0, l1, l2, l3, l4, l5], [.ref k1, .ref k0], h) Q = (okp h k1 0 = true ∧ Tr sc d 4 (80, [l0, l1, l2, l3, l4, l5], [.long (hL h k1 2), .ref k0], h) Q) := t_gd k_4_77 rfl
theorem k_4_80 : lk 4 80 = some (.lload_n 3, 81, 3, 0, .null) := by decide +kernel
theorem x_4_80 : Tr sc d 4 (80, [l0, l1, l2, some (.long xl), l4, l5], [.long j1, .ref k0], h) Q = Tr sc d 4 (81, [l0, l1, l2, some (.long xl), l4, l5], [.long xl, .long j1, .ref k0], h) Q := t_lload_n k_4_80 rfl
theorem k_4_81 : lk 4 81 = some (.getstatic 57, 84, 2, 781, .null) := by decide +kernel
theorem x_4_81 : Tr sc d 4 (81, [l0, l1, l2, l3, l4, l5], [.long j2, .long j1, .ref k0], h) Q = Tr sc d 4 (84, [l0, l1, l2, l3, l4, l5], [.ref 1002, .long j2, .long j1, .ref k0], h) Q := t_go k_4_81 rfl
theorem k_4_84 : lk 4 84 = some (.iload 5, 86, 5, 0, .null) := by decide +kernel
theorem x_4_84 : Tr sc d 4 (84, [l0, l1, l2, l3, l4, some (.int x)], [.ref k3, .long j2, .long j1, .ref k0], h) Q = Tr sc d 4 (86, [l0, l1, l2, l3, l4, some (.int x)], [.int x, .ref k3, .long j2, .long j1, .ref k0], h) Q := t_iload k_4_84 rfl
theorem k_4_86 : lk 4 86 = some (.iaload, 87, 0, 0, .null) := by decide +kernel
theorem x_4_86 : Tr sc d 4 (86, [l0, l1, l2, l3, l4, l5], [.int i4, .ref k3, .long j2, .long j1, .ref k0], h) Q = (iOk sc h k3 i4 ∧ Tr sc d 4 (87, [l0, l1, l2, l3, l4, l5], [.int (iRd sc h k3 i4), .long j2, .long j1, .ref k0], h) Q) := t_iald k_4_86
theorem k_4_87 : lk 4 87 = some (.i2l, 88, 0, 0, .null) := by decide +kernel
theorem x_4_87 : Tr sc d 4 (87, [l0, l1, l2, l3, l4, l5], [.int i3, .long j2, .long j1, .ref k0], h) Q = Tr sc d 4 (88, [l0, l1, l2, l3, l4, l5], [.long i3.toInt64, .long j2, .long j1, .ref k0], h) Q := t_go k_4_87 rfl
theorem k_4_88 : lk 4 88 = some (.lmul, 89, 0, 0, .null) := by decide +kernel
theorem x_4_88 : Tr sc d 4 (88, [l0, l1, l2, l3, l4, l5], [.long j3, .long j2, .long j1, .ref k0], h) Q = Tr sc d 4 (89, [l0, l1, l2, l3, l4, l5], [.long (j2 * j3), .long j1, .ref k0], h) Q := t_go k_4_88 rfl
theorem k_4_89 : lk 4 89 = some (.ladd, 90, 0, 0, .null) := by decide +kernel
theorem x_4_89 : Tr sc d 4 (89, [l0, l1, l2, l3, l4, l5], [.long j2, .long j1, .ref k0], h) Q = Tr sc d 4 (90, [l0, l1, l2, l3, l4, l5], [.long (j1 + j2), .ref k0], h) Q := t_go k_4_89 rfl
theorem k_4_90 : lk 4 90 = some (.putfield 29, 93, 0, 2, .long 0) := by decide +kernel
theorem x_4_90 : Tr sc d 4 (90, [l0, l1, l2, l3, l4, l5], [.long j1, .ref k0], h) Q = (okp h k0 0 = true ∧ Tr sc d 4 (93, [l0, l1, l2, l3, l4, l5], [], (sL h k0 2 j1)) Q) := t_gd k_4_90 rfl
theorem k_4_93 : lk 4 93 = some (.aload_n 0, 94, 0, 0, .null) := by decide +kernel
theorem x_4_93 : Tr sc d 4 (93, [some (.ref xk), l1, l2, l3, l4, l5], [], h) Q = Tr sc d 4 (94, [some (.ref xk), l1, l2, l3, l4, l5], [.ref xk], h) Q := t_aload_n k_4_93 rfl
theorem k_4_94 : lk 4 94 = some (.dup, 95, 0, 0, .null) := by decide +kernel
theorem x_4_94 : Tr sc d 4 (94, [l0, l1, l2, l3, l4, l5], [.ref k0], h) Q = Tr sc d 4 (95, [l0, l1, l2, l3, l4, l5], [.ref k0, .ref k0], h) Q := t_go k_4_94 rfl
theorem k_4_95 : lk 4 95 = some (.getfield 32, 98, 0, 3, .long 0) := by decide +kernel
theorem x_4_95 : Tr sc d 4 (95, [l0, l1, l2, l3, l4, l5], [.ref k1, .ref k0], h) Q = (okp h k1 0 = true ∧ Tr sc d 4 (98, [l0, l1, l2, l3, l4, l5], [.long (hL h k1 3), .ref k0], h) Q) := t_gd k_4_95 rfl
theorem k_4_98 : lk 4 98 = some (.lload_n 3, 99, 3, 0, .null) := by decide +kernel
theorem x_4_98 : Tr sc d 4 (98, [l0, l1, l2, some (.long xl), l4, l5], [.long j1, .ref k0], h) Q = Tr sc d 4 (99, [l0, l1, l2, some (.long xl), l4, l5], [.long xl, .long j1, .ref k0], h) Q := t_lload_n k_4_98 rfl
theorem k_4_99 : lk 4 99 = some (.getstatic 60, 102, 3, 783, .null) := by decide +kernel
theorem x_4_99 : Tr sc d 4 (99, [l0, l1, l2, l3, l4, l5], [.long j2, .long j1, .ref k0], h) Q = Tr sc d 4 (102, [l0, l1, l2, l3, l4, l5], [.ref 1003, .long j2, .long j1, .ref k0], h) Q := t_go k_4_99 rfl
theorem k_4_102 : lk 4 102 = some (.iload 5, 104, 5, 0, .null) := by decide +kernel
theorem x_4_102 : Tr sc d 4 (102, [l0, l1, l2, l3, l4, some (.int x)], [.ref k3, .long j2, .long j1, .ref k0], h) Q = Tr sc d 4 (104, [l0, l1, l2, l3, l4, some (.int x)], [.int x, .ref k3, .long j2, .long j1, .ref k0], h) Q := t_iload k_4_102 rfl
theorem k_4_104 : lk 4 104 = some (.iaload, 105, 0, 0, .null) := by decide +kernel
theorem x_4_104 : Tr sc d 4 (104, [l0, l1, l2, l3, l4, l5], [.int i4, .ref k3, .long j2, .long j1, .ref k0], h) Q = (iOk sc h k3 i4 ∧ Tr sc d 4 (105, [l0, l1, l2, l3, l4, l5], [.int (iRd sc h k3 i4), .long j2, .long j1, .ref k0], h) Q) := t_iald k_4_104
theorem k_4_105 : lk 4 105 = some (.i2l, 106, 0, 0, .null) := by decide +kernel
theorem x_4_105 : Tr sc d 4 (105, [l0, l1, l2, l3, l4, l5], [.int i3, .long j2, .long j1, .ref k0], h) Q = Tr sc d 4 (106, [l0, l1, l2, l3, l4, l5], [.long i3.toInt64, .long j2, .long j1, .ref k0], h) Q := t_go k_4_105 rfl
theorem k_4_106 : lk 4 106 = some (.lmul, 107, 0, 0, .null) := by decide +kernel
theorem x_4_106 : Tr sc d 4 (106, [l0, l1, l2, l3, l4, l5], [.long j3, .long j2, .long j1, .ref k0], h) Q = Tr sc d 4 (107, [l0, l1, l2, l3, l4, l5], [.long (j2 * j3), .long j1, .ref k0], h) Q := t_go k_4_106 rfl
theorem k_4_107 : lk 4 107 = some (.ladd, 108, 0, 0, .null) := by decide +kernel
theorem x_4_107 : Tr sc d 4 (107, [l0, l1, l2, l3, l4, l5], [.long j2, .long j1, .ref k0], h) Q = Tr sc d 4 (108, [l0, l1, l2, l3, l4, l5], [.long (j1 + j2), .ref k0], h) Q := t_go k_4_107 rfl
theorem k_4_108 : lk 4 108 = some (.putfield 32, 111, 0, 3, .long 0) := by decide +kernel
theorem x_4_108 : Tr sc d 4 (108, [l0, l1, l2, l3, l4, l5], [.long j1, .ref k0], h) Q = (okp h k0 0 = true ∧ Tr sc d 4 (111, [l0, l1, l2, l3, l4, l5], [], (sL h k0 3 j1)) Q) := t_gd k_4_108 rfl
theorem k_4_111 : lk 4 111 = some (.aload_n 0, 112, 0, 0, .null) := by decide +kernel
theorem x_4_111 : Tr sc d 4 (111, [some (.ref xk), l1, l2, l3, l4, l5], [], h) Q = Tr sc d 4 (112, [some (.ref xk), l1, l2, l3, l4, l5], [.ref xk], h) Q := t_aload_n k_4_111 rfl
theorem k_4_112 : lk 4 112 = some (.dup, 113, 0, 0, .null) := by decide +kernel
theorem x_4_112 : Tr sc d 4 (112, [l0, l1, l2, l3, l4, l5], [.ref k0], h) Q = Tr sc d 4 (113, [l0, l1, l2, l3, l4, l5], [.ref k0, .ref k0], h) Q := t_go k_4_112 rfl
theorem k_4_113 : lk 4 113 = some (.getfield 35, 116, 0, 4, .long 0) := by decide +kernel
theorem x_4_113 : Tr sc d 4 (113, [l0, l1, l2, l3, l4, l5], [.ref k1, .ref k0], h) Q = (okp h k1 0 = true ∧ Tr sc d 4 (116, [l0, l1, l2, l3, l4, l5], [.long (hL h k1 4), .ref k0], h) Q) := t_gd k_4_113 rfl
theorem k_4_116 : lk 4 116 = some (.lload_n 3, 117, 3, 0, .null) := by decide +kernel
theorem x_4_116 : Tr sc d 4 (116, [l0, l1, l2, some (.long xl), l4, l5], [.long j1, .ref k0], h) Q = Tr sc d 4 (117, [l0, l1, l2, some (.long xl), l4, l5], [.long xl, .long j1, .ref k0], h) Q := t_lload_n k_4_116 rfl
theorem k_4_117 : lk 4 117 = some (.aload_n 1, 118, 1, 0, .null) := by decide +kernel
theorem x_4_117 : Tr sc d 4 (117, [l0, some (.ref xk), l2, l3, l4, l5], [.long j2, .long j1, .ref k0], h) Q = Tr sc d 4 (118, [l0, some (.ref xk), l2, l3, l4, l5], [.ref xk, .long j2, .long j1, .ref k0], h) Q := t_aload_n k_4_117 rfl
theorem k_4_118 : lk 4 118 = some (.getfield 63, 121, 6, 1, .null) := by decide +kernel
theorem x_4_118 : Tr sc d 4 (118, [l0, l1, l2, l3, l4, l5], [.ref k3, .long j2, .long j1, .ref k0], h) Q = (okp h k3 6 = true ∧ ∃ q, hR h k3 1 = some q ∧ Tr sc d 4 (121, [l0, l1, l2, l3, l4, l5], [.ref q, .long j2, .long j1, .ref k0], h) Q) := t_getr k_4_118
theorem k_4_121 : lk 4 121 = some (.iload_n 2, 122, 2, 0, .null) := by decide +kernel
theorem x_4_121 : Tr sc d 4 (121, [l0, l1, some (.int x), l3, l4, l5], [.ref k3, .long j2, .long j1, .ref k0], h) Q = Tr sc d 4 (122, [l0, l1, some (.int x), l3, l4, l5], [.int x, .ref k3, .long j2, .long j1, .ref k0], h) Q := t_iload_n k_4_121 rfl
theorem k_4_122 : lk 4 122 = some (.iaload, 123, 0, 0, .null) := by decide +kernel
theorem x_4_122 : Tr sc d 4 (122, [l0, l1, l2, l3, l4, l5], [.int i4, .ref k3, .long j2, .long j1, .ref k0], h) Q = (iOk sc h k3 i4 ∧ Tr sc d 4 (123, [l0, l1, l2, l3, l4, l5], [.int (iRd sc h k3 i4), .long j2, .long j1, .ref k0], h) Q) := t_iald k_4_122
theorem k_4_123 : lk 4 123 = some (.i2l, 124, 0, 0, .null) := by decide +kernel
theorem x_4_123 : Tr sc d 4 (123, [l0, l1, l2, l3, l4, l5], [.int i3, .long j2, .long j1, .ref k0], h) Q = Tr sc d 4 (124, [l0, l1, l2, l3, l4, l5], [.long i3.toInt64, .long j2, .long j1, .ref k0], h) Q := t_go k_4_123 rfl
theorem k_4_124 : lk 4 124 = some (.lmul, 125, 0, 0, .null) := by decide +kernel
theorem x_4_124 : Tr sc d 4 (124, [l0, l1, l2, l3, l4, l5], [.long j3, .long j2, .long j1, .ref k0], h) Q = Tr sc d 4 (125, [l0, l1, l2, l3, l4, l5], [.long (j2 * j3), .long j1, .ref k0], h) Q := t_go k_4_124 rfl
theorem k_4_125 : lk 4 125 = some (.ladd, 126, 0, 0, .null) := by decide +kernel
theorem x_4_125 : Tr sc d 4 (125, [l0, l1, l2, l3, l4, l5], [.long j2, .long j1, .ref k0], h) Q = Tr sc d 4 (126, [l0, l1, l2, l3, l4, l5], [.long (j1 + j2), .ref k0], h) Q := t_go k_4_125 rfl
theorem k_4_126 : lk 4 126 = some (.putfield 35, 129, 0, 4, .long 0) := by decide +kernel
theorem x_4_126 : Tr sc d 4 (126, [l0, l1, l2, l3, l4, l5], [.long j1, .ref k0], h) Q = (okp h k0 0 = true ∧ Tr sc d 4 (129, [l0, l1, l2, l3, l4, l5], [], (sL h k0 4 j1)) Q) := t_gd k_4_126 rfl
theorem k_4_129 : lk 4 129 = some (.aload_n 0, 130, 0, 0, .null) := by decide +kernel
theorem x_4_129 : Tr sc d 4 (129, [some (.ref xk), l1, l2, l3, l4, l5], [], h) Q = Tr sc d 4 (130, [some (.ref xk), l1, l2, l3, l4, l5], [.ref xk], h) Q := t_aload_n k_4_129 rfl
theorem k_4_130 : lk 4 130 = some (.dup, 131, 0, 0, .null) := by decide +kernel
theorem x_4_130 : Tr sc d 4 (130, [l0, l1, l2, l3, l4, l5], [.ref k0], h) Q = Tr sc d 4 (131, [l0, l1, l2, l3, l4, l5], [.ref k0, .ref k0], h) Q := t_go k_4_130 rfl
theorem k_4_131 : lk 4 131 = some (.getfield 38, 134, 0, 5, .long 0) := by decide +kernel
theorem x_4_131 : Tr sc d 4 (131, [l0, l1, l2, l3, l4, l5], [.ref k1, .ref k0], h) Q = (okp h k1 0 = true ∧ Tr sc d 4 (134, [l0, l1, l2, l3, l4, l5], [.long (hL h k1 5), .ref k0], h) Q) := t_gd k_4_131 rfl
theorem k_4_134 : lk 4 134 = some (.lload_n 3, 135, 3, 0, .null) := by decide +kernel
theorem x_4_134 : Tr sc d 4 (134, [l0, l1, l2, some (.long xl), l4, l5], [.long j1, .ref k0], h) Q = Tr sc d 4 (135, [l0, l1, l2, some (.long xl), l4, l5], [.long xl, .long j1, .ref k0], h) Q := t_lload_n k_4_134 rfl
theorem k_4_135 : lk 4 135 = some (.aload_n 1, 136, 1, 0, .null) := by decide +kernel
theorem x_4_135 : Tr sc d 4 (135, [l0, some (.ref xk), l2, l3, l4, l5], [.long j2, .long j1, .ref k0], h) Q = Tr sc d 4 (136, [l0, some (.ref xk), l2, l3, l4, l5], [.ref xk, .long j2, .long j1, .ref k0], h) Q := t_aload_n k_4_135 rfl
theorem k_4_136 : lk 4 136 = some (.getfield 66, 139, 6, 2, .null) := by decide +kernel
theorem x_4_136 : Tr sc d 4 (136, [l0, l1, l2, l3, l4, l5], [.ref k3, .long j2, .long j1, .ref k0], h) Q = (okp h k3 6 = true ∧ ∃ q, hR h k3 2 = some q ∧ Tr sc d 4 (139, [l0, l1, l2, l3, l4, l5], [.ref q, .long j2, .long j1, .ref k0], h) Q) := t_getr k_4_136
theorem k_4_139 : lk 4 139 = some (.iload_n 2, 140, 2, 0, .null) := by decide +kernel
theorem x_4_139 : Tr sc d 4 (139, [l0, l1, some (.int x), l3, l4, l5], [.ref k3, .long j2, .long j1, .ref k0], h) Q = Tr sc d 4 (140, [l0, l1, some (.int x), l3, l4, l5], [.int x, .ref k3, .long j2, .long j1, .ref k0], h) Q := t_iload_n k_4_139 rfl
theorem k_4_140 : lk 4 140 = some (.iaload, 141, 0, 0, .null) := by decide +kernel
theorem x_4_140 : Tr sc d 4 (140, [l0, l1, l2, l3, l4, l5], [.int i4, .ref k3, .long j2, .long j1, .ref k0], h) Q = (iOk sc h k3 i4 ∧ Tr sc d 4 (141, [l0, l1, l2, l3, l4, l5], [.int (iRd sc h k3 i4), .long j2, .long j1, .ref k0], h) Q) := t_iald k_4_140
theorem k_4_141 : lk 4 141 = some (.i2l, 142, 0, 0, .null) := by decide +kernel
theorem x_4_141 : Tr sc d 4 (141, [l0, l1, l2, l3, l4, l5], [.int i3, .long j2, .long j1, .ref k0], h) Q = Tr sc d 4 (142, [l0, l1, l2, l3, l4, l5], [.long i3.toInt64, .long j2, .long j1, .ref k0], h) Q := t_go k_4_141 rfl
theorem k_4_142 : lk 4 142 = some (.lmul, 143, 0, 0, .null) := by decide +kernel
theorem x_4_142 : Tr sc d 4 (142, [l0, l1, l2, l3, l4, l5], [.long j3, .long j2, .long j1, .ref k0], h) Q = Tr sc d 4 (143, [l0, l1, l2, l3, l4, l5], [.long (j2 * j3), .long j1, .ref k0], h) Q := t_go k_4_142 rfl
theorem k_4_143 : lk 4 143 = some (.ladd, 144, 0, 0, .null) := by decide +kernel
theorem x_4_143 : Tr sc d 4 (143, [l0, l1, l2, l3, l4, l5], [.long j2, .long j1, .ref k0], h) Q = Tr sc d 4 (144, [l0, l1, l2, l3, l4, l5], [.long (j1 + j2), .ref k0], h) Q := t_go k_4_143 rfl
theorem k_4_144 : lk 4 144 = some (.putfield 38, 147, 0, 5, .long 0) := by decide +kernel
theorem x_4_144 : Tr sc d 4 (144, [l0, l1, l2, l3, l4, l5], [.long j1, .ref k0], h) Q = (okp h k0 0 = true ∧ Tr sc d 4 (147, [l0, l1, l2, l3, l4, l5], [], (sL h k0 5 j1)) Q) := t_gd k_4_144 rfl
theorem k_4_147 : lk 4 147 = some (.iinc 2 1, 150, 2, 0, .int 1) := by decide +kernel
theorem x_4_147 : Tr sc d 4 (147, [l0, l1, some (.int x), l3, l4, l5], [], h) Q = Tr sc d 4 (150, [l0, cl2 l1, some (.int (x + 1)), l3, l4, l5], [], h) Q := t_inc k_4_147 rfl (Nat.le_of_ble_eq_true rfl)
theorem k_4_150 : lk 4 150 = some (.goto (-134), 153, 16, 0, .null) := by decide +kernel
theorem x_4_150 : Tr sc d 4 (150, [l0, l1, l2, l3, l4, l5], [], h) Q = Tr sc d 4 (16, [l0, l1, l2, l3, l4, l5], [], h) Q := t_go k_4_150 rfl
theorem k_4_153 : lk 4 153 = some (.aload_n 0, 154, 0, 0, .null) := by decide +kernel
theorem x_4_153 : Tr sc d 4 (153, [some (.ref xk), l1, l2, l3, l4, l5], [], h) Q = Tr sc d 4 (154, [some (.ref xk), l1, l2, l3, l4, l5], [.ref xk], h) Q := t_aload_n k_4_153 rfl
theorem k_4_154 : lk 4 154 = some (.aload_n 1, 155, 1, 0, .null) := by decide +kernel
theorem x_4_154 : Tr sc d 4 (154, [l0, some (.ref xk), l2, l3, l4, l5], [.ref k0], h) Q = Tr sc d 4 (155, [l0, some (.ref xk), l2, l3, l4, l5], [.ref xk, .ref k0], h) Q := t_aload_n k_4_154 rfl
theorem k_4_155 : lk 4 155 = some (.getfield 69, 158, 6, 7, .int 0) := by decide +kernel
theorem x_4_155 : Tr sc d 4 (155, [l0, l1, l2, l3, l4, l5], [.ref k1, .ref k0], h) Q = (okp h k1 6 = true ∧ Tr sc d 4 (158, [l0, l1, l2, l3, l4, l5], [.int (hI h k1 7), .ref k0], h) Q) := t_gd k_4_155 rfl
theorem k_4_158 : lk 4 158 = some (.i2l, 159, 0, 0, .null) := by decide +kernel
theorem x_4_158 : Tr sc d 4 (158, [l0, l1, l2, l3, l4, l5], [.int i1, .ref k0], h) Q = Tr sc d 4 (159, [l0, l1, l2, l3, l4, l5], [.long i1.toInt64, .ref k0], h) Q := t_go k_4_158 rfl
theorem k_4_159 : lk 4 159 = some (.aload_n 1, 160, 1, 0, .null) := by decide +kernel
theorem x_4_159 : Tr sc d 4 (159, [l0, some (.ref xk), l2, l3, l4, l5], [.long j1, .ref k0], h) Q = Tr sc d 4 (160, [l0, some (.ref xk), l2, l3, l4, l5], [.ref xk, .long j1, .ref k0], h) Q := t_aload_n k_4_159 rfl
theorem k_4_160 : lk 4 160 = some (.invokevirtual 80, 163, 57, 0, .null) := by decide +kernel
theorem x_4_160 : Tr sc (d + 1) 4 (160, [l0, l1, l2, l3, l4, l5], [.ref k2, .long j1, .ref k0], h) Q = (okp h k2 6 = true ∧ Tr sc d 57 (ent0 57 [.ref k2] h) (fun z => Tr sc (d + 1) 4 (163, [l0, l1, l2, l3, l4, l5], z.1.toList ++ [.long j1, .ref k0], z.2) Q)) := t_cv (as := []) (r := [.long j1, .ref k0]) k_4_160 rfl rfl (Nat.le_of_ble_eq_true rfl) (Nat.le_of_ble_eq_true rfl) (Nat.le_of_ble_eq_true rfl)
theorem k_4_163 : lk 4 163 = some (.i2l, 164, 0, 0, .null) := by decide +kernel
theorem x_4_163 : Tr sc d 4 (163, [l0, l1, l2, l3, l4, l5], [.int i2, .long j1, .ref k0], h) Q = Tr sc d 4 (164, [l0, l1, l2, l3, l4, l5], [.long i2.toInt64, .long j1, .ref k0], h) Q := t_go k_4_163 rfl
theorem k_4_164 : lk 4 164 = some (.lmul, 165, 0, 0, .null) := by decide +kernel
theorem x_4_164 : Tr sc d 4 (164, [l0, l1, l2, l3, l4, l5], [.long j2, .long j1, .ref k0], h) Q = Tr sc d 4 (165, [l0, l1, l2, l3, l4, l5], [.long (j1 * j2), .ref k0], h) Q := t_go k_4_164 rfl
theorem k_4_165 : lk 4 165 = some (.putfield 41, 168, 0, 6, .long 0) := by decide +kernel
theorem x_4_165 : Tr sc d 4 (165, [l0, l1, l2, l3, l4, l5], [.long j1, .ref k0], h) Q = (okp h k0 0 = true ∧ Tr sc d 4 (168, [l0, l1, l2, l3, l4, l5], [], (sL h k0 6 j1)) Q) := t_gd k_4_165 rfl
theorem k_4_168 : lk 4 168 = some (.return_, 169, 0, 0, .null) := by decide +kernel
theorem x_4_168 : Tr sc d 4 (168, [l0, l1, l2, l3, l4, l5], [], h) Q = Q (none, h) := t_ret k_4_168 (by rw [r_4]; rfl)
theorem e_4 : Tr sc d 4 (ent0 4 [.ref k0, .ref k1] h) Q = Tr sc d 4 (0, [some (.ref k0), some (.ref k1), none, none, none, none], [], h) Q := by
  have e : mL 4 = 6 := by decide +kernel
  unfold ent0
  rw [e]
  rfl
theorem r_5 : mR 5 = some .long := by decide +kernel
theorem k_5_0 : lk 5 0 = some (.aload_n 0, 1, 0, 0, .null) := by decide +kernel
theorem x_5_0 : Tr sc d 5 (0, [some (.ref xk)], [], h) Q = Tr sc d 5 (1, [some (.ref xk)], [.ref xk], h) Q := t_aload_n k_5_0 rfl
theorem k_5_1 : lk 5 1 = some (.getfield 41, 4, 0, 6, .long 0) := by decide +kernel
theorem x_5_1 : Tr sc d 5 (1, [l0], [.ref k0], h) Q = (okp h k0 0 = true ∧ Tr sc d 5 (4, [l0], [.long (hL h k0 6)], h) Q) := t_gd k_5_1 rfl
theorem k_5_4 : lk 5 4 = some (.aload_n 0, 5, 0, 0, .null) := by decide +kernel
theorem x_5_4 : Tr sc d 5 (4, [some (.ref xk)], [.long j0], h) Q = Tr sc d 5 (5, [some (.ref xk)], [.ref xk, .long j0], h) Q := t_aload_n k_5_4 rfl
theorem k_5_5 : lk 5 5 = some (.getfield 22, 8, 0, 0, .long 0) := by decide +kernel
theorem x_5_5 : Tr sc d 5 (5, [l0], [.ref k1, .long j0], h) Q = (okp h k1 0 = true ∧ Tr sc d 5 (8, [l0], [.long (hL h k1 0), .long j0], h) Q) := t_gd k_5_5 rfl
theorem k_5_8 : lk 5 8 = some (.lsub, 9, 0, 0, .null) := by decide +kernel
theorem x_5_8 : Tr sc d 5 (8, [l0], [.long j1, .long j0], h) Q = Tr sc d 5 (9, [l0], [.long (j0 - j1)], h) Q := t_go k_5_8 rfl
theorem k_5_9 : lk 5 9 = some (.aload_n 0, 10, 0, 0, .null) := by decide +kernel
theorem x_5_9 : Tr sc d 5 (9, [some (.ref xk)], [.long j0], h) Q = Tr sc d 5 (10, [some (.ref xk)], [.ref xk, .long j0], h) Q := t_aload_n k_5_9 rfl
theorem k_5_10 : lk 5 10 = some (.getfield 41, 13, 0, 6, .long 0) := by decide +kernel
theorem x_5_10 : Tr sc d 5 (10, [l0], [.ref k1, .long j0], h) Q = (okp h k1 0 = true ∧ Tr sc d 5 (13, [l0], [.long (hL h k1 6), .long j0], h) Q) := t_gd k_5_10 rfl
theorem k_5_13 : lk 5 13 = some (.aload_n 0, 14, 0, 0, .null) := by decide +kernel
theorem x_5_13 : Tr sc d 5 (13, [some (.ref xk)], [.long j1, .long j0], h) Q = Tr sc d 5 (14, [some (.ref xk)], [.ref xk, .long j1, .long j0], h) Q := t_aload_n k_5_13 rfl
theorem k_5_14 : lk 5 14 = some (.getfield 32, 17, 0, 3, .long 0) := by decide +kernel
theorem x_5_14 : Tr sc d 5 (14, [l0], [.ref k2, .long j1, .long j0], h) Q = (okp h k2 0 = true ∧ Tr sc d 5 (17, [l0], [.long (hL h k2 3), .long j1, .long j0], h) Q) := t_gd k_5_14 rfl
theorem k_5_17 : lk 5 17 = some (.lsub, 18, 0, 0, .null) := by decide +kernel
theorem x_5_17 : Tr sc d 5 (17, [l0], [.long j2, .long j1, .long j0], h) Q = Tr sc d 5 (18, [l0], [.long (j1 - j2), .long j0], h) Q := t_go k_5_17 rfl
theorem k_5_18 : lk 5 18 = some (.lmul, 19, 0, 0, .null) := by decide +kernel
theorem x_5_18 : Tr sc d 5 (18, [l0], [.long j1, .long j0], h) Q = Tr sc d 5 (19, [l0], [.long (j0 * j1)], h) Q := t_go k_5_18 rfl
theorem k_5_19 : lk 5 19 = some (.aload_n 0, 20, 0, 0, .null) := by decide +kernel
theorem x_5_19 : Tr sc d 5 (19, [some (.ref xk)], [.long j0], h) Q = Tr sc d 5 (20, [some (.ref xk)], [.ref xk, .long j0], h) Q := t_aload_n k_5_19 rfl
theorem k_5_20 : lk 5 20 = some (.getfield 26, 23, 0, 1, .long 0) := by decide +kernel
theorem x_5_20 : Tr sc d 5 (20, [l0], [.ref k1, .long j0], h) Q = (okp h k1 0 = true ∧ Tr sc d 5 (23, [l0], [.long (hL h k1 1), .long j0], h) Q) := t_gd k_5_20 rfl
theorem k_5_23 : lk 5 23 = some (.aload_n 0, 24, 0, 0, .null) := by decide +kernel
theorem x_5_23 : Tr sc d 5 (23, [some (.ref xk)], [.long j1, .long j0], h) Q = Tr sc d 5 (24, [some (.ref xk)], [.ref xk, .long j1, .long j0], h) Q := t_aload_n k_5_23 rfl
theorem k_5_24 : lk 5 24 = some (.getfield 29, 27, 0, 2, .long 0) := by decide +kernel
theorem x_5_24 : Tr sc d 5 (24, [l0], [.ref k2, .long j1, .long j0], h) Q = (okp h k2 0 = true ∧ Tr sc d 5 (27, [l0], [.long (hL h k2 2), .long j1, .long j0], h) Q) := t_gd k_5_24 rfl
theorem k_5_27 : lk 5 27 = some (.lmul, 28, 0, 0, .null) := by decide +kernel
theorem x_5_27 : Tr sc d 5 (27, [l0], [.long j2, .long j1, .long j0], h) Q = Tr sc d 5 (28, [l0], [.long (j1 * j2), .long j0], h) Q := t_go k_5_27 rfl
theorem k_5_28 : lk 5 28 = some (.lsub, 29, 0, 0, .null) := by decide +kernel
theorem x_5_28 : Tr sc d 5 (28, [l0], [.long j1, .long j0], h) Q = Tr sc d 5 (29, [l0], [.long (j0 - j1)], h) Q := t_go k_5_28 rfl
theorem k_5_29 : lk 5 29 = some (.lreturn, 30, 0, 0, .null) := by decide +kernel
theorem x_5_29 : Tr sc d 5 (29, [l0], [.long j0], h) Q = Q (some (.long j0), h) := t_ret k_5_29 (by rw [r_5]; rfl)
theorem e_5 : Tr sc d 5 (ent0 5 [.ref k0] h) Q = Tr sc d 5 (0, [some (.ref k0)], [], h) Q := by
  have e : mL 5 = 1 := by decide +kernel
  unfold ent0
  rw [e]
  rfl
theorem r_6 : mR 6 = some .long := by decide +kernel
theorem k_6_0 : lk 6 0 = some (.aload_n 0, 1, 0, 0, .null) := by decide +kernel
theorem x_6_0 : Tr sc d 6 (0, [some (.ref xk)], [], h) Q = Tr sc d 6 (1, [some (.ref xk)], [.ref xk], h) Q := t_aload_n k_6_0 rfl
theorem k_6_1 : lk 6 1 = some (.getfield 41, 4, 0, 6, .long 0) := by decide +kernel
theorem x_6_1 : Tr sc d 6 (1, [l0], [.ref k0], h) Q = (okp h k0 0 = true ∧ Tr sc d 6 (4, [l0], [.long (hL h k0 6)], h) Q) := t_gd k_6_1 rfl
theorem k_6_4 : lk 6 4 = some (.aload_n 0, 5, 0, 0, .null) := by decide +kernel
theorem x_6_4 : Tr sc d 6 (4, [some (.ref xk)], [.long j0], h) Q = Tr sc d 6 (5, [some (.ref xk)], [.ref xk, .long j0], h) Q := t_aload_n k_6_4 rfl
theorem k_6_5 : lk 6 5 = some (.getfield 32, 8, 0, 3, .long 0) := by decide +kernel
theorem x_6_5 : Tr sc d 6 (5, [l0], [.ref k1, .long j0], h) Q = (okp h k1 0 = true ∧ Tr sc d 6 (8, [l0], [.long (hL h k1 3), .long j0], h) Q) := t_gd k_6_5 rfl
theorem k_6_8 : lk 6 8 = some (.lsub, 9, 0, 0, .null) := by decide +kernel
theorem x_6_8 : Tr sc d 6 (8, [l0], [.long j1, .long j0], h) Q = Tr sc d 6 (9, [l0], [.long (j0 - j1)], h) Q := t_go k_6_8 rfl
theorem k_6_9 : lk 6 9 = some (.aload_n 0, 10, 0, 0, .null) := by decide +kernel
theorem x_6_9 : Tr sc d 6 (9, [some (.ref xk)], [.long j0], h) Q = Tr sc d 6 (10, [some (.ref xk)], [.ref xk, .long j0], h) Q := t_aload_n k_6_9 rfl
theorem k_6_10 : lk 6 10 = some (.getfield 35, 13, 0, 4, .long 0) := by decide +kernel
theorem x_6_10 : Tr sc d 6 (10, [l0], [.ref k1, .long j0], h) Q = (okp h k1 0 = true ∧ Tr sc d 6 (13, [l0], [.long (hL h k1 4), .long j0], h) Q) := t_gd k_6_10 rfl
theorem k_6_13 : lk 6 13 = some (.lmul, 14, 0, 0, .null) := by decide +kernel
theorem x_6_13 : Tr sc d 6 (13, [l0], [.long j1, .long j0], h) Q = Tr sc d 6 (14, [l0], [.long (j0 * j1)], h) Q := t_go k_6_13 rfl
theorem k_6_14 : lk 6 14 = some (.aload_n 0, 15, 0, 0, .null) := by decide +kernel
theorem x_6_14 : Tr sc d 6 (14, [some (.ref xk)], [.long j0], h) Q = Tr sc d 6 (15, [some (.ref xk)], [.ref xk, .long j0], h) Q := t_aload_n k_6_14 rfl
theorem k_6_15 : lk 6 15 = some (.getfield 26, 18, 0, 1, .long 0) := by decide +kernel
theorem x_6_15 : Tr sc d 6 (15, [l0], [.ref k1, .long j0], h) Q = (okp h k1 0 = true ∧ Tr sc d 6 (18, [l0], [.long (hL h k1 1), .long j0], h) Q) := t_gd k_6_15 rfl
theorem k_6_18 : lk 6 18 = some (.aload_n 0, 19, 0, 0, .null) := by decide +kernel
theorem x_6_18 : Tr sc d 6 (18, [some (.ref xk)], [.long j1, .long j0], h) Q = Tr sc d 6 (19, [some (.ref xk)], [.ref xk, .long j1, .long j0], h) Q := t_aload_n k_6_18 rfl
theorem k_6_19 : lk 6 19 = some (.getfield 38, 22, 0, 5, .long 0) := by decide +kernel
theorem x_6_19 : Tr sc d 6 (19, [l0], [.ref k2, .long j1, .long j0], h) Q = (okp h k2 0 = true ∧ Tr sc d 6 (22, [l0], [.long (hL h k2 5), .long j1, .long j0], h) Q) := t_gd k_6_19 rfl
theorem k_6_22 : lk 6 22 = some (.lmul, 23, 0, 0, .null) := by decide +kernel
theorem x_6_22 : Tr sc d 6 (22, [l0], [.long j2, .long j1, .long j0], h) Q = Tr sc d 6 (23, [l0], [.long (j1 * j2), .long j0], h) Q := t_go k_6_22 rfl
theorem k_6_23 : lk 6 23 = some (.ladd, 24, 0, 0, .null) := by decide +kernel
theorem x_6_23 : Tr sc d 6 (23, [l0], [.long j1, .long j0], h) Q = Tr sc d 6 (24, [l0], [.long (j0 + j1)], h) Q := t_go k_6_23 rfl
theorem k_6_24 : lk 6 24 = some (.lreturn, 25, 0, 0, .null) := by decide +kernel
theorem x_6_24 : Tr sc d 6 (24, [l0], [.long j0], h) Q = Q (some (.long j0), h) := t_ret k_6_24 (by rw [r_6]; rfl)
theorem e_6 : Tr sc d 6 (ent0 6 [.ref k0] h) Q = Tr sc d 6 (0, [some (.ref k0)], [], h) Q := by
  have e : mL 6 = 1 := by decide +kernel
  unfold ent0
  rw [e]
  rfl
theorem r_7 : mR 7 = some .long := by decide +kernel
theorem k_7_0 : lk 7 0 = some (.aload_n 0, 1, 0, 0, .null) := by decide +kernel
theorem x_7_0 : Tr sc d 7 (0, [some (.ref xk)], [], h) Q = Tr sc d 7 (1, [some (.ref xk)], [.ref xk], h) Q := t_aload_n k_7_0 rfl
theorem k_7_1 : lk 7 1 = some (.getfield 29, 4, 0, 2, .long 0) := by decide +kernel
theorem x_7_1 : Tr sc d 7 (1, [l0], [.ref k0], h) Q = (okp h k0 0 = true ∧ Tr sc d 7 (4, [l0], [.long (hL h k0 2)], h) Q) := t_gd k_7_1 rfl
theorem k_7_4 : lk 7 4 = some (.aload_n 0, 5, 0, 0, .null) := by decide +kernel
theorem x_7_4 : Tr sc d 7 (4, [some (.ref xk)], [.long j0], h) Q = Tr sc d 7 (5, [some (.ref xk)], [.ref xk, .long j0], h) Q := t_aload_n k_7_4 rfl
theorem k_7_5 : lk 7 5 = some (.getfield 35, 8, 0, 4, .long 0) := by decide +kernel
theorem x_7_5 : Tr sc d 7 (5, [l0], [.ref k1, .long j0], h) Q = (okp h k1 0 = true ∧ Tr sc d 7 (8, [l0], [.long (hL h k1 4), .long j0], h) Q) := t_gd k_7_5 rfl
theorem k_7_8 : lk 7 8 = some (.lmul, 9, 0, 0, .null) := by decide +kernel
theorem x_7_8 : Tr sc d 7 (8, [l0], [.long j1, .long j0], h) Q = Tr sc d 7 (9, [l0], [.long (j0 * j1)], h) Q := t_go k_7_8 rfl
theorem k_7_9 : lk 7 9 = some (.aload_n 0, 10, 0, 0, .null) := by decide +kernel
theorem x_7_9 : Tr sc d 7 (9, [some (.ref xk)], [.long j0], h) Q = Tr sc d 7 (10, [some (.ref xk)], [.ref xk, .long j0], h) Q := t_aload_n k_7_9 rfl
theorem k_7_10 : lk 7 10 = some (.getfield 41, 13, 0, 6, .long 0) := by decide +kernel
theorem x_7_10 : Tr sc d 7 (10, [l0], [.ref k1, .long j0], h) Q = (okp h k1 0 = true ∧ Tr sc d 7 (13, [l0], [.long (hL h k1 6), .long j0], h) Q) := t_gd k_7_10 rfl
theorem k_7_13 : lk 7 13 = some (.aload_n 0, 14, 0, 0, .null) := by decide +kernel
theorem x_7_13 : Tr sc d 7 (13, [some (.ref xk)], [.long j1, .long j0], h) Q = Tr sc d 7 (14, [some (.ref xk)], [.ref xk, .long j1, .long j0], h) Q := t_aload_n k_7_13 rfl
theorem k_7_14 : lk 7 14 = some (.getfield 22, 17, 0, 0, .long 0) := by decide +kernel
theorem x_7_14 : Tr sc d 7 (14, [l0], [.ref k2, .long j1, .long j0], h) Q = (okp h k2 0 = true ∧ Tr sc d 7 (17, [l0], [.long (hL h k2 0), .long j1, .long j0], h) Q) := t_gd k_7_14 rfl
theorem k_7_17 : lk 7 17 = some (.lsub, 18, 0, 0, .null) := by decide +kernel
theorem x_7_17 : Tr sc d 7 (17, [l0], [.long j2, .long j1, .long j0], h) Q = Tr sc d 7 (18, [l0], [.long (j1 - j2), .long j0], h) Q := t_go k_7_17 rfl
theorem k_7_18 : lk 7 18 = some (.aload_n 0, 19, 0, 0, .null) := by decide +kernel
theorem x_7_18 : Tr sc d 7 (18, [some (.ref xk)], [.long j1, .long j0], h) Q = Tr sc d 7 (19, [some (.ref xk)], [.ref xk, .long j1, .long j0], h) Q := t_aload_n k_7_18 rfl
theorem k_7_19 : lk 7 19 = some (.getfield 38, 22, 0, 5, .long 0) := by decide +kernel
theorem x_7_19 : Tr sc d 7 (19, [l0], [.ref k2, .long j1, .long j0], h) Q = (okp h k2 0 = true ∧ Tr sc d 7 (22, [l0], [.long (hL h k2 5), .long j1, .long j0], h) Q) := t_gd k_7_19 rfl
theorem k_7_22 : lk 7 22 = some (.lmul, 23, 0, 0, .null) := by decide +kernel
theorem x_7_22 : Tr sc d 7 (22, [l0], [.long j2, .long j1, .long j0], h) Q = Tr sc d 7 (23, [l0], [.long (j1 * j2), .long j0], h) Q := t_go k_7_22 rfl
theorem k_7_23 : lk 7 23 = some (.ladd, 24, 0, 0, .null) := by decide +kernel
theorem x_7_23 : Tr sc d 7 (23, [l0], [.long j1, .long j0], h) Q = Tr sc d 7 (24, [l0], [.long (j0 + j1)], h) Q := t_go k_7_23 rfl
theorem k_7_24 : lk 7 24 = some (.lreturn, 25, 0, 0, .null) := by decide +kernel
theorem x_7_24 : Tr sc d 7 (24, [l0], [.long j0], h) Q = Q (some (.long j0), h) := t_ret k_7_24 (by rw [r_7]; rfl)
theorem e_7 : Tr sc d 7 (ent0 7 [.ref k0] h) Q = Tr sc d 7 (0, [some (.ref k0)], [], h) Q := by
  have e : mL 7 = 1 := by decide +kernel
  unfold ent0
  rw [e]
  rfl
theorem r_8 : mR 8 = none := by decide +kernel
theorem k_8_0 : lk 8 0 = some (.aload_n 0, 1, 0, 0, .null) := by decide +kernel
theorem x_8_0 : Tr sc d 8 (0, [some (.ref xk), l1, l2], [], h) Q = Tr sc d 8 (1, [some (.ref xk), l1, l2], [.ref xk], h) Q := t_aload_n k_8_0 rfl
theorem k_8_1 : lk 8 1 = some (.invokespecial 3, 4, 9000, 0, .null) := by decide +kernel
theorem x_8_1 : Tr sc d 8 (1, [l0, l1, l2], [.ref k0], h) Q = Tr sc d 8 (4, [l0, l1, l2], [], h) Q := t_go k_8_1 rfl
theorem k_8_4 : lk 8 4 = some (.aload_n 0, 5, 0, 0, .null) := by decide +kernel
theorem x_8_4 : Tr sc d 8 (4, [some (.ref xk), l1, l2], [], h) Q = Tr sc d 8 (5, [some (.ref xk), l1, l2], [.ref xk], h) Q := t_aload_n k_8_4 rfl
theorem k_8_5 : lk 8 5 = some (.iconst 0, 6, 0, 0, .int 0) := by decide +kernel
theorem x_8_5 : Tr sc d 8 (5, [l0, l1, l2], [.ref k0], h) Q = Tr sc d 8 (6, [l0, l1, l2], [.int 0, .ref k0], h) Q := t_go k_8_5 rfl
theorem k_8_6 : lk 8 6 = some (.putfield 9, 9, 1, 3, .int 0) := by decide +kernel
theorem x_8_6 : Tr sc d 8 (6, [l0, l1, l2], [.int i1, .ref k0], h) Q = (okp h k0 1 = true ∧ Tr sc d 8 (9, [l0, l1, l2], [], (sI h k0 3 i1)) Q) := t_gd k_8_6 rfl
theorem k_8_9 : lk 8 9 = some (.aload_n 0, 10, 0, 0, .null) := by decide +kernel
theorem x_8_9 : Tr sc d 8 (9, [some (.ref xk), l1, l2], [], h) Q = Tr sc d 8 (10, [some (.ref xk), l1, l2], [.ref xk], h) Q := t_aload_n k_8_9 rfl
theorem k_8_10 : lk 8 10 = some (.iconst 0, 11, 0, 0, .int 0) := by decide +kernel
theorem x_8_10 : Tr sc d 8 (10, [l0, l1, l2], [.ref k0], h) Q = Tr sc d 8 (11, [l0, l1, l2], [.int 0, .ref k0], h) Q := t_go k_8_10 rfl
theorem k_8_11 : lk 8 11 = some (.putfield 15, 14, 1, 4, .int 0) := by decide +kernel
theorem x_8_11 : Tr sc d 8 (11, [l0, l1, l2], [.int i1, .ref k0], h) Q = (okp h k0 1 = true ∧ Tr sc d 8 (14, [l0, l1, l2], [], (sI h k0 4 i1)) Q) := t_gd k_8_11 rfl
theorem k_8_14 : lk 8 14 = some (.aload_n 0, 15, 0, 0, .null) := by decide +kernel
theorem x_8_14 : Tr sc d 8 (14, [some (.ref xk), l1, l2], [], h) Q = Tr sc d 8 (15, [some (.ref xk), l1, l2], [.ref xk], h) Q := t_aload_n k_8_14 rfl
theorem k_8_15 : lk 8 15 = some (.iconst 0, 16, 0, 0, .int 0) := by decide +kernel
theorem x_8_15 : Tr sc d 8 (15, [l0, l1, l2], [.ref k0], h) Q = Tr sc d 8 (16, [l0, l1, l2], [.int 0, .ref k0], h) Q := t_go k_8_15 rfl
theorem k_8_16 : lk 8 16 = some (.putfield 18, 19, 1, 5, .int 0) := by decide +kernel
theorem x_8_16 : Tr sc d 8 (16, [l0, l1, l2], [.int i1, .ref k0], h) Q = (okp h k0 1 = true ∧ Tr sc d 8 (19, [l0, l1, l2], [], (sI h k0 5 i1)) Q) := t_gd k_8_16 rfl
theorem k_8_19 : lk 8 19 = some (.aload_n 0, 20, 0, 0, .null) := by decide +kernel
theorem x_8_19 : Tr sc d 8 (19, [some (.ref xk), l1, l2], [], h) Q = Tr sc d 8 (20, [some (.ref xk), l1, l2], [.ref xk], h) Q := t_aload_n k_8_19 rfl
theorem k_8_20 : lk 8 20 = some (.iload_n 1, 21, 1, 0, .null) := by decide +kernel
theorem x_8_20 : Tr sc d 8 (20, [l0, some (.int x), l2], [.ref k0], h) Q = Tr sc d 8 (21, [l0, some (.int x), l2], [.int x, .ref k0], h) Q := t_iload_n k_8_20 rfl
theorem k_8_21 : lk 8 21 = some (.newarray .int, 23, 11, 0, .null) := by decide +kernel
theorem x_8_21 : Tr sc d 8 (21, [l0, l1, l2], [.int i1, .ref k0], h) Q = ((hN h < 1000 ∧ TG (hN h) = 11 ∧ (¬ i1 < 0) ∧ LN (hN h) = i1.toNatClampNeg ∧ LN (hN h) ≤ 60000) ∧ Tr sc d 8 (23, [l0, l1, l2], [.ref (hN h), .ref k0], nH h) Q) := t_gd k_8_21 rfl
theorem k_8_23 : lk 8 23 = some (.putfield 21, 26, 1, 0, .null) := by decide +kernel
theorem x_8_23 : Tr sc d 8 (23, [l0, l1, l2], [.ref k1, .ref k0], h) Q = (okp h k0 1 = true ∧ Tr sc d 8 (26, [l0, l1, l2], [], (sR h k0 0 (some k1))) Q) := t_gd k_8_23 rfl
theorem k_8_26 : lk 8 26 = some (.aload_n 0, 27, 0, 0, .null) := by decide +kernel
theorem x_8_26 : Tr sc d 8 (26, [some (.ref xk), l1, l2], [], h) Q = Tr sc d 8 (27, [some (.ref xk), l1, l2], [.ref xk], h) Q := t_aload_n k_8_26 rfl
theorem k_8_27 : lk 8 27 = some (.iload_n 1, 28, 1, 0, .null) := by decide +kernel
theorem x_8_27 : Tr sc d 8 (27, [l0, some (.int x), l2], [.ref k0], h) Q = Tr sc d 8 (28, [l0, some (.int x), l2], [.int x, .ref k0], h) Q := t_iload_n k_8_27 rfl
theorem k_8_28 : lk 8 28 = some (.newarray .int, 30, 11, 0, .null) := by decide +kernel
theorem x_8_28 : Tr sc d 8 (28, [l0, l1, l2], [.int i1, .ref k0], h) Q = ((hN h < 1000 ∧ TG (hN h) = 11 ∧ (¬ i1 < 0) ∧ LN (hN h) = i1.toNatClampNeg ∧ LN (hN h) ≤ 60000) ∧ Tr sc d 8 (30, [l0, l1, l2], [.ref (hN h), .ref k0], nH h) Q) := t_gd k_8_28 rfl
theorem k_8_30 : lk 8 30 = some (.putfield 25, 33, 1, 1, .null) := by decide +kernel
theorem x_8_30 : Tr sc d 8 (30, [l0, l1, l2], [.ref k1, .ref k0], h) Q = (okp h k0 1 = true ∧ Tr sc d 8 (33, [l0, l1, l2], [], (sR h k0 1 (some k1))) Q) := t_gd k_8_30 rfl
theorem k_8_33 : lk 8 33 = some (.aload_n 0, 34, 0, 0, .null) := by decide +kernel
theorem x_8_33 : Tr sc d 8 (33, [some (.ref xk), l1, l2], [], h) Q = Tr sc d 8 (34, [some (.ref xk), l1, l2], [.ref xk], h) Q := t_aload_n k_8_33 rfl
theorem k_8_34 : lk 8 34 = some (.iload_n 2, 35, 2, 0, .null) := by decide +kernel
theorem x_8_34 : Tr sc d 8 (34, [l0, l1, some (.int x)], [.ref k0], h) Q = Tr sc d 8 (35, [l0, l1, some (.int x)], [.int x, .ref k0], h) Q := t_iload_n k_8_34 rfl
theorem k_8_35 : lk 8 35 = some (.newarray .int, 37, 11, 0, .null) := by decide +kernel
theorem x_8_35 : Tr sc d 8 (35, [l0, l1, l2], [.int i1, .ref k0], h) Q = ((hN h < 1000 ∧ TG (hN h) = 11 ∧ (¬ i1 < 0) ∧ LN (hN h) = i1.toNatClampNeg ∧ LN (hN h) ≤ 60000) ∧ Tr sc d 8 (37, [l0, l1, l2], [.ref (hN h), .ref k0], nH h) Q) := t_gd k_8_35 rfl
theorem k_8_37 : lk 8 37 = some (.putfield 28, 40, 1, 2, .null) := by decide +kernel
theorem x_8_37 : Tr sc d 8 (37, [l0, l1, l2], [.ref k1, .ref k0], h) Q = (okp h k0 1 = true ∧ Tr sc d 8 (40, [l0, l1, l2], [], (sR h k0 2 (some k1))) Q) := t_gd k_8_37 rfl
theorem k_8_40 : lk 8 40 = some (.return_, 41, 0, 0, .null) := by decide +kernel
theorem x_8_40 : Tr sc d 8 (40, [l0, l1, l2], [], h) Q = Q (none, h) := t_ret k_8_40 (by rw [r_8]; rfl)
theorem e_8 : Tr sc d 8 (ent0 8 [.ref k0, .int i1, .int i2] h) Q = Tr sc d 8 (0, [some (.ref k0), some (.int i1), some (.int i2)], [], h) Q := by
  have e : mL 8 = 3 := by decide +kernel
  unfold ent0
  rw [e]
  rfl
theorem r_9 : mR 9 = none := by decide +kernel
theorem k_9_0 : lk 9 0 = some (.iconst 2, 1, 0, 0, .int 2) := by decide +kernel
theorem x_9_0 : Tr sc d 9 (0, [l0, l1, l2, l3], [], h) Q = Tr sc d 9 (1, [l0, l1, l2, l3], [.int 2], h) Q := t_go k_9_0 rfl
theorem k_9_1 : lk 9 1 = some (.istore_n 2, 2, 2, 0, .null) := by decide +kernel
theorem x_9_1 : Tr sc d 9 (1, [l0, l1, l2, l3], [.int i0], h) Q = Tr sc d 9 (2, [l0, cl2 l1, some (.int i0), l3], [], h) Q := t_istore_n k_9_1 (Nat.le_of_ble_eq_true rfl)
theorem k_9_2 : lk 9 2 = some (.iconst 1, 3, 0, 0, .int 1) := by decide +kernel
theorem x_9_2 : Tr sc d 9 (2, [l0, l1, l2, l3], [], h) Q = Tr sc d 9 (3, [l0, l1, l2, l3], [.int 1], h) Q := t_go k_9_2 rfl
theorem k_9_3 : lk 9 3 = some (.istore_n 3, 4, 3, 0, .null) := by decide +kernel
theorem x_9_3 : Tr sc d 9 (3, [l0, l1, l2, l3], [.int i0], h) Q = Tr sc d 9 (4, [l0, l1, cl2 l2, some (.int i0)], [], h) Q := t_istore_n k_9_3 (Nat.le_of_ble_eq_true rfl)
theorem k_9_4 : lk 9 4 = some (.iload_n 3, 5, 3, 0, .null) := by decide +kernel
theorem x_9_4 : Tr sc d 9 (4, [l0, l1, l2, some (.int x)], [], h) Q = Tr sc d 9 (5, [l0, l1, l2, some (.int x)], [.int x], h) Q := t_iload_n k_9_4 rfl
theorem k_9_5 : lk 9 5 = some (.bipush 30, 7, 0, 0, .int 30) := by decide +kernel
theorem x_9_5 : Tr sc d 9 (5, [l0, l1, l2, l3], [.int i0], h) Q = Tr sc d 9 (7, [l0, l1, l2, l3], [.int 30, .int i0], h) Q := t_go k_9_5 rfl
theorem k_9_7 : lk 9 7 = some (.if_icmp .ge 29, 10, 36, 0, .null) := by decide +kernel
theorem x_9_7 : Tr sc d 9 (7, [l0, l1, l2, l3], [.int i1, .int i0], h) Q = if i1 ≤ i0 then Tr sc d 9 (36, [l0, l1, l2, l3], [], h) Q else Tr sc d 9 (10, [l0, l1, l2, l3], [], h) Q := t_if k_9_7 rfl
theorem k_9_10 : lk 9 10 = some (.iload_n 2, 11, 2, 0, .null) := by decide +kernel
theorem x_9_10 : Tr sc d 9 (10, [l0, l1, some (.int x), l3], [], h) Q = Tr sc d 9 (11, [l0, l1, some (.int x), l3], [.int x], h) Q := t_iload_n k_9_10 rfl
theorem k_9_11 : lk 9 11 = some (.iconst 2, 12, 0, 0, .int 2) := by decide +kernel
theorem x_9_11 : Tr sc d 9 (11, [l0, l1, l2, l3], [.int i0], h) Q = Tr sc d 9 (12, [l0, l1, l2, l3], [.int 2, .int i0], h) Q := t_go k_9_11 rfl
theorem k_9_12 : lk 9 12 = some (.iload_n 1, 13, 1, 0, .null) := by decide +kernel
theorem x_9_12 : Tr sc d 9 (12, [l0, some (.int x), l2, l3], [.int i1, .int i0], h) Q = Tr sc d 9 (13, [l0, some (.int x), l2, l3], [.int x, .int i1, .int i0], h) Q := t_iload_n k_9_12 rfl
theorem k_9_13 : lk 9 13 = some (.imul, 14, 0, 0, .null) := by decide +kernel
theorem x_9_13 : Tr sc d 9 (13, [l0, l1, l2, l3], [.int i2, .int i1, .int i0], h) Q = Tr sc d 9 (14, [l0, l1, l2, l3], [.int (i1 * i2), .int i0], h) Q := t_go k_9_13 rfl
theorem k_9_14 : lk 9 14 = some (.if_icmp .ge 22, 17, 36, 0, .null) := by decide +kernel
theorem x_9_14 : Tr sc d 9 (14, [l0, l1, l2, l3], [.int i1, .int i0], h) Q = if i1 ≤ i0 then Tr sc d 9 (36, [l0, l1, l2, l3], [], h) Q else Tr sc d 9 (17, [l0, l1, l2, l3], [], h) Q := t_if k_9_14 rfl
theorem k_9_17 : lk 9 17 = some (.iload_n 2, 18, 2, 0, .null) := by decide +kernel
theorem x_9_17 : Tr sc d 9 (17, [l0, l1, some (.int x), l3], [], h) Q = Tr sc d 9 (18, [l0, l1, some (.int x), l3], [.int x], h) Q := t_iload_n k_9_17 rfl
theorem k_9_18 : lk 9 18 = some (.aload_n 0, 19, 0, 0, .null) := by decide +kernel
theorem x_9_18 : Tr sc d 9 (18, [some (.ref xk), l1, l2, l3], [.int i0], h) Q = Tr sc d 9 (19, [some (.ref xk), l1, l2, l3], [.ref xk, .int i0], h) Q := t_aload_n k_9_18 rfl
theorem k_9_19 : lk 9 19 = some (.getfield 28, 22, 1, 2, .null) := by decide +kernel
theorem x_9_19 : Tr sc d 9 (19, [l0, l1, l2, l3], [.ref k1, .int i0], h) Q = (okp h k1 1 = true ∧ ∃ q, hR h k1 2 = some q ∧ Tr sc d 9 (22, [l0, l1, l2, l3], [.ref q, .int i0], h) Q) := t_getr k_9_19
theorem k_9_22 : lk 9 22 = some (.arraylength, 23, 0, 0, .null) := by decide +kernel
theorem x_9_22 (hk : k1 < 1000) : Tr sc d 9 (22, [l0, l1, l2, l3], [.ref k1, .int i0], h) Q = ((okp h k1 11 || (okp h k1 12 || (okp h k1 13 || (okp h k1 14 || okp h k1 15)))) = true ∧ Tr sc d 9 (23, [l0, l1, l2, l3], [.int (Int32.ofNat (LN k1)), .int i0], h) Q) := t_gd k_9_22 (if_pos hk)
theorem k_9_23 : lk 9 23 = some (.if_icmp .ge 13, 26, 36, 0, .null) := by decide +kernel
theorem x_9_23 : Tr sc d 9 (23, [l0, l1, l2, l3], [.int i1, .int i0], h) Q = if i1 ≤ i0 then Tr sc d 9 (36, [l0, l1, l2, l3], [], h) Q else Tr sc d 9 (26, [l0, l1, l2, l3], [], h) Q := t_if k_9_23 rfl
theorem k_9_26 : lk 9 26 = some (.iload_n 2, 27, 2, 0, .null) := by decide +kernel
theorem x_9_26 : Tr sc d 9 (26, [l0, l1, some (.int x), l3], [], h) Q = Tr sc d 9 (27, [l0, l1, some (.int x), l3], [.int x], h) Q := t_iload_n k_9_26 rfl
theorem k_9_27 : lk 9 27 = some (.iconst 2, 28, 0, 0, .int 2) := by decide +kernel
theorem x_9_27 : Tr sc d 9 (27, [l0, l1, l2, l3], [.int i0], h) Q = Tr sc d 9 (28, [l0, l1, l2, l3], [.int 2, .int i0], h) Q := t_go k_9_27 rfl
theorem k_9_28 : lk 9 28 = some (.imul, 29, 0, 0, .null) := by decide +kernel
theorem x_9_28 : Tr sc d 9 (28, [l0, l1, l2, l3], [.int i1, .int i0], h) Q = Tr sc d 9 (29, [l0, l1, l2, l3], [.int (i0 * i1)], h) Q := t_go k_9_28 rfl
theorem k_9_29 : lk 9 29 = some (.istore_n 2, 30, 2, 0, .null) := by decide +kernel
theorem x_9_29 : Tr sc d 9 (29, [l0, l1, l2, l3], [.int i0], h) Q = Tr sc d 9 (30, [l0, cl2 l1, some (.int i0), l3], [], h) Q := t_istore_n k_9_29 (Nat.le_of_ble_eq_true rfl)
theorem k_9_30 : lk 9 30 = some (.iinc 3 1, 33, 3, 0, .int 1) := by decide +kernel
theorem x_9_30 : Tr sc d 9 (30, [l0, l1, l2, some (.int x)], [], h) Q = Tr sc d 9 (33, [l0, l1, cl2 l2, some (.int (x + 1))], [], h) Q := t_inc k_9_30 rfl (Nat.le_of_ble_eq_true rfl)
theorem k_9_33 : lk 9 33 = some (.goto (-29), 36, 4, 0, .null) := by decide +kernel
theorem x_9_33 : Tr sc d 9 (33, [l0, l1, l2, l3], [], h) Q = Tr sc d 9 (4, [l0, l1, l2, l3], [], h) Q := t_go k_9_33 rfl
theorem k_9_36 : lk 9 36 = some (.aload_n 0, 37, 0, 0, .null) := by decide +kernel
theorem x_9_36 : Tr sc d 9 (36, [some (.ref xk), l1, l2, l3], [], h) Q = Tr sc d 9 (37, [some (.ref xk), l1, l2, l3], [.ref xk], h) Q := t_aload_n k_9_36 rfl
theorem k_9_37 : lk 9 37 = some (.iload_n 2, 38, 2, 0, .null) := by decide +kernel
theorem x_9_37 : Tr sc d 9 (37, [l0, l1, some (.int x), l3], [.ref k0], h) Q = Tr sc d 9 (38, [l0, l1, some (.int x), l3], [.int x, .ref k0], h) Q := t_iload_n k_9_37 rfl
theorem k_9_38 : lk 9 38 = some (.iconst 1, 39, 0, 0, .int 1) := by decide +kernel
theorem x_9_38 : Tr sc d 9 (38, [l0, l1, l2, l3], [.int i1, .ref k0], h) Q = Tr sc d 9 (39, [l0, l1, l2, l3], [.int 1, .int i1, .ref k0], h) Q := t_go k_9_38 rfl
theorem k_9_39 : lk 9 39 = some (.isub, 40, 0, 0, .null) := by decide +kernel
theorem x_9_39 : Tr sc d 9 (39, [l0, l1, l2, l3], [.int i2, .int i1, .ref k0], h) Q = Tr sc d 9 (40, [l0, l1, l2, l3], [.int (i1 - i2), .ref k0], h) Q := t_go k_9_39 rfl
theorem k_9_40 : lk 9 40 = some (.putfield 9, 43, 1, 3, .int 0) := by decide +kernel
theorem x_9_40 : Tr sc d 9 (40, [l0, l1, l2, l3], [.int i1, .ref k0], h) Q = (okp h k0 1 = true ∧ Tr sc d 9 (43, [l0, l1, l2, l3], [], (sI h k0 3 i1)) Q) := t_gd k_9_40 rfl
theorem k_9_43 : lk 9 43 = some (.aload_n 0, 44, 0, 0, .null) := by decide +kernel
theorem x_9_43 : Tr sc d 9 (43, [some (.ref xk), l1, l2, l3], [], h) Q = Tr sc d 9 (44, [some (.ref xk), l1, l2, l3], [.ref xk], h) Q := t_aload_n k_9_43 rfl
theorem k_9_44 : lk 9 44 = some (.getfield 28, 47, 1, 2, .null) := by decide +kernel
theorem x_9_44 : Tr sc d 9 (44, [l0, l1, l2, l3], [.ref k0], h) Q = (okp h k0 1 = true ∧ ∃ q, hR h k0 2 = some q ∧ Tr sc d 9 (47, [l0, l1, l2, l3], [.ref q], h) Q) := t_getr k_9_44
theorem k_9_47 : lk 9 47 = some (.iconst 0, 48, 0, 0, .int 0) := by decide +kernel
theorem x_9_47 : Tr sc d 9 (47, [l0, l1, l2, l3], [.ref k0], h) Q = Tr sc d 9 (48, [l0, l1, l2, l3], [.int 0, .ref k0], h) Q := t_go k_9_47 rfl
theorem k_9_48 : lk 9 48 = some (.iload_n 2, 49, 2, 0, .null) := by decide +kernel
theorem x_9_48 : Tr sc d 9 (48, [l0, l1, some (.int x), l3], [.int i1, .ref k0], h) Q = Tr sc d 9 (49, [l0, l1, some (.int x), l3], [.int x, .int i1, .ref k0], h) Q := t_iload_n k_9_48 rfl
theorem k_9_49 : lk 9 49 = some (.iconst 0, 50, 0, 0, .int 0) := by decide +kernel
theorem x_9_49 : Tr sc d 9 (49, [l0, l1, l2, l3], [.int i2, .int i1, .ref k0], h) Q = Tr sc d 9 (50, [l0, l1, l2, l3], [.int 0, .int i2, .int i1, .ref k0], h) Q := t_go k_9_49 rfl
theorem k_9_50 : lk 9 50 = some (.invokestatic 31, 53, 258, 4, .null) := by decide +kernel
theorem x_9_50 : Tr sc (d + 1) 9 (50, [l0, l1, l2, l3], [.int i3, .int i2, .int i1, .ref k0], h) Q = Tr sc d 258 (ent0 258 [.ref k0, .int i1, .int i2, .int i3] h) (fun z => Tr sc (d + 1) 9 (53, [l0, l1, l2, l3], z.1.toList ++ [], z.2) Q) := t_cs (as := [.ref k0, .int i1, .int i2, .int i3]) (r := []) k_9_50 (by decide) rfl rfl (Nat.le_of_ble_eq_true rfl) (Nat.le_of_ble_eq_true rfl)
theorem k_9_53 : lk 9 53 = some (.aload_n 0, 54, 0, 0, .null) := by decide +kernel
theorem x_9_53 : Tr sc d 9 (53, [some (.ref xk), l1, l2, l3], [], h) Q = Tr sc d 9 (54, [some (.ref xk), l1, l2, l3], [.ref xk], h) Q := t_aload_n k_9_53 rfl
theorem k_9_54 : lk 9 54 = some (.iconst 0, 55, 0, 0, .int 0) := by decide +kernel
theorem x_9_54 : Tr sc d 9 (54, [l0, l1, l2, l3], [.ref k0], h) Q = Tr sc d 9 (55, [l0, l1, l2, l3], [.int 0, .ref k0], h) Q := t_go k_9_54 rfl
theorem k_9_55 : lk 9 55 = some (.putfield 15, 58, 1, 4, .int 0) := by decide +kernel
theorem x_9_55 : Tr sc d 9 (55, [l0, l1, l2, l3], [.int i1, .ref k0], h) Q = (okp h k0 1 = true ∧ Tr sc d 9 (58, [l0, l1, l2, l3], [], (sI h k0 4 i1)) Q) := t_gd k_9_55 rfl
theorem k_9_58 : lk 9 58 = some (.aload_n 0, 59, 0, 0, .null) := by decide +kernel
theorem x_9_58 : Tr sc d 9 (58, [some (.ref xk), l1, l2, l3], [], h) Q = Tr sc d 9 (59, [some (.ref xk), l1, l2, l3], [.ref xk], h) Q := t_aload_n k_9_58 rfl
theorem k_9_59 : lk 9 59 = some (.iconst 0, 60, 0, 0, .int 0) := by decide +kernel
theorem x_9_59 : Tr sc d 9 (59, [l0, l1, l2, l3], [.ref k0], h) Q = Tr sc d 9 (60, [l0, l1, l2, l3], [.int 0, .ref k0], h) Q := t_go k_9_59 rfl
theorem k_9_60 : lk 9 60 = some (.putfield 18, 63, 1, 5, .int 0) := by decide +kernel
theorem x_9_60 : Tr sc d 9 (60, [l0, l1, l2, l3], [.int i1, .ref k0], h) Q = (okp h k0 1 = true ∧ Tr sc d 9 (63, [l0, l1, l2, l3], [], (sI h k0 5 i1)) Q) := t_gd k_9_60 rfl
theorem k_9_63 : lk 9 63 = some (.return_, 64, 0, 0, .null) := by decide +kernel
theorem x_9_63 : Tr sc d 9 (63, [l0, l1, l2, l3], [], h) Q = Q (none, h) := t_ret k_9_63 (by rw [r_9]; rfl)
theorem e_9 : Tr sc d 9 (ent0 9 [.ref k0, .int i1] h) Q = Tr sc d 9 (0, [some (.ref k0), some (.int i1), none, none], [], h) Q := by
  have e : mL 9 = 4 := by decide +kernel
  unfold ent0
  rw [e]
  rfl
theorem r_10 : mR 10 = none := by decide +kernel
theorem k_10_0 : lk 10 0 = some (.iconst 1, 1, 0, 0, .int 1) := by decide +kernel
theorem x_10_0 : Tr sc d 10 (0, [l0, l1, l2, l3, l4], [], h) Q = Tr sc d 10 (1, [l0, l1, l2, l3, l4], [.int 1], h) Q := t_go k_10_0 rfl
theorem k_10_1 : lk 10 1 = some (.istore_n 3, 2, 3, 0, .null) := by decide +kernel
theorem x_10_1 : Tr sc d 10 (1, [l0, l1, l2, l3, l4], [.int i0], h) Q = Tr sc d 10 (2, [l0, l1, cl2 l2, some (.int i0), l4], [], h) Q := t_istore_n k_10_1 (Nat.le_of_ble_eq_true rfl)
theorem k_10_2 : lk 10 2 = some (.iconst 0, 3, 0, 0, .int 0) := by decide +kernel
theorem x_10_2 : Tr sc d 10 (2, [l0, l1, l2, l3, l4], [], h) Q = Tr sc d 10 (3, [l0, l1, l2, l3, l4], [.int 0], h) Q := t_go k_10_2 rfl
theorem k_10_3 : lk 10 3 = some (.istore 4, 5, 4, 0, .null) := by decide +kernel
theorem x_10_3 : Tr sc d 10 (3, [l0, l1, l2, l3, l4], [.int i0], h) Q = Tr sc d 10 (5, [l0, l1, l2, cl2 l3, some (.int i0)], [], h) Q := t_istore k_10_3 (Nat.le_of_ble_eq_true rfl)
theorem k_10_5 : lk 10 5 = some (.iload 4, 7, 4, 0, .null) := by decide +kernel
theorem x_10_5 : Tr sc d 10 (5, [l0, l1, l2, l3, some (.int x)], [], h) Q = Tr sc d 10 (7, [l0, l1, l2, l3, some (.int x)], [.int x], h) Q := t_iload k_10_5 rfl
theorem k_10_7 : lk 10 7 = some (.iload_n 2, 8, 2, 0, .null) := by decide +kernel
theorem x_10_7 : Tr sc d 10 (7, [l0, l1, some (.int x), l3, l4], [.int i0], h) Q = Tr sc d 10 (8, [l0, l1, some (.int x), l3, l4], [.int x, .int i0], h) Q := t_iload_n k_10_7 rfl
theorem k_10_8 : lk 10 8 = some (.if_icmp .ge 16, 11, 24, 0, .null) := by decide +kernel
theorem x_10_8 : Tr sc d 10 (8, [l0, l1, l2, l3, l4], [.int i1, .int i0], h) Q = if i1 ≤ i0 then Tr sc d 10 (24, [l0, l1, l2, l3, l4], [], h) Q else Tr sc d 10 (11, [l0, l1, l2, l3, l4], [], h) Q := t_if k_10_8 rfl
theorem k_10_11 : lk 10 11 = some (.iload_n 3, 12, 3, 0, .null) := by decide +kernel
theorem x_10_11 : Tr sc d 10 (11, [l0, l1, l2, some (.int x), l4], [], h) Q = Tr sc d 10 (12, [l0, l1, l2, some (.int x), l4], [.int x], h) Q := t_iload_n k_10_11 rfl
theorem k_10_12 : lk 10 12 = some (.aload_n 1, 13, 1, 0, .null) := by decide +kernel
theorem x_10_12 : Tr sc d 10 (12, [l0, some (.ref xk), l2, l3, l4], [.int i0], h) Q = Tr sc d 10 (13, [l0, some (.ref xk), l2, l3, l4], [.ref xk, .int i0], h) Q := t_aload_n k_10_12 rfl
theorem k_10_13 : lk 10 13 = some (.getfield 37, 16, 6, 8, .int 0) := by decide +kernel
theorem x_10_13 : Tr sc d 10 (13, [l0, l1, l2, l3, l4], [.ref k1, .int i0], h) Q = (okp h k1 6 = true ∧ Tr sc d 10 (16, [l0, l1, l2, l3, l4], [.int (hI h k1 8), .int i0], h) Q) := t_gd k_10_13 rfl
theorem k_10_16 : lk 10 16 = some (.imul, 17, 0, 0, .null) := by decide +kernel
theorem x_10_16 : Tr sc d 10 (16, [l0, l1, l2, l3, l4], [.int i1, .int i0], h) Q = Tr sc d 10 (17, [l0, l1, l2, l3, l4], [.int (i0 * i1)], h) Q := t_go k_10_16 rfl
theorem k_10_17 : lk 10 17 = some (.istore_n 3, 18, 3, 0, .null) := by decide +kernel
theorem x_10_17 : Tr sc d 10 (17, [l0, l1, l2, l3, l4], [.int i0], h) Q = Tr sc d 10 (18, [l0, l1, cl2 l2, some (.int i0), l4], [], h) Q := t_istore_n k_10_17 (Nat.le_of_ble_eq_true rfl)
theorem k_10_18 : lk 10 18 = some (.iinc 4 1, 21, 4, 0, .int 1) := by decide +kernel
theorem x_10_18 : Tr sc d 10 (18, [l0, l1, l2, l3, some (.int x)], [], h) Q = Tr sc d 10 (21, [l0, l1, l2, cl2 l3, some (.int (x + 1))], [], h) Q := t_inc k_10_18 rfl (Nat.le_of_ble_eq_true rfl)
theorem k_10_21 : lk 10 21 = some (.goto (-16), 24, 5, 0, .null) := by decide +kernel
theorem x_10_21 : Tr sc d 10 (21, [l0, l1, l2, l3, l4], [], h) Q = Tr sc d 10 (5, [l0, l1, l2, l3, l4], [], h) Q := t_go k_10_21 rfl
theorem k_10_24 : lk 10 24 = some (.aload_n 0, 25, 0, 0, .null) := by decide +kernel
theorem x_10_24 : Tr sc d 10 (24, [some (.ref xk), l1, l2, l3, l4], [], h) Q = Tr sc d 10 (25, [some (.ref xk), l1, l2, l3, l4], [.ref xk], h) Q := t_aload_n k_10_24 rfl
theorem k_10_25 : lk 10 25 = some (.iload_n 3, 26, 3, 0, .null) := by decide +kernel
theorem x_10_25 : Tr sc d 10 (25, [l0, l1, l2, some (.int x), l4], [.ref k0], h) Q = Tr sc d 10 (26, [l0, l1, l2, some (.int x), l4], [.int x, .ref k0], h) Q := t_iload_n k_10_25 rfl
theorem k_10_26 : lk 10 26 = some (.invokevirtual 42, 29, 9, 1, .null) := by decide +kernel
theorem x_10_26 : Tr sc (d + 1) 10 (26, [l0, l1, l2, l3, l4], [.int i1, .ref k0], h) Q = (okp h k0 1 = true ∧ Tr sc d 9 (ent0 9 [.ref k0, .int i1] h) (fun z => Tr sc (d + 1) 10 (29, [l0, l1, l2, l3, l4], z.1.toList ++ [], z.2) Q)) := t_cv (as := [.int i1]) (r := []) k_10_26 rfl rfl (Nat.le_of_ble_eq_true rfl) (Nat.le_of_ble_eq_true rfl) (Nat.le_of_ble_eq_true rfl)
theorem k_10_29 : lk 10 29 = some (.aload_n 0, 30, 0, 0, .null) := by decide +kernel
theorem x_10_29 : Tr sc d 10 (29, [some (.ref xk), l1, l2, l3, l4], [], h) Q = Tr sc d 10 (30, [some (.ref xk), l1, l2, l3, l4], [.ref xk], h) Q := t_aload_n k_10_29 rfl
theorem k_10_30 : lk 10 30 = some (.aload_n 1, 31, 1, 0, .null) := by decide +kernel
theorem x_10_30 : Tr sc d 10 (30, [l0, some (.ref xk), l2, l3, l4], [.ref k0], h) Q = Tr sc d 10 (31, [l0, some (.ref xk), l2, l3, l4], [.ref xk, .ref k0], h) Q := t_aload_n k_10_30 rfl
theorem k_10_31 : lk 10 31 = some (.iload_n 2, 32, 2, 0, .null) := by decide +kernel
theorem x_10_31 : Tr sc d 10 (31, [l0, l1, some (.int x), l3, l4], [.ref k1, .ref k0], h) Q = Tr sc d 10 (32, [l0, l1, some (.int x), l3, l4], [.int x, .ref k1, .ref k0], h) Q := t_iload_n k_10_31 rfl
theorem k_10_32 : lk 10 32 = some (.iconst 0, 33, 0, 0, .int 0) := by decide +kernel
theorem x_10_32 : Tr sc d 10 (32, [l0, l1, l2, l3, l4], [.int i2, .ref k1, .ref k0], h) Q = Tr sc d 10 (33, [l0, l1, l2, l3, l4], [.int 0, .int i2, .ref k1, .ref k0], h) Q := t_go k_10_32 rfl
theorem k_10_33 : lk 10 33 = some (.iconst 0, 34, 0, 0, .int 0) := by decide +kernel
theorem x_10_33 : Tr sc d 10 (33, [l0, l1, l2, l3, l4], [.int i3, .int i2, .ref k1, .ref k0], h) Q = Tr sc d 10 (34, [l0, l1, l2, l3, l4], [.int 0, .int i3, .int i2, .ref k1, .ref k0], h) Q := t_go k_10_33 rfl
theorem k_10_34 : lk 10 34 = some (.iconst (-1), 35, 0, 0, .int (-1)) := by decide +kernel
theorem x_10_34 : Tr sc d 10 (34, [l0, l1, l2, l3, l4], [.int i4, .int i3, .int i2, .ref k1, .ref k0], h) Q = Tr sc d 10 (35, [l0, l1, l2, l3, l4], [.int (-1), .int i4, .int i3, .int i2, .ref k1, .ref k0], h) Q := t_go k_10_34 rfl
theorem k_10_35 : lk 10 35 = some (.iconst 1, 36, 0, 0, .int 1) := by decide +kernel
theorem x_10_35 : Tr sc d 10 (35, [l0, l1, l2, l3, l4], [.int i5, .int i4, .int i3, .int i2, .ref k1, .ref k0], h) Q = Tr sc d 10 (36, [l0, l1, l2, l3, l4], [.int 1, .int i5, .int i4, .int i3, .int i2, .ref k1, .ref k0], h) Q := t_go k_10_35 rfl
theorem k_10_36 : lk 10 36 = some (.invokevirtual 46, 39, 11, 6, .null) := by decide +kernel
theorem x_10_36 : Tr sc (d + 1) 10 (36, [l0, l1, l2, l3, l4], [.int i6, .int i5, .int i4, .int i3, .int i2, .ref k1, .ref k0], h) Q = (okp h k0 1 = true ∧ Tr sc d 11 (ent0 11 [.ref k0, .ref k1, .int i2, .int i3, .int i4, .int i5, .int i6] h) (fun z => Tr sc (d + 1) 10 (39, [l0, l1, l2, l3, l4], z.1.toList ++ [], z.2) Q)) := t_cv (as := [.ref k1, .int i2, .int i3, .int i4, .int i5, .int i6]) (r := []) k_10_36 rfl rfl (Nat.le_of_ble_eq_true rfl) (Nat.le_of_ble_eq_true rfl) (Nat.le_of_ble_eq_true rfl)
theorem k_10_39 : lk 10 39 = some (.return_, 40, 0, 0, .null) := by decide +kernel
theorem x_10_39 : Tr sc d 10 (39, [l0, l1, l2, l3, l4], [], h) Q = Q (none, h) := t_ret k_10_39 (by rw [r_10]; rfl)
theorem e_10 : Tr sc d 10 (ent0 10 [.ref k0, .ref k1, .int i2] h) Q = Tr sc d 10 (0, [some (.ref k0), some (.ref k1), some (.int i2), none, none], [], h) Q := by
  have e : mL 10 = 5 := by decide +kernel
  unfold ent0
  rw [e]
  rfl
theorem r_11 : mR 11 = none := by decide +kernel
theorem k_11_0 : lk 11 0 = some (.iload_n 2, 1, 2, 0, .null) := by decide +kernel
theorem x_11_0 : Tr sc d 11 (0, [l0, l1, some (.int x), l3, l4, l5, l6, l7, l8, l9], [], h) Q = Tr sc d 11 (1, [l0, l1, some (.int x), l3, l4, l5, l6, l7, l8, l9], [.int x], h) Q := t_iload_n k_11_0 rfl
theorem k_11_1 : lk 11 1 = some (.ifCond .gt 11, 4, 12, 0, .null) := by decide +kernel
theorem x_11_1 : Tr sc d 11 (1, [l0, l1, l2, l3, l4, l5, l6, l7, l8, l9], [.int i0], h) Q = if 0 < i0 then Tr sc d 11 (12, [l0, l1, l2, l3, l4, l5, l6, l7, l8, l9], [], h) Q else Tr sc d 11 (4, [l0, l1, l2, l3, l4, l5, l6, l7, l8, l9], [], h) Q := t_if k_11_1 rfl
theorem k_11_4 : lk 11 4 = some (.aload_n 0, 5, 0, 0, .null) := by decide +kernel
theorem x_11_4 : Tr sc d 11 (4, [some (.ref xk), l1, l2, l3, l4, l5, l6, l7, l8, l9], [], h) Q = Tr sc d 11 (5, [some (.ref xk), l1, l2, l3, l4, l5, l6, l7, l8, l9], [.ref xk], h) Q := t_aload_n k_11_4 rfl
theorem k_11_5 : lk 11 5 = some (.iload_n 3, 6, 3, 0, .null) := by decide +kernel
theorem x_11_5 : Tr sc d 11 (5, [l0, l1, l2, some (.int x), l4, l5, l6, l7, l8, l9], [.ref k0], h) Q = Tr sc d 11 (6, [l0, l1, l2, some (.int x), l4, l5, l6, l7, l8, l9], [.int x, .ref k0], h) Q := t_iload_n k_11_5 rfl
theorem k_11_6 : lk 11 6 = some (.iload 4, 8, 4, 0, .null) := by decide +kernel
theorem x_11_6 : Tr sc d 11 (6, [l0, l1, l2, l3, some (.int x), l5, l6, l7, l8, l9], [.int i1, .ref k0], h) Q = Tr sc d 11 (8, [l0, l1, l2, l3, some (.int x), l5, l6, l7, l8, l9], [.int x, .int i1, .ref k0], h) Q := t_iload k_11_6 rfl
theorem k_11_8 : lk 11 8 = some (.invokevirtual 50, 11, 18, 2, .null) := by decide +kernel
theorem x_11_8 : Tr sc (d + 1) 11 (8, [l0, l1, l2, l3, l4, l5, l6, l7, l8, l9], [.int i2, .int i1, .ref k0], h) Q = (okp h k0 1 = true ∧ Tr sc d 18 (ent0 18 [.ref k0, .int i1, .int i2] h) (fun z => Tr sc (d + 1) 11 (11, [l0, l1, l2, l3, l4, l5, l6, l7, l8, l9], z.1.toList ++ [], z.2) Q)) := t_cv (as := [.int i1, .int i2]) (r := []) k_11_8 rfl rfl (Nat.le_of_ble_eq_true rfl) (Nat.le_of_ble_eq_true rfl) (Nat.le_of_ble_eq_true rfl)
theorem k_11_11 : lk 11 11 = some (.return_, 12, 0, 0, .null) := by decide +kernel
theorem x_11_11 : Tr sc d 11 (11, [l0, l1, l2, l3, l4, l5, l6, l7, l8, l9], [], h) Q = Q (none, h) := t_ret k_11_11 (by rw [r_11]; rfl)
theorem k_11_12 : lk 11 12 = some (.iconst 0, 13, 0, 0, .int 0) := by decide +kernel
theorem x_11_12 : Tr sc d 11 (12, [l0, l1, l2, l3, l4, l5, l6, l7, l8, l9], [], h) Q = Tr sc d 11 (13, [l0, l1, l2, l3, l4, l5, l6, l7, l8, l9], [.int 0], h) Q := t_go k_11_12 rfl
theorem k_11_13 : lk 11 13 = some (.istore 7, 15, 7, 0, .null) := by decide +kernel
theorem x_11_13 : Tr sc d 11 (13, [l0, l1, l2, l3, l4, l5, l6, l7, l8, l9], [.int i0], h) Q = Tr sc d 11 (15, [l0, l1, l2, l3, l4, l5, cl2 l6, some (.int i0), l8, l9], [], h) Q := t_istore k_11_13 (Nat.le_of_ble_eq_true rfl)
theorem k_11_15 : lk 11 15 = some (.iload 7, 17, 7, 0, .null) := by decide +kernel
theorem x_11_15 : Tr sc d 11 (15, [l0, l1, l2, l3, l4, l5, l6, some (.int x), l8, l9], [], h) Q = Tr sc d 11 (17, [l0, l1, l2, l3, l4, l5, l6, some (.int x), l8, l9], [.int x], h) Q := t_iload k_11_15 rfl
theorem k_11_17 : lk 11 17 = some (.aload_n 1, 18, 1, 0, .null) := by decide +kernel
theorem x_11_17 : Tr sc d 11 (17, [l0, some (.ref xk), l2, l3, l4, l5, l6, l7, l8, l9], [.int i0], h) Q = Tr sc d 11 (18, [l0, some (.ref xk), l2, l3, l4, l5, l6, l7, l8, l9], [.ref xk, .int i0], h) Q := t_aload_n k_11_17 rfl
theorem k_11_18 : lk 11 18 = some (.getfield 37, 21, 6, 8, .int 0) := by decide +kernel
theorem x_11_18 : Tr sc d 11 (18, [l0, l1, l2, l3, l4, l5, l6, l7, l8, l9], [.ref k1, .int i0], h) Q = (okp h k1 6 = true ∧ Tr sc d 11 (21, [l0, l1, l2, l3, l4, l5, l6, l7, l8, l9], [.int (hI h k1 8), .int i0], h) Q) := t_gd k_11_18 rfl
theorem k_11_21 : lk 11 21 = some (.if_icmp .ge 73, 24, 94, 0, .null) := by decide +kernel
theorem x_11_21 : Tr sc d 11 (21, [l0, l1, l2, l3, l4, l5, l6, l7, l8, l9], [.int i1, .int i0], h) Q = if i1 ≤ i0 then Tr sc d 11 (94, [l0, l1, l2, l3, l4, l5, l6, l7, l8, l9], [], h) Q else Tr sc d 11 (24, [l0, l1, l2, l3, l4, l5, l6, l7, l8, l9], [], h) Q := t_if k_11_21 rfl
theorem k_11_24 : lk 11 24 = some (.iload 5, 26, 5, 0, .null) := by decide +kernel
theorem x_11_24 : Tr sc d 11 (24, [l0, l1, l2, l3, l4, some (.int x), l6, l7, l8, l9], [], h) Q = Tr sc d 11 (26, [l0, l1, l2, l3, l4, some (.int x), l6, l7, l8, l9], [.int x], h) Q := t_iload k_11_24 rfl
theorem k_11_26 : lk 11 26 = some (.iconst (-1), 27, 0, 0, .int (-1)) := by decide +kernel
theorem x_11_26 : Tr sc d 11 (26, [l0, l1, l2, l3, l4, l5, l6, l7, l8, l9], [.int i0], h) Q = Tr sc d 11 (27, [l0, l1, l2, l3, l4, l5, l6, l7, l8, l9], [.int (-1), .int i0], h) Q := t_go k_11_26 rfl
theorem k_11_27 : lk 11 27 = some (.if_icmp .eq 14, 30, 41, 0, .null) := by decide +kernel
theorem x_11_27 : Tr sc d 11 (27, [l0, l1, l2, l3, l4, l5, l6, l7, l8, l9], [.int i1, .int i0], h) Q = if i0 = i1 then Tr sc d 11 (41, [l0, l1, l2, l3, l4, l5, l6, l7, l8, l9], [], h) Q else Tr sc d 11 (30, [l0, l1, l2, l3, l4, l5, l6, l7, l8, l9], [], h) Q := t_if k_11_27 rfl
theorem k_11_30 : lk 11 30 = some (.aload_n 1, 31, 1, 0, .null) := by decide +kernel
theorem x_11_30 : Tr sc d 11 (30, [l0, some (.ref xk), l2, l3, l4, l5, l6, l7, l8, l9], [], h) Q = Tr sc d 11 (31, [l0, some (.ref xk), l2, l3, l4, l5, l6, l7, l8, l9], [.ref xk], h) Q := t_aload_n k_11_30 rfl
theorem k_11_31 : lk 11 31 = some (.iload 7, 33, 7, 0, .null) := by decide +kernel
theorem x_11_31 : Tr sc d 11 (31, [l0, l1, l2, l3, l4, l5, l6, some (.int x), l8, l9], [.ref k0], h) Q = Tr sc d 11 (33, [l0, l1, l2, l3, l4, l5, l6, some (.int x), l8, l9], [.int x, .ref k0], h) Q := t_iload k_11_31 rfl
theorem k_11_33 : lk 11 33 = some (.iload 5, 35, 5, 0, .null) := by decide +kernel
theorem x_11_33 : Tr sc d 11 (33, [l0, l1, l2, l3, l4, some (.int x), l6, l7, l8, l9], [.int i1, .ref k0], h) Q = Tr sc d 11 (35, [l0, l1, l2, l3, l4, some (.int x), l6, l7, l8, l9], [.int x, .int i1, .ref k0], h) Q := t_iload k_11_33 rfl
theorem k_11_35 : lk 11 35 = some (.invokevirtual 54, 38, 58, 2, .null) := by decide +kernel
theorem x_11_35 : Tr sc (d + 1) 11 (35, [l0, l1, l2, l3, l4, l5, l6, l7, l8, l9], [.int i2, .int i1, .ref k0], h) Q = (okp h k0 6 = true ∧ Tr sc d 58 (ent0 58 [.ref k0, .int i1, .int i2] h) (fun z => Tr sc (d + 1) 11 (38, [l0, l1, l2, l3, l4, l5, l6, l7, l8, l9], z.1.toList ++ [], z.2) Q)) := t_cv (as := [.int i1, .int i2]) (r := []) k_11_35 rfl rfl (Nat.le_of_ble_eq_true rfl) (Nat.le_of_ble_eq_true rfl) (Nat.le_of_ble_eq_true rfl)
theorem k_11_38 : lk 11 38 = some (.ifCond .ne 50, 41, 88, 0, .null) := by decide +kernel
theorem x_11_38 : Tr sc d 11 (38, [l0, l1, l2, l3, l4, l5, l6, l7, l8, l9], [.int i0], h) Q = if i0 = 0 then Tr sc d 11 (41, [l0, l1, l2, l3, l4, l5, l6, l7, l8, l9], [], h) Q else Tr sc d 11 (88, [l0, l1, l2, l3, l4, l5, l6, l7, l8, l9], [], h) Q := t_if k_11_38 rfl
theorem k_11_41 : lk 11 41 = some (.aload_n 1, 42, 1, 0, .null) := by decide +kernel
theorem x_11_41 : Tr sc d 11 (41, [l0, some (.ref xk), l2, l3, l4, l5, l6, l7, l8, l9], [], h) Q = Tr sc d 11 (42, [l0, some (.ref xk), l2, l3, l4, l5, l6, l7, l8, l9], [.ref xk], h) Q := t_aload_n k_11_41 rfl
theorem k_11_42 : lk 11 42 = some (.iload 7, 44, 7, 0, .null) := by decide +kernel
theorem x_11_42 : Tr sc d 11 (42, [l0, l1, l2, l3, l4, l5, l6, some (.int x), l8, l9], [.ref k0], h) Q = Tr sc d 11 (44, [l0, l1, l2, l3, l4, l5, l6, some (.int x), l8, l9], [.int x, .ref k0], h) Q := t_iload k_11_42 rfl
theorem k_11_44 : lk 11 44 = some (.iload_n 3, 45, 3, 0, .null) := by decide +kernel
theorem x_11_44 : Tr sc d 11 (44, [l0, l1, l2, some (.int x), l4, l5, l6, l7, l8, l9], [.int i1, .ref k0], h) Q = Tr sc d 11 (45, [l0, l1, l2, some (.int x), l4, l5, l6, l7, l8, l9], [.int x, .int i1, .ref k0], h) Q := t_iload_n k_11_44 rfl
theorem k_11_45 : lk 11 45 = some (.iload 4, 47, 4, 0, .null) := by decide +kernel
theorem x_11_45 : Tr sc d 11 (45, [l0, l1, l2, l3, some (.int x), l5, l6, l7, l8, l9], [.int i2, .int i1, .ref k0], h) Q = Tr sc d 11 (47, [l0, l1, l2, l3, some (.int x), l5, l6, l7, l8, l9], [.int x, .int i2, .int i1, .ref k0], h) Q := t_iload k_11_45 rfl
theorem k_11_47 : lk 11 47 = some (.iload 6, 49, 6, 0, .null) := by decide +kernel
theorem x_11_47 : Tr sc d 11 (47, [l0, l1, l2, l3, l4, l5, some (.int x), l7, l8, l9], [.int i3, .int i2, .int i1, .ref k0], h) Q = Tr sc d 11 (49, [l0, l1, l2, l3, l4, l5, some (.int x), l7, l8, l9], [.int x, .int i3, .int i2, .int i1, .ref k0], h) Q := t_iload k_11_47 rfl
theorem k_11_49 : lk 11 49 = some (.invokevirtual 58, 52, 65, 4, .null) := by decide +kernel
theorem x_11_49 : Tr sc (d + 1) 11 (49, [l0, l1, l2, l3, l4, l5, l6, l7, l8, l9], [.int i4, .int i3, .int i2, .int i1, .ref k0], h) Q = (okp h k0 6 = true ∧ Tr sc d 65 (ent0 65 [.ref k0, .int i1, .int i2, .int i3, .int i4] h) (fun z => Tr sc (d + 1) 11 (52, [l0, l1, l2, l3, l4, l5, l6, l7, l8, l9], z.1.toList ++ [], z.2) Q)) := t_cv (as := [.int i1, .int i2, .int i3, .int i4]) (r := []) k_11_49 rfl rfl (Nat.le_of_ble_eq_true rfl) (Nat.le_of_ble_eq_true rfl) (Nat.le_of_ble_eq_true rfl)
theorem k_11_52 : lk 11 52 = some (.istore 8, 54, 8, 0, .null) := by decide +kernel
theorem x_11_52 : Tr sc d 11 (52, [l0, l1, l2, l3, l4, l5, l6, l7, l8, l9], [.int i0], h) Q = Tr sc d 11 (54, [l0, l1, l2, l3, l4, l5, l6, cl2 l7, some (.int i0), l9], [], h) Q := t_istore k_11_52 (Nat.le_of_ble_eq_true rfl)
theorem k_11_54 : lk 11 54 = some (.aload_n 1, 55, 1, 0, .null) := by decide +kernel
theorem x_11_54 : Tr sc d 11 (54, [l0, some (.ref xk), l2, l3, l4, l5, l6, l7, l8, l9], [], h) Q = Tr sc d 11 (55, [l0, some (.ref xk), l2, l3, l4, l5, l6, l7, l8, l9], [.ref xk], h) Q := t_aload_n k_11_54 rfl
theorem k_11_55 : lk 11 55 = some (.iload 7, 57, 7, 0, .null) := by decide +kernel
theorem x_11_55 : Tr sc d 11 (55, [l0, l1, l2, l3, l4, l5, l6, some (.int x), l8, l9], [.ref k0], h) Q = Tr sc d 11 (57, [l0, l1, l2, l3, l4, l5, l6, some (.int x), l8, l9], [.int x, .ref k0], h) Q := t_iload k_11_55 rfl
theorem k_11_57 : lk 11 57 = some (.iload_n 3, 58, 3, 0, .null) := by decide +kernel
theorem x_11_57 : Tr sc d 11 (57, [l0, l1, l2, some (.int x), l4, l5, l6, l7, l8, l9], [.int i1, .ref k0], h) Q = Tr sc d 11 (58, [l0, l1, l2, some (.int x), l4, l5, l6, l7, l8, l9], [.int x, .int i1, .ref k0], h) Q := t_iload_n k_11_57 rfl
theorem k_11_58 : lk 11 58 = some (.iload 4, 60, 4, 0, .null) := by decide +kernel
theorem x_11_58 : Tr sc d 11 (58, [l0, l1, l2, l3, some (.int x), l5, l6, l7, l8, l9], [.int i2, .int i1, .ref k0], h) Q = Tr sc d 11 (60, [l0, l1, l2, l3, some (.int x), l5, l6, l7, l8, l9], [.int x, .int i2, .int i1, .ref k0], h) Q := t_iload k_11_58 rfl
theorem k_11_60 : lk 11 60 = some (.iload 6, 62, 6, 0, .null) := by decide +kernel
theorem x_11_60 : Tr sc d 11 (60, [l0, l1, l2, l3, l4, l5, some (.int x), l7, l8, l9], [.int i3, .int i2, .int i1, .ref k0], h) Q = Tr sc d 11 (62, [l0, l1, l2, l3, l4, l5, some (.int x), l7, l8, l9], [.int x, .int i3, .int i2, .int i1, .ref k0], h) Q := t_iload k_11_60 rfl
theorem k_11_62 : lk 11 62 = some (.invokevirtual 62, 65, 66, 4, .null) := by decide +kernel
theorem x_11_62 : Tr sc (d + 1) 11 (62, [l0, l1, l2, l3, l4, l5, l6, l7, l8, l9], [.int i4, .int i3, .int i2, .int i1, .ref k0], h) Q = (okp h k0 6 = true ∧ Tr sc d 66 (ent0 66 [.ref k0, .int i1, .int i2, .int i3, .int i4] h) (fun z => Tr sc (d + 1) 11 (65, [l0, l1, l2, l3, l4, l5, l6, l7, l8, l9], z.1.toList ++ [], z.2) Q)) := t_cv (as := [.int i1, .int i2, .int i3, .int i4]) (r := []) k_11_62 rfl rfl (Nat.le_of_ble_eq_true rfl) (Nat.le_of_ble_eq_true rfl) (Nat.le_of_ble_eq_true rfl)
theorem k_11_65 : lk 11 65 = some (.istore 9, 67, 9, 0, .null) := by decide +kernel
theorem x_11_65 : Tr sc d 11 (65, [l0, l1, l2, l3, l4, l5, l6, l7, l8, l9], [.int i0], h) Q = Tr sc d 11 (67, [l0, l1, l2, l3, l4, l5, l6, l7, cl2 l8, some (.int i0)], [], h) Q := t_istore k_11_65 (Nat.le_of_ble_eq_true rfl)
theorem k_11_67 : lk 11 67 = some (.aload_n 0, 68, 0, 0, .null) := by decide +kernel
theorem x_11_67 : Tr sc d 11 (67, [some (.ref xk), l1, l2, l3, l4, l5, l6, l7, l8, l9], [], h) Q = Tr sc d 11 (68, [some (.ref xk), l1, l2, l3, l4, l5, l6, l7, l8, l9], [.ref xk], h) Q := t_aload_n k_11_67 rfl
theorem k_11_68 : lk 11 68 = some (.aload_n 1, 69, 1, 0, .null) := by decide +kernel
theorem x_11_68 : Tr sc d 11 (68, [l0, some (.ref xk), l2, l3, l4, l5, l6, l7, l8, l9], [.ref k0], h) Q = Tr sc d 11 (69, [l0, some (.ref xk), l2, l3, l4, l5, l6, l7, l8, l9], [.ref xk, .ref k0], h) Q := t_aload_n k_11_68 rfl
theorem k_11_69 : lk 11 69 = some (.iload_n 2, 70, 2, 0, .null) := by decide +kernel
theorem x_11_69 : Tr sc d 11 (69, [l0, l1, some (.int x), l3, l4, l5, l6, l7, l8, l9], [.ref k1, .ref k0], h) Q = Tr sc d 11 (70, [l0, l1, some (.int x), l3, l4, l5, l6, l7, l8, l9], [.int x, .ref k1, .ref k0], h) Q := t_iload_n k_11_69 rfl
theorem k_11_70 : lk 11 70 = some (.iconst 1, 71, 0, 0, .int 1) := by decide +kernel
theorem x_11_70 : Tr sc d 11 (70, [l0, l1, l2, l3, l4, l5, l6, l7, l8, l9], [.int i2, .ref k1, .ref k0], h) Q = Tr sc d 11 (71, [l0, l1, l2, l3, l4, l5, l6, l7, l8, l9], [.int 1, .int i2, .ref k1, .ref k0], h) Q := t_go k_11_70 rfl
theorem k_11_71 : lk 11 71 = some (.isub, 72, 0, 0, .null) := by decide +kernel
theorem x_11_71 : Tr sc d 11 (71, [l0, l1, l2, l3, l4, l5, l6, l7, l8, l9], [.int i3, .int i2, .ref k1, .ref k0], h) Q = Tr sc d 11 (72, [l0, l1, l2, l3, l4, l5, l6, l7, l8, l9], [.int (i2 - i3), .ref k1, .ref k0], h) Q := t_go k_11_71 rfl
theorem k_11_72 : lk 11 72 = some (.iload 8, 74, 8, 0, .null) := by decide +kernel
theorem x_11_72 : Tr sc d 11 (72, [l0, l1, l2, l3, l4, l5, l6, l7, some (.int x), l9], [.int i2, .ref k1, .ref k0], h) Q = Tr sc d 11 (74, [l0, l1, l2, l3, l4, l5, l6, l7, some (.int x), l9], [.int x, .int i2, .ref k1, .ref k0], h) Q := t_iload k_11_72 rfl
theorem k_11_74 : lk 11 74 = some (.iload 9, 76, 9, 0, .null) := by decide +kernel
theorem x_11_74 : Tr sc d 11 (74, [l0, l1, l2, l3, l4, l5, l6, l7, l8, some (.int x)], [.int i3, .int i2, .ref k1, .ref k0], h) Q = Tr sc d 11 (76, [l0, l1, l2, l3, l4, l5, l6, l7, l8, some (.int x)], [.int x, .int i3, .int i2, .ref k1, .ref k0], h) Q := t_iload k_11_74 rfl
theorem k_11_76 : lk 11 76 = some (.iload 7, 78, 7, 0, .null) := by decide +kernel
theorem x_11_76 : Tr sc d 11 (76, [l0, l1, l2, l3, l4, l5, l6, some (.int x), l8, l9], [.int i4, .int i3, .int i2, .ref k1, .ref k0], h) Q = Tr sc d 11 (78, [l0, l1, l2, l3, l4, l5, l6, some (.int x), l8, l9], [.int x, .int i4, .int i3, .int i2, .ref k1, .ref k0], h) Q := t_iload k_11_76 rfl
theorem k_11_78 : lk 11 78 = some (.iload 6, 80, 6, 0, .null) := by decide +kernel
theorem x_11_78 : Tr sc d 11 (78, [l0, l1, l2, l3, l4, l5, some (.int x), l7, l8, l9], [.int i5, .int i4, .int i3, .int i2, .ref k1, .ref k0], h) Q = Tr sc d 11 (80, [l0, l1, l2, l3, l4, l5, some (.int x), l7, l8, l9], [.int x, .int i5, .int i4, .int i3, .int i2, .ref k1, .ref k0], h) Q := t_iload k_11_78 rfl
theorem k_11_80 : lk 11 80 = some (.aload_n 1, 81, 1, 0, .null) := by decide +kernel
theorem x_11_80 : Tr sc d 11 (80, [l0, some (.ref xk), l2, l3, l4, l5, l6, l7, l8, l9], [.int i6, .int i5, .int i4, .int i3, .int i2, .ref k1, .ref k0], h) Q = Tr sc d 11 (81, [l0, some (.ref xk), l2, l3, l4, l5, l6, l7, l8, l9], [.ref xk, .int i6, .int i5, .int i4, .int i3, .int i2, .ref k1, .ref k0], h) Q := t_aload_n k_11_80 rfl
theorem k_11_81 : lk 11 81 = some (.getfield 65, 84, 6, 7, .int 0) := by decide +kernel
theorem x_11_81 : Tr sc d 11 (81, [l0, l1, l2, l3, l4, l5, l6, l7, l8, l9], [.ref k7, .int i6, .int i5, .int i4, .int i3, .int i2, .ref k1, .ref k0], h) Q = (okp h k7 6 = true ∧ Tr sc d 11 (84, [l0, l1, l2, l3, l4, l5, l6, l7, l8, l9], [.int (hI h k7 7), .int i6, .int i5, .int i4, .int i3, .int i2, .ref k1, .ref k0], h) Q) := t_gd k_11_81 rfl
theorem k_11_84 : lk 11 84 = some (.imul, 85, 0, 0, .null) := by decide +kernel
theorem x_11_84 : Tr sc d 11 (84, [l0, l1, l2, l3, l4, l5, l6, l7, l8, l9], [.int i7, .int i6, .int i5, .int i4, .int i3, .int i2, .ref k1, .ref k0], h) Q = Tr sc d 11 (85, [l0, l1, l2, l3, l4, l5, l6, l7, l8, l9], [.int (i6 * i7), .int i5, .int i4, .int i3, .int i2, .ref k1, .ref k0], h) Q := t_go k_11_84 rfl
theorem k_11_85 : lk 11 85 = some (.invokevirtual 46, 88, 11, 6, .null) := by decide +kernel
theorem x_11_85 : Tr sc (d + 1) 11 (85, [l0, l1, l2, l3, l4, l5, l6, l7, l8, l9], [.int i6, .int i5, .int i4, .int i3, .int i2, .ref k1, .ref k0], h) Q = (okp h k0 1 = true ∧ Tr sc d 11 (ent0 11 [.ref k0, .ref k1, .int i2, .int i3, .int i4, .int i5, .int i6] h) (fun z => Tr sc (d + 1) 11 (88, [l0, l1, l2, l3, l4, l5, l6, l7, l8, l9], z.1.toList ++ [], z.2) Q)) := t_cv (as := [.ref k1, .int i2, .int i3, .int i4, .int i5, .int i6]) (r := []) k_11_85 rfl rfl (Nat.le_of_ble_eq_true rfl) (Nat.le_of_ble_eq_true rfl) (Nat.le_of_ble_eq_true rfl)
theorem k_11_88 : lk 11 88 = some (.iinc 7 1, 91, 7, 0, .int 1) := by decide +kernel
theorem x_11_88 : Tr sc d 11 (88, [l0, l1, l2, l3, l4, l5, l6, some (.int x), l8, l9], [], h) Q = Tr sc d 11 (91, [l0, l1, l2, l3, l4, l5, cl2 l6, some (.int (x + 1)), l8, l9], [], h) Q := t_inc k_11_88 rfl (Nat.le_of_ble_eq_true rfl)
theorem k_11_91 : lk 11 91 = some (.goto (-76), 94, 15, 0, .null) := by decide +kernel
theorem x_11_91 : Tr sc d 11 (91, [l0, l1, l2, l3, l4, l5, l6, l7, l8, l9], [], h) Q = Tr sc d 11 (15, [l0, l1, l2, l3, l4, l5, l6, l7, l8, l9], [], h) Q := t_go k_11_91 rfl
theorem k_11_94 : lk 11 94 = some (.return_, 95, 0, 0, .null) := by decide +kernel
theorem x_11_94 : Tr sc d 11 (94, [l0, l1, l2, l3, l4, l5, l6, l7, l8, l9], [], h) Q = Q (none, h) := t_ret k_11_94 (by rw [r_11]; rfl)
theorem e_11 : Tr sc d 11 (ent0 11 [.ref k0, .ref k1, .int i2, .int i3, .int i4, .int i5, .int i6] h) Q = Tr sc d 11 (0, [some (.ref k0), some (.ref k1), some (.int i2), some (.int i3), some (.int i4), some (.int i5), some (.int i6), none, none, none], [], h) Q := by
  have e : mL 11 = 10 := by decide +kernel
  unfold ent0
  rw [e]
  rfl
theorem r_12 : mR 12 = some .boolean := by decide +kernel
theorem k_12_0 : lk 12 0 = some (.iload_n 0, 1, 0, 0, .null) := by decide +kernel
theorem x_12_0 : Tr sc d 12 (0, [some (.int x), l1], [], h) Q = Tr sc d 12 (1, [some (.int x), l1], [.int x], h) Q := t_iload_n k_12_0 rfl
theorem k_12_1 : lk 12 1 = some (.sipush (-4096), 4, 0, 0, .int (-4096)) := by decide +kernel
theorem x_12_1 : Tr sc d 12 (1, [l0, l1], [.int i0], h) Q = Tr sc d 12 (4, [l0, l1], [.int (-4096), .int i0], h) Q := t_go k_12_1 rfl
theorem k_12_4 : lk 12 4 = some (.if_icmp .lt 28, 7, 32, 0, .null) := by decide +kernel
theorem x_12_4 : Tr sc d 12 (4, [l0, l1], [.int i1, .int i0], h) Q = if i0 < i1 then Tr sc d 12 (32, [l0, l1], [], h) Q else Tr sc d 12 (7, [l0, l1], [], h) Q := t_if k_12_4 rfl
theorem k_12_7 : lk 12 7 = some (.iload_n 0, 8, 0, 0, .null) := by decide +kernel
theorem x_12_7 : Tr sc d 12 (7, [some (.int x), l1], [], h) Q = Tr sc d 12 (8, [some (.int x), l1], [.int x], h) Q := t_iload_n k_12_7 rfl
theorem k_12_8 : lk 12 8 = some (.sipush 4096, 11, 0, 0, .int 4096) := by decide +kernel
theorem x_12_8 : Tr sc d 12 (8, [l0, l1], [.int i0], h) Q = Tr sc d 12 (11, [l0, l1], [.int 4096, .int i0], h) Q := t_go k_12_8 rfl
theorem k_12_11 : lk 12 11 = some (.if_icmp .ge 21, 14, 32, 0, .null) := by decide +kernel
theorem x_12_11 : Tr sc d 12 (11, [l0, l1], [.int i1, .int i0], h) Q = if i1 ≤ i0 then Tr sc d 12 (32, [l0, l1], [], h) Q else Tr sc d 12 (14, [l0, l1], [], h) Q := t_if k_12_11 rfl
theorem k_12_14 : lk 12 14 = some (.iload_n 1, 15, 1, 0, .null) := by decide +kernel
theorem x_12_14 : Tr sc d 12 (14, [l0, some (.int x)], [], h) Q = Tr sc d 12 (15, [l0, some (.int x)], [.int x], h) Q := t_iload_n k_12_14 rfl
theorem k_12_15 : lk 12 15 = some (.sipush (-4096), 18, 0, 0, .int (-4096)) := by decide +kernel
theorem x_12_15 : Tr sc d 12 (15, [l0, l1], [.int i0], h) Q = Tr sc d 12 (18, [l0, l1], [.int (-4096), .int i0], h) Q := t_go k_12_15 rfl
theorem k_12_18 : lk 12 18 = some (.if_icmp .lt 14, 21, 32, 0, .null) := by decide +kernel
theorem x_12_18 : Tr sc d 12 (18, [l0, l1], [.int i1, .int i0], h) Q = if i0 < i1 then Tr sc d 12 (32, [l0, l1], [], h) Q else Tr sc d 12 (21, [l0, l1], [], h) Q := t_if k_12_18 rfl
theorem k_12_21 : lk 12 21 = some (.iload_n 1, 22, 1, 0, .null) := by decide +kernel
theorem x_12_21 : Tr sc d 12 (21, [l0, some (.int x)], [], h) Q = Tr sc d 12 (22, [l0, some (.int x)], [.int x], h) Q := t_iload_n k_12_21 rfl
theorem k_12_22 : lk 12 22 = some (.sipush 4096, 25, 0, 0, .int 4096) := by decide +kernel
theorem x_12_22 : Tr sc d 12 (22, [l0, l1], [.int i0], h) Q = Tr sc d 12 (25, [l0, l1], [.int 4096, .int i0], h) Q := t_go k_12_22 rfl
theorem k_12_25 : lk 12 25 = some (.if_icmp .ge 7, 28, 32, 0, .null) := by decide +kernel
theorem x_12_25 : Tr sc d 12 (25, [l0, l1], [.int i1, .int i0], h) Q = if i1 ≤ i0 then Tr sc d 12 (32, [l0, l1], [], h) Q else Tr sc d 12 (28, [l0, l1], [], h) Q := t_if k_12_25 rfl
theorem k_12_28 : lk 12 28 = some (.iconst 1, 29, 0, 0, .int 1) := by decide +kernel
theorem x_12_28 : Tr sc d 12 (28, [l0, l1], [], h) Q = Tr sc d 12 (29, [l0, l1], [.int 1], h) Q := t_go k_12_28 rfl
theorem k_12_29 : lk 12 29 = some (.goto 4, 32, 33, 0, .null) := by decide +kernel
theorem x_12_29 : Tr sc d 12 (29, [l0, l1], [.int i0], h) Q = Tr sc d 12 (33, [l0, l1], [.int i0], h) Q := t_go k_12_29 rfl
theorem k_12_32 : lk 12 32 = some (.iconst 0, 33, 0, 0, .int 0) := by decide +kernel
theorem x_12_32 : Tr sc d 12 (32, [l0, l1], [], h) Q = Tr sc d 12 (33, [l0, l1], [.int 0], h) Q := t_go k_12_32 rfl
theorem k_12_33 : lk 12 33 = some (.ireturn, 34, 0, 0, .null) := by decide +kernel
theorem x_12_33 : Tr sc d 12 (33, [l0, l1], [.int i0], h) Q = (vp_nar .boolean i0 = i0 ∧ Q (some (.int i0), h)) := t_zret k_12_33 r_12
theorem e_12 : Tr sc d 12 (ent0 12 [.int i0, .int i1] h) Q = Tr sc d 12 (0, [some (.int i0), some (.int i1)], [], h) Q := by
  have e : mL 12 = 2 := by decide +kernel
  unfold ent0
  rw [e]
  rfl
theorem r_13 : mR 13 = some .int := by decide +kernel
theorem k_13_0 : lk 13 0 = some (.iload_n 0, 1, 0, 0, .null) := by decide +kernel
theorem x_13_0 : Tr sc d 13 (0, [some (.int x), l1], [], h) Q = Tr sc d 13 (1, [some (.int x), l1], [.int x], h) Q := t_iload_n k_13_0 rfl
theorem k_13_1 : lk 13 1 = some (.sipush 4096, 4, 0, 0, .int 4096) := by decide +kernel
theorem x_13_1 : Tr sc d 13 (1, [l0, l1], [.int i0], h) Q = Tr sc d 13 (4, [l0, l1], [.int 4096, .int i0], h) Q := t_go k_13_1 rfl
theorem k_13_4 : lk 13 4 = some (.iadd, 5, 0, 0, .null) := by decide +kernel
theorem x_13_4 : Tr sc d 13 (4, [l0, l1], [.int i1, .int i0], h) Q = Tr sc d 13 (5, [l0, l1], [.int (i0 + i1)], h) Q := t_go k_13_4 rfl
theorem k_13_5 : lk 13 5 = some (.iconst 2, 6, 0, 0, .int 2) := by decide +kernel
theorem x_13_5 : Tr sc d 13 (5, [l0, l1], [.int i0], h) Q = Tr sc d 13 (6, [l0, l1], [.int 2, .int i0], h) Q := t_go k_13_5 rfl
theorem k_13_6 : lk 13 6 = some (.imul, 7, 0, 0, .null) := by decide +kernel
theorem x_13_6 : Tr sc d 13 (6, [l0, l1], [.int i1, .int i0], h) Q = Tr sc d 13 (7, [l0, l1], [.int (i0 * i1)], h) Q := t_go k_13_6 rfl
theorem k_13_7 : lk 13 7 = some (.sipush 4096, 10, 0, 0, .int 4096) := by decide +kernel
theorem x_13_7 : Tr sc d 13 (7, [l0, l1], [.int i0], h) Q = Tr sc d 13 (10, [l0, l1], [.int 4096, .int i0], h) Q := t_go k_13_7 rfl
theorem k_13_10 : lk 13 10 = some (.imul, 11, 0, 0, .null) := by decide +kernel
theorem x_13_10 : Tr sc d 13 (10, [l0, l1], [.int i1, .int i0], h) Q = Tr sc d 13 (11, [l0, l1], [.int (i0 * i1)], h) Q := t_go k_13_10 rfl
theorem k_13_11 : lk 13 11 = some (.iload_n 1, 12, 1, 0, .null) := by decide +kernel
theorem x_13_11 : Tr sc d 13 (11, [l0, some (.int x)], [.int i0], h) Q = Tr sc d 13 (12, [l0, some (.int x)], [.int x, .int i0], h) Q := t_iload_n k_13_11 rfl
theorem k_13_12 : lk 13 12 = some (.iadd, 13, 0, 0, .null) := by decide +kernel
theorem x_13_12 : Tr sc d 13 (12, [l0, l1], [.int i1, .int i0], h) Q = Tr sc d 13 (13, [l0, l1], [.int (i0 + i1)], h) Q := t_go k_13_12 rfl
theorem k_13_13 : lk 13 13 = some (.sipush 4096, 16, 0, 0, .int 4096) := by decide +kernel
theorem x_13_13 : Tr sc d 13 (13, [l0, l1], [.int i0], h) Q = Tr sc d 13 (16, [l0, l1], [.int 4096, .int i0], h) Q := t_go k_13_13 rfl
theorem k_13_16 : lk 13 16 = some (.iadd, 17, 0, 0, .null) := by decide +kernel
theorem x_13_16 : Tr sc d 13 (16, [l0, l1], [.int i1, .int i0], h) Q = Tr sc d 13 (17, [l0, l1], [.int (i0 + i1)], h) Q := t_go k_13_16 rfl
theorem k_13_17 : lk 13 17 = some (.ireturn, 18, 0, 0, .null) := by decide +kernel
theorem x_13_17 : Tr sc d 13 (17, [l0, l1], [.int i0], h) Q = Q (some (.int i0), h) := t_ret k_13_17 (by rw [r_13]; rfl)
theorem e_13 : Tr sc d 13 (ent0 13 [.int i0, .int i1] h) Q = Tr sc d 13 (0, [some (.int i0), some (.int i1)], [], h) Q := by
  have e : mL 13 = 2 := by decide +kernel
  unfold ent0
  rw [e]
  rfl
theorem r_14 : mR 14 = some .int := by decide +kernel
theorem k_14_0 : lk 14 0 = some (.aload_n 0, 1, 0, 0, .null) := by decide +kernel
theorem x_14_0 : Tr sc d 14 (0, [some (.ref xk), l1], [], h) Q = Tr sc d 14 (1, [some (.ref xk), l1], [.ref xk], h) Q := t_aload_n k_14_0 rfl
theorem k_14_1 : lk 14 1 = some (.getfield 21, 4, 1, 0, .null) := by decide +kernel
theorem x_14_1 : Tr sc d 14 (1, [l0, l1], [.ref k0], h) Q = (okp h k0 1 = true ∧ ∃ q, hR h k0 0 = some q ∧ Tr sc d 14 (4, [l0, l1], [.ref q], h) Q) := t_getr k_14_1
theorem k_14_4 : lk 14 4 = some (.iload_n 1, 5, 1, 0, .null) := by decide +kernel
theorem x_14_4 : Tr sc d 14 (4, [l0, some (.int x)], [.ref k0], h) Q = Tr sc d 14 (5, [l0, some (.int x)], [.int x, .ref k0], h) Q := t_iload_n k_14_4 rfl
theorem k_14_5 : lk 14 5 = some (.iaload, 6, 0, 0, .null) := by decide +kernel
theorem x_14_5 : Tr sc d 14 (5, [l0, l1], [.int i1, .ref k0], h) Q = (iOk sc h k0 i1 ∧ Tr sc d 14 (6, [l0, l1], [.int (iRd sc h k0 i1)], h) Q) := t_iald k_14_5
theorem k_14_6 : lk 14 6 = some (.sipush 8192, 9, 0, 0, .int 8192) := by decide +kernel
theorem x_14_6 : Tr sc d 14 (6, [l0, l1], [.int i0], h) Q = Tr sc d 14 (9, [l0, l1], [.int 8192, .int i0], h) Q := t_go k_14_6 rfl
theorem k_14_9 : lk 14 9 = some (.idiv, 10, 0, 0, .null) := by decide +kernel
theorem x_14_9 : Tr sc d 14 (9, [l0, l1], [.int i1, .int i0], h) Q = (¬ i1 = 0 ∧ Tr sc d 14 (10, [l0, l1], [.int (i0 / i1)], h) Q) := t_ng k_14_9 rfl
theorem k_14_10 : lk 14 10 = some (.sipush 4096, 13, 0, 0, .int 4096) := by decide +kernel
theorem x_14_10 : Tr sc d 14 (10, [l0, l1], [.int i0], h) Q = Tr sc d 14 (13, [l0, l1], [.int 4096, .int i0], h) Q := t_go k_14_10 rfl
theorem k_14_13 : lk 14 13 = some (.isub, 14, 0, 0, .null) := by decide +kernel
theorem x_14_13 : Tr sc d 14 (13, [l0, l1], [.int i1, .int i0], h) Q = Tr sc d 14 (14, [l0, l1], [.int (i0 - i1)], h) Q := t_go k_14_13 rfl
theorem k_14_14 : lk 14 14 = some (.ireturn, 15, 0, 0, .null) := by decide +kernel
theorem x_14_14 : Tr sc d 14 (14, [l0, l1], [.int i0], h) Q = Q (some (.int i0), h) := t_ret k_14_14 (by rw [r_14]; rfl)
theorem e_14 : Tr sc d 14 (ent0 14 [.ref k0, .int i1] h) Q = Tr sc d 14 (0, [some (.ref k0), some (.int i1)], [], h) Q := by
  have e : mL 14 = 2 := by decide +kernel
  unfold ent0
  rw [e]
  rfl
theorem r_15 : mR 15 = some .int := by decide +kernel
theorem k_15_0 : lk 15 0 = some (.aload_n 0, 1, 0, 0, .null) := by decide +kernel
theorem x_15_0 : Tr sc d 15 (0, [some (.ref xk), l1], [], h) Q = Tr sc d 15 (1, [some (.ref xk), l1], [.ref xk], h) Q := t_aload_n k_15_0 rfl
theorem k_15_1 : lk 15 1 = some (.getfield 21, 4, 1, 0, .null) := by decide +kernel
theorem x_15_1 : Tr sc d 15 (1, [l0, l1], [.ref k0], h) Q = (okp h k0 1 = true ∧ ∃ q, hR h k0 0 = some q ∧ Tr sc d 15 (4, [l0, l1], [.ref q], h) Q) := t_getr k_15_1
theorem k_15_4 : lk 15 4 = some (.iload_n 1, 5, 1, 0, .null) := by decide +kernel
theorem x_15_4 : Tr sc d 15 (4, [l0, some (.int x)], [.ref k0], h) Q = Tr sc d 15 (5, [l0, some (.int x)], [.int x, .ref k0], h) Q := t_iload_n k_15_4 rfl
theorem k_15_5 : lk 15 5 = some (.iaload, 6, 0, 0, .null) := by decide +kernel
theorem x_15_5 : Tr sc d 15 (5, [l0, l1], [.int i1, .ref k0], h) Q = (iOk sc h k0 i1 ∧ Tr sc d 15 (6, [l0, l1], [.int (iRd sc h k0 i1)], h) Q) := t_iald k_15_5
theorem k_15_6 : lk 15 6 = some (.sipush 8192, 9, 0, 0, .int 8192) := by decide +kernel
theorem x_15_6 : Tr sc d 15 (6, [l0, l1], [.int i0], h) Q = Tr sc d 15 (9, [l0, l1], [.int 8192, .int i0], h) Q := t_go k_15_6 rfl
theorem k_15_9 : lk 15 9 = some (.irem, 10, 0, 0, .null) := by decide +kernel
theorem x_15_9 : Tr sc d 15 (9, [l0, l1], [.int i1, .int i0], h) Q = (¬ i1 = 0 ∧ Tr sc d 15 (10, [l0, l1], [.int (i0 - i0 / i1 * i1)], h) Q) := t_ng k_15_9 rfl
theorem k_15_10 : lk 15 10 = some (.sipush 4096, 13, 0, 0, .int 4096) := by decide +kernel
theorem x_15_10 : Tr sc d 15 (10, [l0, l1], [.int i0], h) Q = Tr sc d 15 (13, [l0, l1], [.int 4096, .int i0], h) Q := t_go k_15_10 rfl
theorem k_15_13 : lk 15 13 = some (.isub, 14, 0, 0, .null) := by decide +kernel
theorem x_15_13 : Tr sc d 15 (13, [l0, l1], [.int i1, .int i0], h) Q = Tr sc d 15 (14, [l0, l1], [.int (i0 - i1)], h) Q := t_go k_15_13 rfl
theorem k_15_14 : lk 15 14 = some (.ireturn, 15, 0, 0, .null) := by decide +kernel
theorem x_15_14 : Tr sc d 15 (14, [l0, l1], [.int i0], h) Q = Q (some (.int i0), h) := t_ret k_15_14 (by rw [r_15]; rfl)
theorem e_15 : Tr sc d 15 (ent0 15 [.ref k0, .int i1] h) Q = Tr sc d 15 (0, [some (.ref k0), some (.int i1)], [], h) Q := by
  have e : mL 15 = 2 := by decide +kernel
  unfold ent0
  rw [e]
  rfl
theorem r_16 : mR 16 = some .int := by decide +kernel
theorem k_16_0 : lk 16 0 = some (.iload_n 1, 1, 1, 0, .null) := by decide +kernel
theorem x_16_0 : Tr sc d 16 (0, [l0, some (.int x), l2, l3], [], h) Q = Tr sc d 16 (1, [l0, some (.int x), l2, l3], [.int x], h) Q := t_iload_n k_16_0 rfl
theorem k_16_1 : lk 16 1 = some (.ldc 68, 3, 0, 871, .int (-1640531527)) := by decide +kernel
theorem x_16_1 : Tr sc d 16 (1, [l0, l1, l2, l3], [.int i0], h) Q = Tr sc d 16 (3, [l0, l1, l2, l3], [.int (-1640531527), .int i0], h) Q := t_go k_16_1 rfl
theorem k_16_3 : lk 16 3 = some (.imul, 4, 0, 0, .null) := by decide +kernel
theorem x_16_3 : Tr sc d 16 (3, [l0, l1, l2, l3], [.int i1, .int i0], h) Q = Tr sc d 16 (4, [l0, l1, l2, l3], [.int (i0 * i1)], h) Q := t_go k_16_3 rfl
theorem k_16_4 : lk 16 4 = some (.bipush 17, 6, 0, 0, .int 17) := by decide +kernel
theorem x_16_4 : Tr sc d 16 (4, [l0, l1, l2, l3], [.int i0], h) Q = Tr sc d 16 (6, [l0, l1, l2, l3], [.int 17, .int i0], h) Q := t_go k_16_4 rfl
theorem k_16_6 : lk 16 6 = some (.iushr, 7, 0, 0, .null) := by decide +kernel
theorem x_16_6 : Tr sc d 16 (6, [l0, l1, l2, l3], [.int i1, .int i0], h) Q = Tr sc d 16 (7, [l0, l1, l2, l3], [.int ((i0.toUInt32 >>> (i1.toUInt32 &&& Int32.toUInt32 31)).toInt32)], h) Q := t_go k_16_6 rfl
theorem k_16_7 : lk 16 7 = some (.aload_n 0, 8, 0, 0, .null) := by decide +kernel
theorem x_16_7 : Tr sc d 16 (7, [some (.ref xk), l1, l2, l3], [.int i0], h) Q = Tr sc d 16 (8, [some (.ref xk), l1, l2, l3], [.ref xk, .int i0], h) Q := t_aload_n k_16_7 rfl
theorem k_16_8 : lk 16 8 = some (.getfield 9, 11, 1, 3, .int 0) := by decide +kernel
theorem x_16_8 : Tr sc d 16 (8, [l0, l1, l2, l3], [.ref k1, .int i0], h) Q = (okp h k1 1 = true ∧ Tr sc d 16 (11, [l0, l1, l2, l3], [.int (hI h k1 3), .int i0], h) Q) := t_gd k_16_8 rfl
theorem k_16_11 : lk 16 11 = some (.iand, 12, 0, 0, .null) := by decide +kernel
theorem x_16_11 : Tr sc d 16 (11, [l0, l1, l2, l3], [.int i1, .int i0], h) Q = Tr sc d 16 (12, [l0, l1, l2, l3], [.int (i0 &&& i1)], h) Q := t_go k_16_11 rfl
theorem k_16_12 : lk 16 12 = some (.istore_n 2, 13, 2, 0, .null) := by decide +kernel
theorem x_16_12 : Tr sc d 16 (12, [l0, l1, l2, l3], [.int i0], h) Q = Tr sc d 16 (13, [l0, cl2 l1, some (.int i0), l3], [], h) Q := t_istore_n k_16_12 (Nat.le_of_ble_eq_true rfl)
theorem k_16_13 : lk 16 13 = some (.iconst 0, 14, 0, 0, .int 0) := by decide +kernel
theorem x_16_13 : Tr sc d 16 (13, [l0, l1, l2, l3], [], h) Q = Tr sc d 16 (14, [l0, l1, l2, l3], [.int 0], h) Q := t_go k_16_13 rfl
theorem k_16_14 : lk 16 14 = some (.istore_n 3, 15, 3, 0, .null) := by decide +kernel
theorem x_16_14 : Tr sc d 16 (14, [l0, l1, l2, l3], [.int i0], h) Q = Tr sc d 16 (15, [l0, l1, cl2 l2, some (.int i0)], [], h) Q := t_istore_n k_16_14 (Nat.le_of_ble_eq_true rfl)
theorem k_16_15 : lk 16 15 = some (.iload_n 3, 16, 3, 0, .null) := by decide +kernel
theorem x_16_15 : Tr sc d 16 (15, [l0, l1, l2, some (.int x)], [], h) Q = Tr sc d 16 (16, [l0, l1, l2, some (.int x)], [.int x], h) Q := t_iload_n k_16_15 rfl
theorem k_16_16 : lk 16 16 = some (.aload_n 0, 17, 0, 0, .null) := by decide +kernel
theorem x_16_16 : Tr sc d 16 (16, [some (.ref xk), l1, l2, l3], [.int i0], h) Q = Tr sc d 16 (17, [some (.ref xk), l1, l2, l3], [.ref xk, .int i0], h) Q := t_aload_n k_16_16 rfl
theorem k_16_17 : lk 16 17 = some (.getfield 9, 20, 1, 3, .int 0) := by decide +kernel
theorem x_16_17 : Tr sc d 16 (17, [l0, l1, l2, l3], [.ref k1, .int i0], h) Q = (okp h k1 1 = true ∧ Tr sc d 16 (20, [l0, l1, l2, l3], [.int (hI h k1 3), .int i0], h) Q) := t_gd k_16_17 rfl
theorem k_16_20 : lk 16 20 = some (.if_icmp .gt 44, 23, 64, 0, .null) := by decide +kernel
theorem x_16_20 : Tr sc d 16 (20, [l0, l1, l2, l3], [.int i1, .int i0], h) Q = if i1 < i0 then Tr sc d 16 (64, [l0, l1, l2, l3], [], h) Q else Tr sc d 16 (23, [l0, l1, l2, l3], [], h) Q := t_if k_16_20 rfl
theorem k_16_23 : lk 16 23 = some (.aload_n 0, 24, 0, 0, .null) := by decide +kernel
theorem x_16_23 : Tr sc d 16 (23, [some (.ref xk), l1, l2, l3], [], h) Q = Tr sc d 16 (24, [some (.ref xk), l1, l2, l3], [.ref xk], h) Q := t_aload_n k_16_23 rfl
theorem k_16_24 : lk 16 24 = some (.getfield 28, 27, 1, 2, .null) := by decide +kernel
theorem x_16_24 : Tr sc d 16 (24, [l0, l1, l2, l3], [.ref k0], h) Q = (okp h k0 1 = true ∧ ∃ q, hR h k0 2 = some q ∧ Tr sc d 16 (27, [l0, l1, l2, l3], [.ref q], h) Q) := t_getr k_16_24
theorem k_16_27 : lk 16 27 = some (.iload_n 2, 28, 2, 0, .null) := by decide +kernel
theorem x_16_27 : Tr sc d 16 (27, [l0, l1, some (.int x), l3], [.ref k0], h) Q = Tr sc d 16 (28, [l0, l1, some (.int x), l3], [.int x, .ref k0], h) Q := t_iload_n k_16_27 rfl
theorem k_16_28 : lk 16 28 = some (.iaload, 29, 0, 0, .null) := by decide +kernel
theorem x_16_28 : Tr sc d 16 (28, [l0, l1, l2, l3], [.int i1, .ref k0], h) Q = (iOk sc h k0 i1 ∧ Tr sc d 16 (29, [l0, l1, l2, l3], [.int (iRd sc h k0 i1)], h) Q) := t_iald k_16_28
theorem k_16_29 : lk 16 29 = some (.ifCond .eq 35, 32, 64, 0, .null) := by decide +kernel
theorem x_16_29 : Tr sc d 16 (29, [l0, l1, l2, l3], [.int i0], h) Q = if i0 = 0 then Tr sc d 16 (64, [l0, l1, l2, l3], [], h) Q else Tr sc d 16 (32, [l0, l1, l2, l3], [], h) Q := t_if k_16_29 rfl
theorem k_16_32 : lk 16 32 = some (.aload_n 0, 33, 0, 0, .null) := by decide +kernel
theorem x_16_32 : Tr sc d 16 (32, [some (.ref xk), l1, l2, l3], [], h) Q = Tr sc d 16 (33, [some (.ref xk), l1, l2, l3], [.ref xk], h) Q := t_aload_n k_16_32 rfl
theorem k_16_33 : lk 16 33 = some (.getfield 21, 36, 1, 0, .null) := by decide +kernel
theorem x_16_33 : Tr sc d 16 (33, [l0, l1, l2, l3], [.ref k0], h) Q = (okp h k0 1 = true ∧ ∃ q, hR h k0 0 = some q ∧ Tr sc d 16 (36, [l0, l1, l2, l3], [.ref q], h) Q) := t_getr k_16_33
theorem k_16_36 : lk 16 36 = some (.aload_n 0, 37, 0, 0, .null) := by decide +kernel
theorem x_16_36 : Tr sc d 16 (36, [some (.ref xk), l1, l2, l3], [.ref k0], h) Q = Tr sc d 16 (37, [some (.ref xk), l1, l2, l3], [.ref xk, .ref k0], h) Q := t_aload_n k_16_36 rfl
theorem k_16_37 : lk 16 37 = some (.getfield 28, 40, 1, 2, .null) := by decide +kernel
theorem x_16_37 : Tr sc d 16 (37, [l0, l1, l2, l3], [.ref k1, .ref k0], h) Q = (okp h k1 1 = true ∧ ∃ q, hR h k1 2 = some q ∧ Tr sc d 16 (40, [l0, l1, l2, l3], [.ref q, .ref k0], h) Q) := t_getr k_16_37
theorem k_16_40 : lk 16 40 = some (.iload_n 2, 41, 2, 0, .null) := by decide +kernel
theorem x_16_40 : Tr sc d 16 (40, [l0, l1, some (.int x), l3], [.ref k1, .ref k0], h) Q = Tr sc d 16 (41, [l0, l1, some (.int x), l3], [.int x, .ref k1, .ref k0], h) Q := t_iload_n k_16_40 rfl
theorem k_16_41 : lk 16 41 = some (.iaload, 42, 0, 0, .null) := by decide +kernel
theorem x_16_41 : Tr sc d 16 (41, [l0, l1, l2, l3], [.int i2, .ref k1, .ref k0], h) Q = (iOk sc h k1 i2 ∧ Tr sc d 16 (42, [l0, l1, l2, l3], [.int (iRd sc h k1 i2), .ref k0], h) Q) := t_iald k_16_41
theorem k_16_42 : lk 16 42 = some (.iconst 1, 43, 0, 0, .int 1) := by decide +kernel
theorem x_16_42 : Tr sc d 16 (42, [l0, l1, l2, l3], [.int i1, .ref k0], h) Q = Tr sc d 16 (43, [l0, l1, l2, l3], [.int 1, .int i1, .ref k0], h) Q := t_go k_16_42 rfl
theorem k_16_43 : lk 16 43 = some (.isub, 44, 0, 0, .null) := by decide +kernel
theorem x_16_43 : Tr sc d 16 (43, [l0, l1, l2, l3], [.int i2, .int i1, .ref k0], h) Q = Tr sc d 16 (44, [l0, l1, l2, l3], [.int (i1 - i2), .ref k0], h) Q := t_go k_16_43 rfl
theorem k_16_44 : lk 16 44 = some (.iaload, 45, 0, 0, .null) := by decide +kernel
theorem x_16_44 : Tr sc d 16 (44, [l0, l1, l2, l3], [.int i1, .ref k0], h) Q = (iOk sc h k0 i1 ∧ Tr sc d 16 (45, [l0, l1, l2, l3], [.int (iRd sc h k0 i1)], h) Q) := t_iald k_16_44
theorem k_16_45 : lk 16 45 = some (.iload_n 1, 46, 1, 0, .null) := by decide +kernel
theorem x_16_45 : Tr sc d 16 (45, [l0, some (.int x), l2, l3], [.int i0], h) Q = Tr sc d 16 (46, [l0, some (.int x), l2, l3], [.int x, .int i0], h) Q := t_iload_n k_16_45 rfl
theorem k_16_46 : lk 16 46 = some (.if_icmp .eq 18, 49, 64, 0, .null) := by decide +kernel
theorem x_16_46 : Tr sc d 16 (46, [l0, l1, l2, l3], [.int i1, .int i0], h) Q = if i0 = i1 then Tr sc d 16 (64, [l0, l1, l2, l3], [], h) Q else Tr sc d 16 (49, [l0, l1, l2, l3], [], h) Q := t_if k_16_46 rfl
theorem k_16_49 : lk 16 49 = some (.iload_n 2, 50, 2, 0, .null) := by decide +kernel
theorem x_16_49 : Tr sc d 16 (49, [l0, l1, some (.int x), l3], [], h) Q = Tr sc d 16 (50, [l0, l1, some (.int x), l3], [.int x], h) Q := t_iload_n k_16_49 rfl
theorem k_16_50 : lk 16 50 = some (.iconst 1, 51, 0, 0, .int 1) := by decide +kernel
theorem x_16_50 : Tr sc d 16 (50, [l0, l1, l2, l3], [.int i0], h) Q = Tr sc d 16 (51, [l0, l1, l2, l3], [.int 1, .int i0], h) Q := t_go k_16_50 rfl
theorem k_16_51 : lk 16 51 = some (.iadd, 52, 0, 0, .null) := by decide +kernel
theorem x_16_51 : Tr sc d 16 (51, [l0, l1, l2, l3], [.int i1, .int i0], h) Q = Tr sc d 16 (52, [l0, l1, l2, l3], [.int (i0 + i1)], h) Q := t_go k_16_51 rfl
theorem k_16_52 : lk 16 52 = some (.aload_n 0, 53, 0, 0, .null) := by decide +kernel
theorem x_16_52 : Tr sc d 16 (52, [some (.ref xk), l1, l2, l3], [.int i0], h) Q = Tr sc d 16 (53, [some (.ref xk), l1, l2, l3], [.ref xk, .int i0], h) Q := t_aload_n k_16_52 rfl
theorem k_16_53 : lk 16 53 = some (.getfield 9, 56, 1, 3, .int 0) := by decide +kernel
theorem x_16_53 : Tr sc d 16 (53, [l0, l1, l2, l3], [.ref k1, .int i0], h) Q = (okp h k1 1 = true ∧ Tr sc d 16 (56, [l0, l1, l2, l3], [.int (hI h k1 3), .int i0], h) Q) := t_gd k_16_53 rfl
theorem k_16_56 : lk 16 56 = some (.iand, 57, 0, 0, .null) := by decide +kernel
theorem x_16_56 : Tr sc d 16 (56, [l0, l1, l2, l3], [.int i1, .int i0], h) Q = Tr sc d 16 (57, [l0, l1, l2, l3], [.int (i0 &&& i1)], h) Q := t_go k_16_56 rfl
theorem k_16_57 : lk 16 57 = some (.istore_n 2, 58, 2, 0, .null) := by decide +kernel
theorem x_16_57 : Tr sc d 16 (57, [l0, l1, l2, l3], [.int i0], h) Q = Tr sc d 16 (58, [l0, cl2 l1, some (.int i0), l3], [], h) Q := t_istore_n k_16_57 (Nat.le_of_ble_eq_true rfl)
theorem k_16_58 : lk 16 58 = some (.iinc 3 1, 61, 3, 0, .int 1) := by decide +kernel
theorem x_16_58 : Tr sc d 16 (58, [l0, l1, l2, some (.int x)], [], h) Q = Tr sc d 16 (61, [l0, l1, cl2 l2, some (.int (x + 1))], [], h) Q := t_inc k_16_58 rfl (Nat.le_of_ble_eq_true rfl)
theorem k_16_61 : lk 16 61 = some (.goto (-46), 64, 15, 0, .null) := by decide +kernel
theorem x_16_61 : Tr sc d 16 (61, [l0, l1, l2, l3], [], h) Q = Tr sc d 16 (15, [l0, l1, l2, l3], [], h) Q := t_go k_16_61 rfl
theorem k_16_64 : lk 16 64 = some (.iload_n 2, 65, 2, 0, .null) := by decide +kernel
theorem x_16_64 : Tr sc d 16 (64, [l0, l1, some (.int x), l3], [], h) Q = Tr sc d 16 (65, [l0, l1, some (.int x), l3], [.int x], h) Q := t_iload_n k_16_64 rfl
theorem k_16_65 : lk 16 65 = some (.ireturn, 66, 0, 0, .null) := by decide +kernel
theorem x_16_65 : Tr sc d 16 (65, [l0, l1, l2, l3], [.int i0], h) Q = Q (some (.int i0), h) := t_ret k_16_65 (by rw [r_16]; rfl)
theorem e_16 : Tr sc d 16 (ent0 16 [.ref k0, .int i1] h) Q = Tr sc d 16 (0, [some (.ref k0), some (.int i1), none, none], [], h) Q := by
  have e : mL 16 = 4 := by decide +kernel
  unfold ent0
  rw [e]
  rfl
theorem r_17 : mR 17 = some .int := by decide +kernel
theorem k_17_0 : lk 17 0 = some (.iload_n 1, 1, 1, 0, .null) := by decide +kernel
theorem x_17_0 : Tr sc d 17 (0, [l0, some (.int x), l2], [], h) Q = Tr sc d 17 (1, [l0, some (.int x), l2], [.int x], h) Q := t_iload_n k_17_0 rfl
theorem k_17_1 : lk 17 1 = some (.iload_n 2, 2, 2, 0, .null) := by decide +kernel
theorem x_17_1 : Tr sc d 17 (1, [l0, l1, some (.int x)], [.int i0], h) Q = Tr sc d 17 (2, [l0, l1, some (.int x)], [.int x, .int i0], h) Q := t_iload_n k_17_1 rfl
theorem k_17_2 : lk 17 2 = some (.invokestatic 69, 5, 12, 2, .null) := by decide +kernel
theorem x_17_2 : Tr sc (d + 1) 17 (2, [l0, l1, l2], [.int i1, .int i0], h) Q = Tr sc d 12 (ent0 12 [.int i0, .int i1] h) (fun z => Tr sc (d + 1) 17 (5, [l0, l1, l2], z.1.toList ++ [], z.2) Q) := t_cs (as := [.int i0, .int i1]) (r := []) k_17_2 (by decide) rfl rfl (Nat.le_of_ble_eq_true rfl) (Nat.le_of_ble_eq_true rfl)
theorem k_17_5 : lk 17 5 = some (.ifCond .eq 22, 8, 27, 0, .null) := by decide +kernel
theorem x_17_5 : Tr sc d 17 (5, [l0, l1, l2], [.int i0], h) Q = if i0 = 0 then Tr sc d 17 (27, [l0, l1, l2], [], h) Q else Tr sc d 17 (8, [l0, l1, l2], [], h) Q := t_if k_17_5 rfl
theorem k_17_8 : lk 17 8 = some (.aload_n 0, 9, 0, 0, .null) := by decide +kernel
theorem x_17_8 : Tr sc d 17 (8, [some (.ref xk), l1, l2], [], h) Q = Tr sc d 17 (9, [some (.ref xk), l1, l2], [.ref xk], h) Q := t_aload_n k_17_8 rfl
theorem k_17_9 : lk 17 9 = some (.getfield 28, 12, 1, 2, .null) := by decide +kernel
theorem x_17_9 : Tr sc d 17 (9, [l0, l1, l2], [.ref k0], h) Q = (okp h k0 1 = true ∧ ∃ q, hR h k0 2 = some q ∧ Tr sc d 17 (12, [l0, l1, l2], [.ref q], h) Q) := t_getr k_17_9
theorem k_17_12 : lk 17 12 = some (.aload_n 0, 13, 0, 0, .null) := by decide +kernel
theorem x_17_12 : Tr sc d 17 (12, [some (.ref xk), l1, l2], [.ref k0], h) Q = Tr sc d 17 (13, [some (.ref xk), l1, l2], [.ref xk, .ref k0], h) Q := t_aload_n k_17_12 rfl
theorem k_17_13 : lk 17 13 = some (.iload_n 1, 14, 1, 0, .null) := by decide +kernel
theorem x_17_13 : Tr sc d 17 (13, [l0, some (.int x), l2], [.ref k1, .ref k0], h) Q = Tr sc d 17 (14, [l0, some (.int x), l2], [.int x, .ref k1, .ref k0], h) Q := t_iload_n k_17_13 rfl
theorem k_17_14 : lk 17 14 = some (.iload_n 2, 15, 2, 0, .null) := by decide +kernel
theorem x_17_14 : Tr sc d 17 (14, [l0, l1, some (.int x)], [.int i2, .ref k1, .ref k0], h) Q = Tr sc d 17 (15, [l0, l1, some (.int x)], [.int x, .int i2, .ref k1, .ref k0], h) Q := t_iload_n k_17_14 rfl
theorem k_17_15 : lk 17 15 = some (.invokestatic 72, 18, 13, 2, .null) := by decide +kernel
theorem x_17_15 : Tr sc (d + 1) 17 (15, [l0, l1, l2], [.int i3, .int i2, .ref k1, .ref k0], h) Q = Tr sc d 13 (ent0 13 [.int i2, .int i3] h) (fun z => Tr sc (d + 1) 17 (18, [l0, l1, l2], z.1.toList ++ [.ref k1, .ref k0], z.2) Q) := t_cs (as := [.int i2, .int i3]) (r := [.ref k1, .ref k0]) k_17_15 (by decide) rfl rfl (Nat.le_of_ble_eq_true rfl) (Nat.le_of_ble_eq_true rfl)
theorem k_17_18 : lk 17 18 = some (.invokevirtual 76, 21, 16, 1, .null) := by decide +kernel
theorem x_17_18 : Tr sc (d + 1) 17 (18, [l0, l1, l2], [.int i2, .ref k1, .ref k0], h) Q = (okp h k1 1 = true ∧ Tr sc d 16 (ent0 16 [.ref k1, .int i2] h) (fun z => Tr sc (d + 1) 17 (21, [l0, l1, l2], z.1.toList ++ [.ref k0], z.2) Q)) := t_cv (as := [.int i2]) (r := [.ref k0]) k_17_18 rfl rfl (Nat.le_of_ble_eq_true rfl) (Nat.le_of_ble_eq_true rfl) (Nat.le_of_ble_eq_true rfl)
theorem k_17_21 : lk 17 21 = some (.iaload, 22, 0, 0, .null) := by decide +kernel
theorem x_17_21 : Tr sc d 17 (21, [l0, l1, l2], [.int i1, .ref k0], h) Q = (iOk sc h k0 i1 ∧ Tr sc d 17 (22, [l0, l1, l2], [.int (iRd sc h k0 i1)], h) Q) := t_iald k_17_21
theorem k_17_22 : lk 17 22 = some (.iconst 1, 23, 0, 0, .int 1) := by decide +kernel
theorem x_17_22 : Tr sc d 17 (22, [l0, l1, l2], [.int i0], h) Q = Tr sc d 17 (23, [l0, l1, l2], [.int 1, .int i0], h) Q := t_go k_17_22 rfl
theorem k_17_23 : lk 17 23 = some (.isub, 24, 0, 0, .null) := by decide +kernel
theorem x_17_23 : Tr sc d 17 (23, [l0, l1, l2], [.int i1, .int i0], h) Q = Tr sc d 17 (24, [l0, l1, l2], [.int (i0 - i1)], h) Q := t_go k_17_23 rfl
theorem k_17_24 : lk 17 24 = some (.goto 4, 27, 28, 0, .null) := by decide +kernel
theorem x_17_24 : Tr sc d 17 (24, [l0, l1, l2], [.int i0], h) Q = Tr sc d 17 (28, [l0, l1, l2], [.int i0], h) Q := t_go k_17_24 rfl
theorem k_17_27 : lk 17 27 = some (.iconst (-1), 28, 0, 0, .int (-1)) := by decide +kernel
theorem x_17_27 : Tr sc d 17 (27, [l0, l1, l2], [], h) Q = Tr sc d 17 (28, [l0, l1, l2], [.int (-1)], h) Q := t_go k_17_27 rfl
theorem k_17_28 : lk 17 28 = some (.ireturn, 29, 0, 0, .null) := by decide +kernel
theorem x_17_28 : Tr sc d 17 (28, [l0, l1, l2], [.int i0], h) Q = Q (some (.int i0), h) := t_ret k_17_28 (by rw [r_17]; rfl)
theorem e_17 : Tr sc d 17 (ent0 17 [.ref k0, .int i1, .int i2] h) Q = Tr sc d 17 (0, [some (.ref k0), some (.int i1), some (.int i2)], [], h) Q := by
  have e : mL 17 = 3 := by decide +kernel
  unfold ent0
  rw [e]
  rfl
theorem r_18 : mR 18 = none := by decide +kernel
theorem k_18_0 : lk 18 0 = some (.iload_n 1, 1, 1, 0, .null) := by decide +kernel
theorem x_18_0 : Tr sc d 18 (0, [l0, some (.int x), l2, l3, l4], [], h) Q = Tr sc d 18 (1, [l0, some (.int x), l2, l3, l4], [.int x], h) Q := t_iload_n k_18_0 rfl
theorem k_18_1 : lk 18 1 = some (.iload_n 2, 2, 2, 0, .null) := by decide +kernel
theorem x_18_1 : Tr sc d 18 (1, [l0, l1, some (.int x), l3, l4], [.int i0], h) Q = Tr sc d 18 (2, [l0, l1, some (.int x), l3, l4], [.int x, .int i0], h) Q := t_iload_n k_18_1 rfl
theorem k_18_2 : lk 18 2 = some (.invokestatic 69, 5, 12, 2, .null) := by decide +kernel
theorem x_18_2 : Tr sc (d + 1) 18 (2, [l0, l1, l2, l3, l4], [.int i1, .int i0], h) Q = Tr sc d 12 (ent0 12 [.int i0, .int i1] h) (fun z => Tr sc (d + 1) 18 (5, [l0, l1, l2, l3, l4], z.1.toList ++ [], z.2) Q) := t_cs (as := [.int i0, .int i1]) (r := []) k_18_2 (by decide) rfl rfl (Nat.le_of_ble_eq_true rfl) (Nat.le_of_ble_eq_true rfl)
theorem k_18_5 : lk 18 5 = some (.ifCond .ne 4, 8, 9, 0, .null) := by decide +kernel
theorem x_18_5 : Tr sc d 18 (5, [l0, l1, l2, l3, l4], [.int i0], h) Q = if i0 = 0 then Tr sc d 18 (8, [l0, l1, l2, l3, l4], [], h) Q else Tr sc d 18 (9, [l0, l1, l2, l3, l4], [], h) Q := t_if k_18_5 rfl
theorem k_18_8 : lk 18 8 = some (.return_, 9, 0, 0, .null) := by decide +kernel
theorem x_18_8 : Tr sc d 18 (8, [l0, l1, l2, l3, l4], [], h) Q = Q (none, h) := t_ret k_18_8 (by rw [r_18]; rfl)
theorem k_18_9 : lk 18 9 = some (.aload_n 0, 10, 0, 0, .null) := by decide +kernel
theorem x_18_9 : Tr sc d 18 (9, [some (.ref xk), l1, l2, l3, l4], [], h) Q = Tr sc d 18 (10, [some (.ref xk), l1, l2, l3, l4], [.ref xk], h) Q := t_aload_n k_18_9 rfl
theorem k_18_10 : lk 18 10 = some (.iload_n 1, 11, 1, 0, .null) := by decide +kernel
theorem x_18_10 : Tr sc d 18 (10, [l0, some (.int x), l2, l3, l4], [.ref k0], h) Q = Tr sc d 18 (11, [l0, some (.int x), l2, l3, l4], [.int x, .ref k0], h) Q := t_iload_n k_18_10 rfl
theorem k_18_11 : lk 18 11 = some (.iload_n 2, 12, 2, 0, .null) := by decide +kernel
theorem x_18_11 : Tr sc d 18 (11, [l0, l1, some (.int x), l3, l4], [.int i1, .ref k0], h) Q = Tr sc d 18 (12, [l0, l1, some (.int x), l3, l4], [.int x, .int i1, .ref k0], h) Q := t_iload_n k_18_11 rfl
theorem k_18_12 : lk 18 12 = some (.invokestatic 72, 15, 13, 2, .null) := by decide +kernel
theorem x_18_12 : Tr sc (d + 1) 18 (12, [l0, l1, l2, l3, l4], [.int i2, .int i1, .ref k0], h) Q = Tr sc d 13 (ent0 13 [.int i1, .int i2] h) (fun z => Tr sc (d + 1) 18 (15, [l0, l1, l2, l3, l4], z.1.toList ++ [.ref k0], z.2) Q) := t_cs (as := [.int i1, .int i2]) (r := [.ref k0]) k_18_12 (by decide) rfl rfl (Nat.le_of_ble_eq_true rfl) (Nat.le_of_ble_eq_true rfl)
theorem k_18_15 : lk 18 15 = some (.invokevirtual 76, 18, 16, 1, .null) := by decide +kernel
theorem x_18_15 : Tr sc (d + 1) 18 (15, [l0, l1, l2, l3, l4], [.int i1, .ref k0], h) Q = (okp h k0 1 = true ∧ Tr sc d 16 (ent0 16 [.ref k0, .int i1] h) (fun z => Tr sc (d + 1) 18 (18, [l0, l1, l2, l3, l4], z.1.toList ++ [], z.2) Q)) := t_cv (as := [.int i1]) (r := []) k_18_15 rfl rfl (Nat.le_of_ble_eq_true rfl) (Nat.le_of_ble_eq_true rfl) (Nat.le_of_ble_eq_true rfl)
theorem k_18_18 : lk 18 18 = some (.istore_n 3, 19, 3, 0, .null) := by decide +kernel
theorem x_18_18 : Tr sc d 18 (18, [l0, l1, l2, l3, l4], [.int i0], h) Q = Tr sc d 18 (19, [l0, l1, cl2 l2, some (.int i0), l4], [], h) Q := t_istore_n k_18_18 (Nat.le_of_ble_eq_true rfl)
theorem k_18_19 : lk 18 19 = some (.aload_n 0, 20, 0, 0, .null) := by decide +kernel
theorem x_18_19 : Tr sc d 18 (19, [some (.ref xk), l1, l2, l3, l4], [], h) Q = Tr sc d 18 (20, [some (.ref xk), l1, l2, l3, l4], [.ref xk], h) Q := t_aload_n k_18_19 rfl
theorem k_18_20 : lk 18 20 = some (.getfield 28, 23, 1, 2, .null) := by decide +kernel
theorem x_18_20 : Tr sc d 18 (20, [l0, l1, l2, l3, l4], [.ref k0], h) Q = (okp h k0 1 = true ∧ ∃ q, hR h k0 2 = some q ∧ Tr sc d 18 (23, [l0, l1, l2, l3, l4], [.ref q], h) Q) := t_getr k_18_20
theorem k_18_23 : lk 18 23 = some (.iload_n 3, 24, 3, 0, .null) := by decide +kernel
theorem x_18_23 : Tr sc d 18 (23, [l0, l1, l2, some (.int x), l4], [.ref k0], h) Q = Tr sc d 18 (24, [l0, l1, l2, some (.int x), l4], [.int x, .ref k0], h) Q := t_iload_n k_18_23 rfl
theorem k_18_24 : lk 18 24 = some (.iaload, 25, 0, 0, .null) := by decide +kernel
theorem x_18_24 : Tr sc d 18 (24, [l0, l1, l2, l3, l4], [.int i1, .ref k0], h) Q = (iOk sc h k0 i1 ∧ Tr sc d 18 (25, [l0, l1, l2, l3, l4], [.int (iRd sc h k0 i1)], h) Q) := t_iald k_18_24
theorem k_18_25 : lk 18 25 = some (.ifCond .ne 66, 28, 91, 0, .null) := by decide +kernel
theorem x_18_25 : Tr sc d 18 (25, [l0, l1, l2, l3, l4], [.int i0], h) Q = if i0 = 0 then Tr sc d 18 (28, [l0, l1, l2, l3, l4], [], h) Q else Tr sc d 18 (91, [l0, l1, l2, l3, l4], [], h) Q := t_if k_18_25 rfl
theorem k_18_28 : lk 18 28 = some (.aload_n 0, 29, 0, 0, .null) := by decide +kernel
theorem x_18_28 : Tr sc d 18 (28, [some (.ref xk), l1, l2, l3, l4], [], h) Q = Tr sc d 18 (29, [some (.ref xk), l1, l2, l3, l4], [.ref xk], h) Q := t_aload_n k_18_28 rfl
theorem k_18_29 : lk 18 29 = some (.getfield 15, 32, 1, 4, .int 0) := by decide +kernel
theorem x_18_29 : Tr sc d 18 (29, [l0, l1, l2, l3, l4], [.ref k0], h) Q = (okp h k0 1 = true ∧ Tr sc d 18 (32, [l0, l1, l2, l3, l4], [.int (hI h k0 4)], h) Q) := t_gd k_18_29 rfl
theorem k_18_32 : lk 18 32 = some (.aload_n 0, 33, 0, 0, .null) := by decide +kernel
theorem x_18_32 : Tr sc d 18 (32, [some (.ref xk), l1, l2, l3, l4], [.int i0], h) Q = Tr sc d 18 (33, [some (.ref xk), l1, l2, l3, l4], [.ref xk, .int i0], h) Q := t_aload_n k_18_32 rfl
theorem k_18_33 : lk 18 33 = some (.getfield 21, 36, 1, 0, .null) := by decide +kernel
theorem x_18_33 : Tr sc d 18 (33, [l0, l1, l2, l3, l4], [.ref k1, .int i0], h) Q = (okp h k1 1 = true ∧ ∃ q, hR h k1 0 = some q ∧ Tr sc d 18 (36, [l0, l1, l2, l3, l4], [.ref q, .int i0], h) Q) := t_getr k_18_33
theorem k_18_36 : lk 18 36 = some (.arraylength, 37, 0, 0, .null) := by decide +kernel
theorem x_18_36 (hk : k1 < 1000) : Tr sc d 18 (36, [l0, l1, l2, l3, l4], [.ref k1, .int i0], h) Q = ((okp h k1 11 || (okp h k1 12 || (okp h k1 13 || (okp h k1 14 || okp h k1 15)))) = true ∧ Tr sc d 18 (37, [l0, l1, l2, l3, l4], [.int (Int32.ofNat (LN k1)), .int i0], h) Q) := t_gd k_18_36 (if_pos hk)
theorem k_18_37 : lk 18 37 = some (.if_icmp .lt 4, 40, 41, 0, .null) := by decide +kernel
theorem x_18_37 : Tr sc d 18 (37, [l0, l1, l2, l3, l4], [.int i1, .int i0], h) Q = if i0 < i1 then Tr sc d 18 (41, [l0, l1, l2, l3, l4], [], h) Q else Tr sc d 18 (40, [l0, l1, l2, l3, l4], [], h) Q := t_if k_18_37 rfl
theorem k_18_40 : lk 18 40 = some (.return_, 41, 0, 0, .null) := by decide +kernel
theorem x_18_40 : Tr sc d 18 (40, [l0, l1, l2, l3, l4], [], h) Q = Q (none, h) := t_ret k_18_40 (by rw [r_18]; rfl)
theorem k_18_41 : lk 18 41 = some (.aload_n 0, 42, 0, 0, .null) := by decide +kernel
theorem x_18_41 : Tr sc d 18 (41, [some (.ref xk), l1, l2, l3, l4], [], h) Q = Tr sc d 18 (42, [some (.ref xk), l1, l2, l3, l4], [.ref xk], h) Q := t_aload_n k_18_41 rfl
theorem k_18_42 : lk 18 42 = some (.getfield 21, 45, 1, 0, .null) := by decide +kernel
theorem x_18_42 : Tr sc d 18 (42, [l0, l1, l2, l3, l4], [.ref k0], h) Q = (okp h k0 1 = true ∧ ∃ q, hR h k0 0 = some q ∧ Tr sc d 18 (45, [l0, l1, l2, l3, l4], [.ref q], h) Q) := t_getr k_18_42
theorem k_18_45 : lk 18 45 = some (.aload_n 0, 46, 0, 0, .null) := by decide +kernel
theorem x_18_45 : Tr sc d 18 (45, [some (.ref xk), l1, l2, l3, l4], [.ref k0], h) Q = Tr sc d 18 (46, [some (.ref xk), l1, l2, l3, l4], [.ref xk, .ref k0], h) Q := t_aload_n k_18_45 rfl
theorem k_18_46 : lk 18 46 = some (.getfield 15, 49, 1, 4, .int 0) := by decide +kernel
theorem x_18_46 : Tr sc d 18 (46, [l0, l1, l2, l3, l4], [.ref k1, .ref k0], h) Q = (okp h k1 1 = true ∧ Tr sc d 18 (49, [l0, l1, l2, l3, l4], [.int (hI h k1 4), .ref k0], h) Q) := t_gd k_18_46 rfl
theorem k_18_49 : lk 18 49 = some (.iload_n 1, 50, 1, 0, .null) := by decide +kernel
theorem x_18_49 : Tr sc d 18 (49, [l0, some (.int x), l2, l3, l4], [.int i1, .ref k0], h) Q = Tr sc d 18 (50, [l0, some (.int x), l2, l3, l4], [.int x, .int i1, .ref k0], h) Q := t_iload_n k_18_49 rfl
theorem k_18_50 : lk 18 50 = some (.iload_n 2, 51, 2, 0, .null) := by decide +kernel
theorem x_18_50 : Tr sc d 18 (50, [l0, l1, some (.int x), l3, l4], [.int i2, .int i1, .ref k0], h) Q = Tr sc d 18 (51, [l0, l1, some (.int x), l3, l4], [.int x, .int i2, .int i1, .ref k0], h) Q := t_iload_n k_18_50 rfl
theorem k_18_51 : lk 18 51 = some (.invokestatic 72, 54, 13, 2, .null) := by decide +kernel
theorem x_18_51 : Tr sc (d + 1) 18 (51, [l0, l1, l2, l3, l4], [.int i3, .int i2, .int i1, .ref k0], h) Q = Tr sc d 13 (ent0 13 [.int i2, .int i3] h) (fun z => Tr sc (d + 1) 18 (54, [l0, l1, l2, l3, l4], z.1.toList ++ [.int i1, .ref k0], z.2) Q) := t_cs (as := [.int i2, .int i3]) (r := [.int i1, .ref k0]) k_18_51 (by decide) rfl rfl (Nat.le_of_ble_eq_true rfl) (Nat.le_of_ble_eq_true rfl)
theorem k_18_54 : lk 18 54 = some (.iastore, 55, 0, 0, .null) := by decide +kernel
theorem x_18_54 : Tr sc d 18 (54, [l0, l1, l2, l3, l4], [.int i2, .int i1, .ref k0], h) Q = ((okp h k0 11 && inb i1 (LN k0)) = true ∧ Tr sc d 18 (55, [l0, l1, l2, l3, l4], [], (sI h k0 i1.toNatClampNeg i2)) Q) := t_gd k_18_54 rfl
theorem k_18_55 : lk 18 55 = some (.aload_n 0, 56, 0, 0, .null) := by decide +kernel
theorem x_18_55 : Tr sc d 18 (55, [some (.ref xk), l1, l2, l3, l4], [], h) Q = Tr sc d 18 (56, [some (.ref xk), l1, l2, l3, l4], [.ref xk], h) Q := t_aload_n k_18_55 rfl
theorem k_18_56 : lk 18 56 = some (.getfield 25, 59, 1, 1, .null) := by decide +kernel
theorem x_18_56 : Tr sc d 18 (56, [l0, l1, l2, l3, l4], [.ref k0], h) Q = (okp h k0 1 = true ∧ ∃ q, hR h k0 1 = some q ∧ Tr sc d 18 (59, [l0, l1, l2, l3, l4], [.ref q], h) Q) := t_getr k_18_56
theorem k_18_59 : lk 18 59 = some (.aload_n 0, 60, 0, 0, .null) := by decide +kernel
theorem x_18_59 : Tr sc d 18 (59, [some (.ref xk), l1, l2, l3, l4], [.ref k0], h) Q = Tr sc d 18 (60, [some (.ref xk), l1, l2, l3, l4], [.ref xk, .ref k0], h) Q := t_aload_n k_18_59 rfl
theorem k_18_60 : lk 18 60 = some (.getfield 15, 63, 1, 4, .int 0) := by decide +kernel
theorem x_18_60 : Tr sc d 18 (60, [l0, l1, l2, l3, l4], [.ref k1, .ref k0], h) Q = (okp h k1 1 = true ∧ Tr sc d 18 (63, [l0, l1, l2, l3, l4], [.int (hI h k1 4), .ref k0], h) Q) := t_gd k_18_60 rfl
theorem k_18_63 : lk 18 63 = some (.iconst 0, 64, 0, 0, .int 0) := by decide +kernel
theorem x_18_63 : Tr sc d 18 (63, [l0, l1, l2, l3, l4], [.int i1, .ref k0], h) Q = Tr sc d 18 (64, [l0, l1, l2, l3, l4], [.int 0, .int i1, .ref k0], h) Q := t_go k_18_63 rfl
theorem k_18_64 : lk 18 64 = some (.iastore, 65, 0, 0, .null) := by decide +kernel
theorem x_18_64 : Tr sc d 18 (64, [l0, l1, l2, l3, l4], [.int i2, .int i1, .ref k0], h) Q = ((okp h k0 11 && inb i1 (LN k0)) = true ∧ Tr sc d 18 (65, [l0, l1, l2, l3, l4], [], (sI h k0 i1.toNatClampNeg i2)) Q) := t_gd k_18_64 rfl
theorem k_18_65 : lk 18 65 = some (.aload_n 0, 66, 0, 0, .null) := by decide +kernel
theorem x_18_65 : Tr sc d 18 (65, [some (.ref xk), l1, l2, l3, l4], [], h) Q = Tr sc d 18 (66, [some (.ref xk), l1, l2, l3, l4], [.ref xk], h) Q := t_aload_n k_18_65 rfl
theorem k_18_66 : lk 18 66 = some (.dup, 67, 0, 0, .null) := by decide +kernel
theorem x_18_66 : Tr sc d 18 (66, [l0, l1, l2, l3, l4], [.ref k0], h) Q = Tr sc d 18 (67, [l0, l1, l2, l3, l4], [.ref k0, .ref k0], h) Q := t_go k_18_66 rfl
theorem k_18_67 : lk 18 67 = some (.getfield 15, 70, 1, 4, .int 0) := by decide +kernel
theorem x_18_67 : Tr sc d 18 (67, [l0, l1, l2, l3, l4], [.ref k1, .ref k0], h) Q = (okp h k1 1 = true ∧ Tr sc d 18 (70, [l0, l1, l2, l3, l4], [.int (hI h k1 4), .ref k0], h) Q) := t_gd k_18_67 rfl
theorem k_18_70 : lk 18 70 = some (.iconst 1, 71, 0, 0, .int 1) := by decide +kernel
theorem x_18_70 : Tr sc d 18 (70, [l0, l1, l2, l3, l4], [.int i1, .ref k0], h) Q = Tr sc d 18 (71, [l0, l1, l2, l3, l4], [.int 1, .int i1, .ref k0], h) Q := t_go k_18_70 rfl
theorem k_18_71 : lk 18 71 = some (.iadd, 72, 0, 0, .null) := by decide +kernel
theorem x_18_71 : Tr sc d 18 (71, [l0, l1, l2, l3, l4], [.int i2, .int i1, .ref k0], h) Q = Tr sc d 18 (72, [l0, l1, l2, l3, l4], [.int (i1 + i2), .ref k0], h) Q := t_go k_18_71 rfl
theorem k_18_72 : lk 18 72 = some (.putfield 15, 75, 1, 4, .int 0) := by decide +kernel
theorem x_18_72 : Tr sc d 18 (72, [l0, l1, l2, l3, l4], [.int i1, .ref k0], h) Q = (okp h k0 1 = true ∧ Tr sc d 18 (75, [l0, l1, l2, l3, l4], [], (sI h k0 4 i1)) Q) := t_gd k_18_72 rfl
theorem k_18_75 : lk 18 75 = some (.aload_n 0, 76, 0, 0, .null) := by decide +kernel
theorem x_18_75 : Tr sc d 18 (75, [some (.ref xk), l1, l2, l3, l4], [], h) Q = Tr sc d 18 (76, [some (.ref xk), l1, l2, l3, l4], [.ref xk], h) Q := t_aload_n k_18_75 rfl
theorem k_18_76 : lk 18 76 = some (.getfield 28, 79, 1, 2, .null) := by decide +kernel
theorem x_18_76 : Tr sc d 18 (76, [l0, l1, l2, l3, l4], [.ref k0], h) Q = (okp h k0 1 = true ∧ ∃ q, hR h k0 2 = some q ∧ Tr sc d 18 (79, [l0, l1, l2, l3, l4], [.ref q], h) Q) := t_getr k_18_76
theorem k_18_79 : lk 18 79 = some (.iload_n 3, 80, 3, 0, .null) := by decide +kernel
theorem x_18_79 : Tr sc d 18 (79, [l0, l1, l2, some (.int x), l4], [.ref k0], h) Q = Tr sc d 18 (80, [l0, l1, l2, some (.int x), l4], [.int x, .ref k0], h) Q := t_iload_n k_18_79 rfl
theorem k_18_80 : lk 18 80 = some (.aload_n 0, 81, 0, 0, .null) := by decide +kernel
theorem x_18_80 : Tr sc d 18 (80, [some (.ref xk), l1, l2, l3, l4], [.int i1, .ref k0], h) Q = Tr sc d 18 (81, [some (.ref xk), l1, l2, l3, l4], [.ref xk, .int i1, .ref k0], h) Q := t_aload_n k_18_80 rfl
theorem k_18_81 : lk 18 81 = some (.getfield 15, 84, 1, 4, .int 0) := by decide +kernel
theorem x_18_81 : Tr sc d 18 (81, [l0, l1, l2, l3, l4], [.ref k2, .int i1, .ref k0], h) Q = (okp h k2 1 = true ∧ Tr sc d 18 (84, [l0, l1, l2, l3, l4], [.int (hI h k2 4), .int i1, .ref k0], h) Q) := t_gd k_18_81 rfl
theorem k_18_84 : lk 18 84 = some (.iastore, 85, 0, 0, .null) := by decide +kernel
theorem x_18_84 : Tr sc d 18 (84, [l0, l1, l2, l3, l4], [.int i2, .int i1, .ref k0], h) Q = ((okp h k0 11 && inb i1 (LN k0)) = true ∧ Tr sc d 18 (85, [l0, l1, l2, l3, l4], [], (sI h k0 i1.toNatClampNeg i2)) Q) := t_gd k_18_84 rfl
theorem k_18_85 : lk 18 85 = some (.aload_n 0, 86, 0, 0, .null) := by decide +kernel
theorem x_18_85 : Tr sc d 18 (85, [some (.ref xk), l1, l2, l3, l4], [], h) Q = Tr sc d 18 (86, [some (.ref xk), l1, l2, l3, l4], [.ref xk], h) Q := t_aload_n k_18_85 rfl
theorem k_18_86 : lk 18 86 = some (.iload_n 1, 87, 1, 0, .null) := by decide +kernel
theorem x_18_86 : Tr sc d 18 (86, [l0, some (.int x), l2, l3, l4], [.ref k0], h) Q = Tr sc d 18 (87, [l0, some (.int x), l2, l3, l4], [.int x, .ref k0], h) Q := t_iload_n k_18_86 rfl
theorem k_18_87 : lk 18 87 = some (.iload_n 2, 88, 2, 0, .null) := by decide +kernel
theorem x_18_87 : Tr sc d 18 (87, [l0, l1, some (.int x), l3, l4], [.int i1, .ref k0], h) Q = Tr sc d 18 (88, [l0, l1, some (.int x), l3, l4], [.int x, .int i1, .ref k0], h) Q := t_iload_n k_18_87 rfl
theorem k_18_88 : lk 18 88 = some (.invokevirtual 80, 91, 19, 2, .null) := by decide +kernel
theorem x_18_88 : Tr sc (d + 1) 18 (88, [l0, l1, l2, l3, l4], [.int i2, .int i1, .ref k0], h) Q = (okp h k0 1 = true ∧ Tr sc d 19 (ent0 19 [.ref k0, .int i1, .int i2] h) (fun z => Tr sc (d + 1) 18 (91, [l0, l1, l2, l3, l4], z.1.toList ++ [], z.2) Q)) := t_cv (as := [.int i1, .int i2]) (r := []) k_18_88 rfl rfl (Nat.le_of_ble_eq_true rfl) (Nat.le_of_ble_eq_true rfl) (Nat.le_of_ble_eq_true rfl)
theorem k_18_91 : lk 18 91 = some (.aload_n 0, 92, 0, 0, .null) := by decide +kernel
theorem x_18_91 : Tr sc d 18 (91, [some (.ref xk), l1, l2, l3, l4], [], h) Q = Tr sc d 18 (92, [some (.ref xk), l1, l2, l3, l4], [.ref xk], h) Q := t_aload_n k_18_91 rfl
theorem k_18_92 : lk 18 92 = some (.getfield 28, 95, 1, 2, .null) := by decide +kernel
theorem x_18_92 : Tr sc d 18 (92, [l0, l1, l2, l3, l4], [.ref k0], h) Q = (okp h k0 1 = true ∧ ∃ q, hR h k0 2 = some q ∧ Tr sc d 18 (95, [l0, l1, l2, l3, l4], [.ref q], h) Q) := t_getr k_18_92
theorem k_18_95 : lk 18 95 = some (.iload_n 3, 96, 3, 0, .null) := by decide +kernel
theorem x_18_95 : Tr sc d 18 (95, [l0, l1, l2, some (.int x), l4], [.ref k0], h) Q = Tr sc d 18 (96, [l0, l1, l2, some (.int x), l4], [.int x, .ref k0], h) Q := t_iload_n k_18_95 rfl
theorem k_18_96 : lk 18 96 = some (.iaload, 97, 0, 0, .null) := by decide +kernel
theorem x_18_96 : Tr sc d 18 (96, [l0, l1, l2, l3, l4], [.int i1, .ref k0], h) Q = (iOk sc h k0 i1 ∧ Tr sc d 18 (97, [l0, l1, l2, l3, l4], [.int (iRd sc h k0 i1)], h) Q) := t_iald k_18_96
theorem k_18_97 : lk 18 97 = some (.iconst 1, 98, 0, 0, .int 1) := by decide +kernel
theorem x_18_97 : Tr sc d 18 (97, [l0, l1, l2, l3, l4], [.int i0], h) Q = Tr sc d 18 (98, [l0, l1, l2, l3, l4], [.int 1, .int i0], h) Q := t_go k_18_97 rfl
theorem k_18_98 : lk 18 98 = some (.isub, 99, 0, 0, .null) := by decide +kernel
theorem x_18_98 : Tr sc d 18 (98, [l0, l1, l2, l3, l4], [.int i1, .int i0], h) Q = Tr sc d 18 (99, [l0, l1, l2, l3, l4], [.int (i0 - i1)], h) Q := t_go k_18_98 rfl
theorem k_18_99 : lk 18 99 = some (.istore 4, 101, 4, 0, .null) := by decide +kernel
theorem x_18_99 : Tr sc d 18 (99, [l0, l1, l2, l3, l4], [.int i0], h) Q = Tr sc d 18 (101, [l0, l1, l2, cl2 l3, some (.int i0)], [], h) Q := t_istore k_18_99 (Nat.le_of_ble_eq_true rfl)
theorem k_18_101 : lk 18 101 = some (.aload_n 0, 102, 0, 0, .null) := by decide +kernel
theorem x_18_101 : Tr sc d 18 (101, [some (.ref xk), l1, l2, l3, l4], [], h) Q = Tr sc d 18 (102, [some (.ref xk), l1, l2, l3, l4], [.ref xk], h) Q := t_aload_n k_18_101 rfl
theorem k_18_102 : lk 18 102 = some (.getfield 25, 105, 1, 1, .null) := by decide +kernel
theorem x_18_102 : Tr sc d 18 (102, [l0, l1, l2, l3, l4], [.ref k0], h) Q = (okp h k0 1 = true ∧ ∃ q, hR h k0 1 = some q ∧ Tr sc d 18 (105, [l0, l1, l2, l3, l4], [.ref q], h) Q) := t_getr k_18_102
theorem k_18_105 : lk 18 105 = some (.iload 4, 107, 4, 0, .null) := by decide +kernel
theorem x_18_105 : Tr sc d 18 (105, [l0, l1, l2, l3, some (.int x)], [.ref k0], h) Q = Tr sc d 18 (107, [l0, l1, l2, l3, some (.int x)], [.int x, .ref k0], h) Q := t_iload k_18_105 rfl
theorem k_18_107 : lk 18 107 = some (.dup2, 108, 0, 0, .null) := by decide +kernel
theorem x_18_107 : Tr sc d 18 (107, [l0, l1, l2, l3, l4], [.int i1, .ref k0], h) Q = Tr sc d 18 (108, [l0, l1, l2, l3, l4], [.int i1, .ref k0, .int i1, .ref k0], h) Q := t_go k_18_107 rfl
theorem k_18_108 : lk 18 108 = some (.iaload, 109, 0, 0, .null) := by decide +kernel
theorem x_18_108 : Tr sc d 18 (108, [l0, l1, l2, l3, l4], [.int i3, .ref k2, .int i1, .ref k0], h) Q = (iOk sc h k2 i3 ∧ Tr sc d 18 (109, [l0, l1, l2, l3, l4], [.int (iRd sc h k2 i3), .int i1, .ref k0], h) Q) := t_iald k_18_108
theorem k_18_109 : lk 18 109 = some (.iconst 1, 110, 0, 0, .int 1) := by decide +kernel
theorem x_18_109 : Tr sc d 18 (109, [l0, l1, l2, l3, l4], [.int i2, .int i1, .ref k0], h) Q = Tr sc d 18 (110, [l0, l1, l2, l3, l4], [.int 1, .int i2, .int i1, .ref k0], h) Q := t_go k_18_109 rfl
theorem k_18_110 : lk 18 110 = some (.iadd, 111, 0, 0, .null) := by decide +kernel
theorem x_18_110 : Tr sc d 18 (110, [l0, l1, l2, l3, l4], [.int i3, .int i2, .int i1, .ref k0], h) Q = Tr sc d 18 (111, [l0, l1, l2, l3, l4], [.int (i2 + i3), .int i1, .ref k0], h) Q := t_go k_18_110 rfl
theorem k_18_111 : lk 18 111 = some (.iastore, 112, 0, 0, .null) := by decide +kernel
theorem x_18_111 : Tr sc d 18 (111, [l0, l1, l2, l3, l4], [.int i2, .int i1, .ref k0], h) Q = ((okp h k0 11 && inb i1 (LN k0)) = true ∧ Tr sc d 18 (112, [l0, l1, l2, l3, l4], [], (sI h k0 i1.toNatClampNeg i2)) Q) := t_gd k_18_111 rfl
theorem k_18_112 : lk 18 112 = some (.aload_n 0, 113, 0, 0, .null) := by decide +kernel
theorem x_18_112 : Tr sc d 18 (112, [some (.ref xk), l1, l2, l3, l4], [], h) Q = Tr sc d 18 (113, [some (.ref xk), l1, l2, l3, l4], [.ref xk], h) Q := t_aload_n k_18_112 rfl
theorem k_18_113 : lk 18 113 = some (.aload_n 0, 114, 0, 0, .null) := by decide +kernel
theorem x_18_113 : Tr sc d 18 (113, [some (.ref xk), l1, l2, l3, l4], [.ref k0], h) Q = Tr sc d 18 (114, [some (.ref xk), l1, l2, l3, l4], [.ref xk, .ref k0], h) Q := t_aload_n k_18_113 rfl
theorem k_18_114 : lk 18 114 = some (.getfield 18, 117, 1, 5, .int 0) := by decide +kernel
theorem x_18_114 : Tr sc d 18 (114, [l0, l1, l2, l3, l4], [.ref k1, .ref k0], h) Q = (okp h k1 1 = true ∧ Tr sc d 18 (117, [l0, l1, l2, l3, l4], [.int (hI h k1 5), .ref k0], h) Q) := t_gd k_18_114 rfl
theorem k_18_117 : lk 18 117 = some (.aload_n 0, 118, 0, 0, .null) := by decide +kernel
theorem x_18_117 : Tr sc d 18 (117, [some (.ref xk), l1, l2, l3, l4], [.int i1, .ref k0], h) Q = Tr sc d 18 (118, [some (.ref xk), l1, l2, l3, l4], [.ref xk, .int i1, .ref k0], h) Q := t_aload_n k_18_117 rfl
theorem k_18_118 : lk 18 118 = some (.getfield 25, 121, 1, 1, .null) := by decide +kernel
theorem x_18_118 : Tr sc d 18 (118, [l0, l1, l2, l3, l4], [.ref k2, .int i1, .ref k0], h) Q = (okp h k2 1 = true ∧ ∃ q, hR h k2 1 = some q ∧ Tr sc d 18 (121, [l0, l1, l2, l3, l4], [.ref q, .int i1, .ref k0], h) Q) := t_getr k_18_118
theorem k_18_121 : lk 18 121 = some (.iload 4, 123, 4, 0, .null) := by decide +kernel
theorem x_18_121 : Tr sc d 18 (121, [l0, l1, l2, l3, some (.int x)], [.ref k2, .int i1, .ref k0], h) Q = Tr sc d 18 (123, [l0, l1, l2, l3, some (.int x)], [.int x, .ref k2, .int i1, .ref k0], h) Q := t_iload k_18_121 rfl
theorem k_18_123 : lk 18 123 = some (.iaload, 124, 0, 0, .null) := by decide +kernel
theorem x_18_123 : Tr sc d 18 (123, [l0, l1, l2, l3, l4], [.int i3, .ref k2, .int i1, .ref k0], h) Q = (iOk sc h k2 i3 ∧ Tr sc d 18 (124, [l0, l1, l2, l3, l4], [.int (iRd sc h k2 i3), .int i1, .ref k0], h) Q) := t_iald k_18_123
theorem k_18_124 : lk 18 124 = some (.invokestatic 83, 127, 9002, 0, .null) := by decide +kernel
theorem x_18_124 : Tr sc d 18 (124, [l0, l1, l2, l3, l4], [.int i2, .int i1, .ref k0], h) Q = Tr sc d 18 (127, [l0, l1, l2, l3, l4], [.int (if i1 < i2 then i2 else i1), .ref k0], h) Q := t_go k_18_124 rfl
theorem k_18_127 : lk 18 127 = some (.putfield 18, 130, 1, 5, .int 0) := by decide +kernel
theorem x_18_127 : Tr sc d 18 (127, [l0, l1, l2, l3, l4], [.int i1, .ref k0], h) Q = (okp h k0 1 = true ∧ Tr sc d 18 (130, [l0, l1, l2, l3, l4], [], (sI h k0 5 i1)) Q) := t_gd k_18_127 rfl
theorem k_18_130 : lk 18 130 = some (.return_, 131, 0, 0, .null) := by decide +kernel
theorem x_18_130 : Tr sc d 18 (130, [l0, l1, l2, l3, l4], [], h) Q = Q (none, h) := t_ret k_18_130 (by rw [r_18]; rfl)
theorem e_18 : Tr sc d 18 (ent0 18 [.ref k0, .int i1, .int i2] h) Q = Tr sc d 18 (0, [some (.ref k0), some (.int i1), some (.int i2), none, none], [], h) Q := by
  have e : mL 18 = 5 := by decide +kernel
  unfold ent0
  rw [e]
  rfl
theorem r_19 : mR 19 = none := by decide +kernel
theorem k_19_0 : lk 19 0 = some (.aload_n 0, 1, 0, 0, .null) := by decide +kernel
theorem x_19_0 : Tr sc d 19 (0, [some (.ref xk), l1, l2], [], h) Q = Tr sc d 19 (1, [some (.ref xk), l1, l2], [.ref xk], h) Q := t_aload_n k_19_0 rfl
theorem k_19_1 : lk 19 1 = some (.aload_n 0, 2, 0, 0, .null) := by decide +kernel
theorem x_19_1 : Tr sc d 19 (1, [some (.ref xk), l1, l2], [.ref k0], h) Q = Tr sc d 19 (2, [some (.ref xk), l1, l2], [.ref xk, .ref k0], h) Q := t_aload_n k_19_1 rfl
theorem k_19_2 : lk 19 2 = some (.getfield 15, 5, 1, 4, .int 0) := by decide +kernel
theorem x_19_2 : Tr sc d 19 (2, [l0, l1, l2], [.ref k1, .ref k0], h) Q = (okp h k1 1 = true ∧ Tr sc d 19 (5, [l0, l1, l2], [.int (hI h k1 4), .ref k0], h) Q) := t_gd k_19_2 rfl
theorem k_19_5 : lk 19 5 = some (.iconst 1, 6, 0, 0, .int 1) := by decide +kernel
theorem x_19_5 : Tr sc d 19 (5, [l0, l1, l2], [.int i1, .ref k0], h) Q = Tr sc d 19 (6, [l0, l1, l2], [.int 1, .int i1, .ref k0], h) Q := t_go k_19_5 rfl
theorem k_19_6 : lk 19 6 = some (.if_icmp .ne 7, 9, 13, 0, .null) := by decide +kernel
theorem x_19_6 : Tr sc d 19 (6, [l0, l1, l2], [.int i2, .int i1, .ref k0], h) Q = if i1 = i2 then Tr sc d 19 (9, [l0, l1, l2], [.ref k0], h) Q else Tr sc d 19 (13, [l0, l1, l2], [.ref k0], h) Q := t_if k_19_6 rfl
theorem k_19_9 : lk 19 9 = some (.iload_n 1, 10, 1, 0, .null) := by decide +kernel
theorem x_19_9 : Tr sc d 19 (9, [l0, some (.int x), l2], [.ref k0], h) Q = Tr sc d 19 (10, [l0, some (.int x), l2], [.int x, .ref k0], h) Q := t_iload_n k_19_9 rfl
theorem k_19_10 : lk 19 10 = some (.goto 11, 13, 21, 0, .null) := by decide +kernel
theorem x_19_10 : Tr sc d 19 (10, [l0, l1, l2], [.int i1, .ref k0], h) Q = Tr sc d 19 (21, [l0, l1, l2], [.int i1, .ref k0], h) Q := t_go k_19_10 rfl
theorem k_19_13 : lk 19 13 = some (.aload_n 0, 14, 0, 0, .null) := by decide +kernel
theorem x_19_13 : Tr sc d 19 (13, [some (.ref xk), l1, l2], [.ref k0], h) Q = Tr sc d 19 (14, [some (.ref xk), l1, l2], [.ref xk, .ref k0], h) Q := t_aload_n k_19_13 rfl
theorem k_19_14 : lk 19 14 = some (.getfield 88, 17, 1, 6, .int 0) := by decide +kernel
theorem x_19_14 : Tr sc d 19 (14, [l0, l1, l2], [.ref k1, .ref k0], h) Q = (okp h k1 1 = true ∧ Tr sc d 19 (17, [l0, l1, l2], [.int (hI h k1 6), .ref k0], h) Q) := t_gd k_19_14 rfl
theorem k_19_17 : lk 19 17 = some (.iload_n 1, 18, 1, 0, .null) := by decide +kernel
theorem x_19_17 : Tr sc d 19 (17, [l0, some (.int x), l2], [.int i1, .ref k0], h) Q = Tr sc d 19 (18, [l0, some (.int x), l2], [.int x, .int i1, .ref k0], h) Q := t_iload_n k_19_17 rfl
theorem k_19_18 : lk 19 18 = some (.invokestatic 91, 21, 9003, 0, .null) := by decide +kernel
theorem x_19_18 : Tr sc d 19 (18, [l0, l1, l2], [.int i2, .int i1, .ref k0], h) Q = Tr sc d 19 (21, [l0, l1, l2], [.int (if i2 < i1 then i2 else i1), .ref k0], h) Q := t_go k_19_18 rfl
theorem k_19_21 : lk 19 21 = some (.putfield 88, 24, 1, 6, .int 0) := by decide +kernel
theorem x_19_21 : Tr sc d 19 (21, [l0, l1, l2], [.int i1, .ref k0], h) Q = (okp h k0 1 = true ∧ Tr sc d 19 (24, [l0, l1, l2], [], (sI h k0 6 i1)) Q) := t_gd k_19_21 rfl
theorem k_19_24 : lk 19 24 = some (.aload_n 0, 25, 0, 0, .null) := by decide +kernel
theorem x_19_24 : Tr sc d 19 (24, [some (.ref xk), l1, l2], [], h) Q = Tr sc d 19 (25, [some (.ref xk), l1, l2], [.ref xk], h) Q := t_aload_n k_19_24 rfl
theorem k_19_25 : lk 19 25 = some (.aload_n 0, 26, 0, 0, .null) := by decide +kernel
theorem x_19_25 : Tr sc d 19 (25, [some (.ref xk), l1, l2], [.ref k0], h) Q = Tr sc d 19 (26, [some (.ref xk), l1, l2], [.ref xk, .ref k0], h) Q := t_aload_n k_19_25 rfl
theorem k_19_26 : lk 19 26 = some (.getfield 15, 29, 1, 4, .int 0) := by decide +kernel
theorem x_19_26 : Tr sc d 19 (26, [l0, l1, l2], [.ref k1, .ref k0], h) Q = (okp h k1 1 = true ∧ Tr sc d 19 (29, [l0, l1, l2], [.int (hI h k1 4), .ref k0], h) Q) := t_gd k_19_26 rfl
theorem k_19_29 : lk 19 29 = some (.iconst 1, 30, 0, 0, .int 1) := by decide +kernel
theorem x_19_29 : Tr sc d 19 (29, [l0, l1, l2], [.int i1, .ref k0], h) Q = Tr sc d 19 (30, [l0, l1, l2], [.int 1, .int i1, .ref k0], h) Q := t_go k_19_29 rfl
theorem k_19_30 : lk 19 30 = some (.if_icmp .ne 7, 33, 37, 0, .null) := by decide +kernel
theorem x_19_30 : Tr sc d 19 (30, [l0, l1, l2], [.int i2, .int i1, .ref k0], h) Q = if i1 = i2 then Tr sc d 19 (33, [l0, l1, l2], [.ref k0], h) Q else Tr sc d 19 (37, [l0, l1, l2], [.ref k0], h) Q := t_if k_19_30 rfl
theorem k_19_33 : lk 19 33 = some (.iload_n 1, 34, 1, 0, .null) := by decide +kernel
theorem x_19_33 : Tr sc d 19 (33, [l0, some (.int x), l2], [.ref k0], h) Q = Tr sc d 19 (34, [l0, some (.int x), l2], [.int x, .ref k0], h) Q := t_iload_n k_19_33 rfl
theorem k_19_34 : lk 19 34 = some (.goto 11, 37, 45, 0, .null) := by decide +kernel
theorem x_19_34 : Tr sc d 19 (34, [l0, l1, l2], [.int i1, .ref k0], h) Q = Tr sc d 19 (45, [l0, l1, l2], [.int i1, .ref k0], h) Q := t_go k_19_34 rfl
theorem k_19_37 : lk 19 37 = some (.aload_n 0, 38, 0, 0, .null) := by decide +kernel
theorem x_19_37 : Tr sc d 19 (37, [some (.ref xk), l1, l2], [.ref k0], h) Q = Tr sc d 19 (38, [some (.ref xk), l1, l2], [.ref xk, .ref k0], h) Q := t_aload_n k_19_37 rfl
theorem k_19_38 : lk 19 38 = some (.getfield 94, 41, 1, 7, .int 0) := by decide +kernel
theorem x_19_38 : Tr sc d 19 (38, [l0, l1, l2], [.ref k1, .ref k0], h) Q = (okp h k1 1 = true ∧ Tr sc d 19 (41, [l0, l1, l2], [.int (hI h k1 7), .ref k0], h) Q) := t_gd k_19_38 rfl
theorem k_19_41 : lk 19 41 = some (.iload_n 1, 42, 1, 0, .null) := by decide +kernel
theorem x_19_41 : Tr sc d 19 (41, [l0, some (.int x), l2], [.int i1, .ref k0], h) Q = Tr sc d 19 (42, [l0, some (.int x), l2], [.int x, .int i1, .ref k0], h) Q := t_iload_n k_19_41 rfl
theorem k_19_42 : lk 19 42 = some (.invokestatic 83, 45, 9002, 0, .null) := by decide +kernel
theorem x_19_42 : Tr sc d 19 (42, [l0, l1, l2], [.int i2, .int i1, .ref k0], h) Q = Tr sc d 19 (45, [l0, l1, l2], [.int (if i1 < i2 then i2 else i1), .ref k0], h) Q := t_go k_19_42 rfl
theorem k_19_45 : lk 19 45 = some (.putfield 94, 48, 1, 7, .int 0) := by decide +kernel
theorem x_19_45 : Tr sc d 19 (45, [l0, l1, l2], [.int i1, .ref k0], h) Q = (okp h k0 1 = true ∧ Tr sc d 19 (48, [l0, l1, l2], [], (sI h k0 7 i1)) Q) := t_gd k_19_45 rfl
theorem k_19_48 : lk 19 48 = some (.aload_n 0, 49, 0, 0, .null) := by decide +kernel
theorem x_19_48 : Tr sc d 19 (48, [some (.ref xk), l1, l2], [], h) Q = Tr sc d 19 (49, [some (.ref xk), l1, l2], [.ref xk], h) Q := t_aload_n k_19_48 rfl
theorem k_19_49 : lk 19 49 = some (.aload_n 0, 50, 0, 0, .null) := by decide +kernel
theorem x_19_49 : Tr sc d 19 (49, [some (.ref xk), l1, l2], [.ref k0], h) Q = Tr sc d 19 (50, [some (.ref xk), l1, l2], [.ref xk, .ref k0], h) Q := t_aload_n k_19_49 rfl
theorem k_19_50 : lk 19 50 = some (.getfield 15, 53, 1, 4, .int 0) := by decide +kernel
theorem x_19_50 : Tr sc d 19 (50, [l0, l1, l2], [.ref k1, .ref k0], h) Q = (okp h k1 1 = true ∧ Tr sc d 19 (53, [l0, l1, l2], [.int (hI h k1 4), .ref k0], h) Q) := t_gd k_19_50 rfl
theorem k_19_53 : lk 19 53 = some (.iconst 1, 54, 0, 0, .int 1) := by decide +kernel
theorem x_19_53 : Tr sc d 19 (53, [l0, l1, l2], [.int i1, .ref k0], h) Q = Tr sc d 19 (54, [l0, l1, l2], [.int 1, .int i1, .ref k0], h) Q := t_go k_19_53 rfl
theorem k_19_54 : lk 19 54 = some (.if_icmp .ne 7, 57, 61, 0, .null) := by decide +kernel
theorem x_19_54 : Tr sc d 19 (54, [l0, l1, l2], [.int i2, .int i1, .ref k0], h) Q = if i1 = i2 then Tr sc d 19 (57, [l0, l1, l2], [.ref k0], h) Q else Tr sc d 19 (61, [l0, l1, l2], [.ref k0], h) Q := t_if k_19_54 rfl
theorem k_19_57 : lk 19 57 = some (.iload_n 2, 58, 2, 0, .null) := by decide +kernel
theorem x_19_57 : Tr sc d 19 (57, [l0, l1, some (.int x)], [.ref k0], h) Q = Tr sc d 19 (58, [l0, l1, some (.int x)], [.int x, .ref k0], h) Q := t_iload_n k_19_57 rfl
theorem k_19_58 : lk 19 58 = some (.goto 11, 61, 69, 0, .null) := by decide +kernel
theorem x_19_58 : Tr sc d 19 (58, [l0, l1, l2], [.int i1, .ref k0], h) Q = Tr sc d 19 (69, [l0, l1, l2], [.int i1, .ref k0], h) Q := t_go k_19_58 rfl
theorem k_19_61 : lk 19 61 = some (.aload_n 0, 62, 0, 0, .null) := by decide +kernel
theorem x_19_61 : Tr sc d 19 (61, [some (.ref xk), l1, l2], [.ref k0], h) Q = Tr sc d 19 (62, [some (.ref xk), l1, l2], [.ref xk, .ref k0], h) Q := t_aload_n k_19_61 rfl
theorem k_19_62 : lk 19 62 = some (.getfield 97, 65, 1, 8, .int 0) := by decide +kernel
theorem x_19_62 : Tr sc d 19 (62, [l0, l1, l2], [.ref k1, .ref k0], h) Q = (okp h k1 1 = true ∧ Tr sc d 19 (65, [l0, l1, l2], [.int (hI h k1 8), .ref k0], h) Q) := t_gd k_19_62 rfl
theorem k_19_65 : lk 19 65 = some (.iload_n 2, 66, 2, 0, .null) := by decide +kernel
theorem x_19_65 : Tr sc d 19 (65, [l0, l1, some (.int x)], [.int i1, .ref k0], h) Q = Tr sc d 19 (66, [l0, l1, some (.int x)], [.int x, .int i1, .ref k0], h) Q := t_iload_n k_19_65 rfl
theorem k_19_66 : lk 19 66 = some (.invokestatic 91, 69, 9003, 0, .null) := by decide +kernel
theorem x_19_66 : Tr sc d 19 (66, [l0, l1, l2], [.int i2, .int i1, .ref k0], h) Q = Tr sc d 19 (69, [l0, l1, l2], [.int (if i2 < i1 then i2 else i1), .ref k0], h) Q := t_go k_19_66 rfl
theorem k_19_69 : lk 19 69 = some (.putfield 97, 72, 1, 8, .int 0) := by decide +kernel
theorem x_19_69 : Tr sc d 19 (69, [l0, l1, l2], [.int i1, .ref k0], h) Q = (okp h k0 1 = true ∧ Tr sc d 19 (72, [l0, l1, l2], [], (sI h k0 8 i1)) Q) := t_gd k_19_69 rfl
theorem k_19_72 : lk 19 72 = some (.aload_n 0, 73, 0, 0, .null) := by decide +kernel
theorem x_19_72 : Tr sc d 19 (72, [some (.ref xk), l1, l2], [], h) Q = Tr sc d 19 (73, [some (.ref xk), l1, l2], [.ref xk], h) Q := t_aload_n k_19_72 rfl
theorem k_19_73 : lk 19 73 = some (.aload_n 0, 74, 0, 0, .null) := by decide +kernel
theorem x_19_73 : Tr sc d 19 (73, [some (.ref xk), l1, l2], [.ref k0], h) Q = Tr sc d 19 (74, [some (.ref xk), l1, l2], [.ref xk, .ref k0], h) Q := t_aload_n k_19_73 rfl
theorem k_19_74 : lk 19 74 = some (.getfield 15, 77, 1, 4, .int 0) := by decide +kernel
theorem x_19_74 : Tr sc d 19 (74, [l0, l1, l2], [.ref k1, .ref k0], h) Q = (okp h k1 1 = true ∧ Tr sc d 19 (77, [l0, l1, l2], [.int (hI h k1 4), .ref k0], h) Q) := t_gd k_19_74 rfl
theorem k_19_77 : lk 19 77 = some (.iconst 1, 78, 0, 0, .int 1) := by decide +kernel
theorem x_19_77 : Tr sc d 19 (77, [l0, l1, l2], [.int i1, .ref k0], h) Q = Tr sc d 19 (78, [l0, l1, l2], [.int 1, .int i1, .ref k0], h) Q := t_go k_19_77 rfl
theorem k_19_78 : lk 19 78 = some (.if_icmp .ne 7, 81, 85, 0, .null) := by decide +kernel
theorem x_19_78 : Tr sc d 19 (78, [l0, l1, l2], [.int i2, .int i1, .ref k0], h) Q = if i1 = i2 then Tr sc d 19 (81, [l0, l1, l2], [.ref k0], h) Q else Tr sc d 19 (85, [l0, l1, l2], [.ref k0], h) Q := t_if k_19_78 rfl
theorem k_19_81 : lk 19 81 = some (.iload_n 2, 82, 2, 0, .null) := by decide +kernel
theorem x_19_81 : Tr sc d 19 (81, [l0, l1, some (.int x)], [.ref k0], h) Q = Tr sc d 19 (82, [l0, l1, some (.int x)], [.int x, .ref k0], h) Q := t_iload_n k_19_81 rfl
theorem k_19_82 : lk 19 82 = some (.goto 11, 85, 93, 0, .null) := by decide +kernel
theorem x_19_82 : Tr sc d 19 (82, [l0, l1, l2], [.int i1, .ref k0], h) Q = Tr sc d 19 (93, [l0, l1, l2], [.int i1, .ref k0], h) Q := t_go k_19_82 rfl
theorem k_19_85 : lk 19 85 = some (.aload_n 0, 86, 0, 0, .null) := by decide +kernel
theorem x_19_85 : Tr sc d 19 (85, [some (.ref xk), l1, l2], [.ref k0], h) Q = Tr sc d 19 (86, [some (.ref xk), l1, l2], [.ref xk, .ref k0], h) Q := t_aload_n k_19_85 rfl
theorem k_19_86 : lk 19 86 = some (.getfield 100, 89, 1, 9, .int 0) := by decide +kernel
theorem x_19_86 : Tr sc d 19 (86, [l0, l1, l2], [.ref k1, .ref k0], h) Q = (okp h k1 1 = true ∧ Tr sc d 19 (89, [l0, l1, l2], [.int (hI h k1 9), .ref k0], h) Q) := t_gd k_19_86 rfl
theorem k_19_89 : lk 19 89 = some (.iload_n 2, 90, 2, 0, .null) := by decide +kernel
theorem x_19_89 : Tr sc d 19 (89, [l0, l1, some (.int x)], [.int i1, .ref k0], h) Q = Tr sc d 19 (90, [l0, l1, some (.int x)], [.int x, .int i1, .ref k0], h) Q := t_iload_n k_19_89 rfl
theorem k_19_90 : lk 19 90 = some (.invokestatic 83, 93, 9002, 0, .null) := by decide +kernel
theorem x_19_90 : Tr sc d 19 (90, [l0, l1, l2], [.int i2, .int i1, .ref k0], h) Q = Tr sc d 19 (93, [l0, l1, l2], [.int (if i1 < i2 then i2 else i1), .ref k0], h) Q := t_go k_19_90 rfl
theorem k_19_93 : lk 19 93 = some (.putfield 100, 96, 1, 9, .int 0) := by decide +kernel
theorem x_19_93 : Tr sc d 19 (93, [l0, l1, l2], [.int i1, .ref k0], h) Q = (okp h k0 1 = true ∧ Tr sc d 19 (96, [l0, l1, l2], [], (sI h k0 9 i1)) Q) := t_gd k_19_93 rfl
theorem k_19_96 : lk 19 96 = some (.return_, 97, 0, 0, .null) := by decide +kernel
theorem x_19_96 : Tr sc d 19 (96, [l0, l1, l2], [], h) Q = Q (none, h) := t_ret k_19_96 (by rw [r_19]; rfl)
theorem e_19 : Tr sc d 19 (ent0 19 [.ref k0, .int i1, .int i2] h) Q = Tr sc d 19 (0, [some (.ref k0), some (.int i1), some (.int i2)], [], h) Q := by
  have e : mL 19 = 3 := by decide +kernel
  unfold ent0
  rw [e]
  rfl
theorem r_20 : mR 20 = some .long := by decide +kernel
theorem k_20_0 : lk 20 0 = some (.lconst 0, 1, 0, 0, .long 0) := by decide +kernel
theorem x_20_0 : Tr sc d 20 (0, [l0, l1, l2, l3, l4], [], h) Q = Tr sc d 20 (1, [l0, l1, l2, l3, l4], [.long 0], h) Q := t_go k_20_0 rfl
theorem k_20_1 : lk 20 1 = some (.lstore_n 2, 2, 2, 0, .null) := by decide +kernel
theorem x_20_1 : Tr sc d 20 (1, [l0, l1, l2, l3, l4], [.long j0], h) Q = Tr sc d 20 (2, [l0, cl2 l1, some (.long j0), none, l4], [], h) Q := t_lstore_n k_20_1 (Nat.le_of_ble_eq_true rfl)
theorem k_20_2 : lk 20 2 = some (.iconst 0, 3, 0, 0, .int 0) := by decide +kernel
theorem x_20_2 : Tr sc d 20 (2, [l0, l1, l2, l3, l4], [], h) Q = Tr sc d 20 (3, [l0, l1, l2, l3, l4], [.int 0], h) Q := t_go k_20_2 rfl
theorem k_20_3 : lk 20 3 = some (.istore 4, 5, 4, 0, .null) := by decide +kernel
theorem x_20_3 : Tr sc d 20 (3, [l0, l1, l2, l3, l4], [.int i0], h) Q = Tr sc d 20 (5, [l0, l1, l2, cl2 l3, some (.int i0)], [], h) Q := t_istore k_20_3 (Nat.le_of_ble_eq_true rfl)
theorem k_20_5 : lk 20 5 = some (.iload 4, 7, 4, 0, .null) := by decide +kernel
theorem x_20_5 : Tr sc d 20 (5, [l0, l1, l2, l3, some (.int x)], [], h) Q = Tr sc d 20 (7, [l0, l1, l2, l3, some (.int x)], [.int x], h) Q := t_iload k_20_5 rfl
theorem k_20_7 : lk 20 7 = some (.aload_n 0, 8, 0, 0, .null) := by decide +kernel
theorem x_20_7 : Tr sc d 20 (7, [some (.ref xk), l1, l2, l3, l4], [.int i0], h) Q = Tr sc d 20 (8, [some (.ref xk), l1, l2, l3, l4], [.ref xk, .int i0], h) Q := t_aload_n k_20_7 rfl
theorem k_20_8 : lk 20 8 = some (.getfield 15, 11, 1, 4, .int 0) := by decide +kernel
theorem x_20_8 : Tr sc d 20 (8, [l0, l1, l2, l3, l4], [.ref k1, .int i0], h) Q = (okp h k1 1 = true ∧ Tr sc d 20 (11, [l0, l1, l2, l3, l4], [.int (hI h k1 4), .int i0], h) Q) := t_gd k_20_8 rfl
theorem k_20_11 : lk 20 11 = some (.if_icmp .ge 40, 14, 51, 0, .null) := by decide +kernel
theorem x_20_11 : Tr sc d 20 (11, [l0, l1, l2, l3, l4], [.int i1, .int i0], h) Q = if i1 ≤ i0 then Tr sc d 20 (51, [l0, l1, l2, l3, l4], [], h) Q else Tr sc d 20 (14, [l0, l1, l2, l3, l4], [], h) Q := t_if k_20_11 rfl
theorem k_20_14 : lk 20 14 = some (.aload_n 0, 15, 0, 0, .null) := by decide +kernel
theorem x_20_14 : Tr sc d 20 (14, [some (.ref xk), l1, l2, l3, l4], [], h) Q = Tr sc d 20 (15, [some (.ref xk), l1, l2, l3, l4], [.ref xk], h) Q := t_aload_n k_20_14 rfl
theorem k_20_15 : lk 20 15 = some (.iload 4, 17, 4, 0, .null) := by decide +kernel
theorem x_20_15 : Tr sc d 20 (15, [l0, l1, l2, l3, some (.int x)], [.ref k0], h) Q = Tr sc d 20 (17, [l0, l1, l2, l3, some (.int x)], [.int x, .ref k0], h) Q := t_iload k_20_15 rfl
theorem k_20_17 : lk 20 17 = some (.invokevirtual 103, 20, 15, 1, .null) := by decide +kernel
theorem x_20_17 : Tr sc (d + 1) 20 (17, [l0, l1, l2, l3, l4], [.int i1, .ref k0], h) Q = (okp h k0 1 = true ∧ Tr sc d 15 (ent0 15 [.ref k0, .int i1] h) (fun z => Tr sc (d + 1) 20 (20, [l0, l1, l2, l3, l4], z.1.toList ++ [], z.2) Q)) := t_cv (as := [.int i1]) (r := []) k_20_17 rfl rfl (Nat.le_of_ble_eq_true rfl) (Nat.le_of_ble_eq_true rfl) (Nat.le_of_ble_eq_true rfl)
theorem k_20_20 : lk 20 20 = some (.aload_n 0, 21, 0, 0, .null) := by decide +kernel
theorem x_20_20 : Tr sc d 20 (20, [some (.ref xk), l1, l2, l3, l4], [.int i0], h) Q = Tr sc d 20 (21, [some (.ref xk), l1, l2, l3, l4], [.ref xk, .int i0], h) Q := t_aload_n k_20_20 rfl
theorem k_20_21 : lk 20 21 = some (.getfield 97, 24, 1, 8, .int 0) := by decide +kernel
theorem x_20_21 : Tr sc d 20 (21, [l0, l1, l2, l3, l4], [.ref k1, .int i0], h) Q = (okp h k1 1 = true ∧ Tr sc d 20 (24, [l0, l1, l2, l3, l4], [.int (hI h k1 8), .int i0], h) Q) := t_gd k_20_21 rfl
theorem k_20_24 : lk 20 24 = some (.isub, 25, 0, 0, .null) := by decide +kernel
theorem x_20_24 : Tr sc d 20 (24, [l0, l1, l2, l3, l4], [.int i1, .int i0], h) Q = Tr sc d 20 (25, [l0, l1, l2, l3, l4], [.int (i0 - i1)], h) Q := t_go k_20_24 rfl
theorem k_20_25 : lk 20 25 = some (.iload_n 1, 26, 1, 0, .null) := by decide +kernel
theorem x_20_25 : Tr sc d 20 (25, [l0, some (.int x), l2, l3, l4], [.int i0], h) Q = Tr sc d 20 (26, [l0, some (.int x), l2, l3, l4], [.int x, .int i0], h) Q := t_iload_n k_20_25 rfl
theorem k_20_26 : lk 20 26 = some (.if_icmp .ne 19, 29, 45, 0, .null) := by decide +kernel
theorem x_20_26 : Tr sc d 20 (26, [l0, l1, l2, l3, l4], [.int i1, .int i0], h) Q = if i0 = i1 then Tr sc d 20 (29, [l0, l1, l2, l3, l4], [], h) Q else Tr sc d 20 (45, [l0, l1, l2, l3, l4], [], h) Q := t_if k_20_26 rfl
theorem k_20_29 : lk 20 29 = some (.lload_n 2, 30, 2, 0, .null) := by decide +kernel
theorem x_20_29 : Tr sc d 20 (29, [l0, l1, some (.long xl), l3, l4], [], h) Q = Tr sc d 20 (30, [l0, l1, some (.long xl), l3, l4], [.long xl], h) Q := t_lload_n k_20_29 rfl
theorem k_20_30 : lk 20 30 = some (.lconst 1, 31, 0, 0, .long 1) := by decide +kernel
theorem x_20_30 : Tr sc d 20 (30, [l0, l1, l2, l3, l4], [.long j0], h) Q = Tr sc d 20 (31, [l0, l1, l2, l3, l4], [.long 1, .long j0], h) Q := t_go k_20_30 rfl
theorem k_20_31 : lk 20 31 = some (.aload_n 0, 32, 0, 0, .null) := by decide +kernel
theorem x_20_31 : Tr sc d 20 (31, [some (.ref xk), l1, l2, l3, l4], [.long j1, .long j0], h) Q = Tr sc d 20 (32, [some (.ref xk), l1, l2, l3, l4], [.ref xk, .long j1, .long j0], h) Q := t_aload_n k_20_31 rfl
theorem k_20_32 : lk 20 32 = some (.iload 4, 34, 4, 0, .null) := by decide +kernel
theorem x_20_32 : Tr sc d 20 (32, [l0, l1, l2, l3, some (.int x)], [.ref k2, .long j1, .long j0], h) Q = Tr sc d 20 (34, [l0, l1, l2, l3, some (.int x)], [.int x, .ref k2, .long j1, .long j0], h) Q := t_iload k_20_32 rfl
theorem k_20_34 : lk 20 34 = some (.invokevirtual 106, 37, 14, 1, .null) := by decide +kernel
theorem x_20_34 : Tr sc (d + 1) 20 (34, [l0, l1, l2, l3, l4], [.int i3, .ref k2, .long j1, .long j0], h) Q = (okp h k2 1 = true ∧ Tr sc d 14 (ent0 14 [.ref k2, .int i3] h) (fun z => Tr sc (d + 1) 20 (37, [l0, l1, l2, l3, l4], z.1.toList ++ [.long j1, .long j0], z.2) Q)) := t_cv (as := [.int i3]) (r := [.long j1, .long j0]) k_20_34 rfl rfl (Nat.le_of_ble_eq_true rfl) (Nat.le_of_ble_eq_true rfl) (Nat.le_of_ble_eq_true rfl)
theorem k_20_37 : lk 20 37 = some (.aload_n 0, 38, 0, 0, .null) := by decide +kernel
theorem x_20_37 : Tr sc d 20 (37, [some (.ref xk), l1, l2, l3, l4], [.int i2, .long j1, .long j0], h) Q = Tr sc d 20 (38, [some (.ref xk), l1, l2, l3, l4], [.ref xk, .int i2, .long j1, .long j0], h) Q := t_aload_n k_20_37 rfl
theorem k_20_38 : lk 20 38 = some (.getfield 88, 41, 1, 6, .int 0) := by decide +kernel
theorem x_20_38 : Tr sc d 20 (38, [l0, l1, l2, l3, l4], [.ref k3, .int i2, .long j1, .long j0], h) Q = (okp h k3 1 = true ∧ Tr sc d 20 (41, [l0, l1, l2, l3, l4], [.int (hI h k3 6), .int i2, .long j1, .long j0], h) Q) := t_gd k_20_38 rfl
theorem k_20_41 : lk 20 41 = some (.isub, 42, 0, 0, .null) := by decide +kernel
theorem x_20_41 : Tr sc d 20 (41, [l0, l1, l2, l3, l4], [.int i3, .int i2, .long j1, .long j0], h) Q = Tr sc d 20 (42, [l0, l1, l2, l3, l4], [.int (i2 - i3), .long j1, .long j0], h) Q := t_go k_20_41 rfl
theorem k_20_42 : lk 20 42 = some (.lshl, 43, 0, 0, .null) := by decide +kernel
theorem x_20_42 : Tr sc d 20 (42, [l0, l1, l2, l3, l4], [.int i2, .long j1, .long j0], h) Q = Tr sc d 20 (43, [l0, l1, l2, l3, l4], [.long (j1 <<< (i2.toInt64 &&& 63)), .long j0], h) Q := t_go k_20_42 rfl
theorem k_20_43 : lk 20 43 = some (.lor, 44, 0, 0, .null) := by decide +kernel
theorem x_20_43 : Tr sc d 20 (43, [l0, l1, l2, l3, l4], [.long j1, .long j0], h) Q = Tr sc d 20 (44, [l0, l1, l2, l3, l4], [.long (j0 ||| j1)], h) Q := t_go k_20_43 rfl
theorem k_20_44 : lk 20 44 = some (.lstore_n 2, 45, 2, 0, .null) := by decide +kernel
theorem x_20_44 : Tr sc d 20 (44, [l0, l1, l2, l3, l4], [.long j0], h) Q = Tr sc d 20 (45, [l0, cl2 l1, some (.long j0), none, l4], [], h) Q := t_lstore_n k_20_44 (Nat.le_of_ble_eq_true rfl)
theorem k_20_45 : lk 20 45 = some (.iinc 4 1, 48, 4, 0, .int 1) := by decide +kernel
theorem x_20_45 : Tr sc d 20 (45, [l0, l1, l2, l3, some (.int x)], [], h) Q = Tr sc d 20 (48, [l0, l1, l2, cl2 l3, some (.int (x + 1))], [], h) Q := t_inc k_20_45 rfl (Nat.le_of_ble_eq_true rfl)
theorem k_20_48 : lk 20 48 = some (.goto (-43), 51, 5, 0, .null) := by decide +kernel
theorem x_20_48 : Tr sc d 20 (48, [l0, l1, l2, l3, l4], [], h) Q = Tr sc d 20 (5, [l0, l1, l2, l3, l4], [], h) Q := t_go k_20_48 rfl
theorem k_20_51 : lk 20 51 = some (.lload_n 2, 52, 2, 0, .null) := by decide +kernel
theorem x_20_51 : Tr sc d 20 (51, [l0, l1, some (.long xl), l3, l4], [], h) Q = Tr sc d 20 (52, [l0, l1, some (.long xl), l3, l4], [.long xl], h) Q := t_lload_n k_20_51 rfl
theorem k_20_52 : lk 20 52 = some (.lreturn, 53, 0, 0, .null) := by decide +kernel
theorem x_20_52 : Tr sc d 20 (52, [l0, l1, l2, l3, l4], [.long j0], h) Q = Q (some (.long j0), h) := t_ret k_20_52 (by rw [r_20]; rfl)
theorem e_20 : Tr sc d 20 (ent0 20 [.ref k0, .int i1] h) Q = Tr sc d 20 (0, [some (.ref k0), some (.int i1), none, none, none], [], h) Q := by
  have e : mL 20 = 5 := by decide +kernel
  unfold ent0
  rw [e]
  rfl
theorem r_21 : mR 21 = some .boolean := by decide +kernel
theorem k_21_0 : lk 21 0 = some (.iconst 0, 1, 0, 0, .int 0) := by decide +kernel
theorem x_21_0 : Tr sc d 21 (0, [l0, l1, l2, l3, l4], [], h) Q = Tr sc d 21 (1, [l0, l1, l2, l3, l4], [.int 0], h) Q := t_go k_21_0 rfl
theorem k_21_1 : lk 21 1 = some (.istore 4, 3, 4, 0, .null) := by decide +kernel
theorem x_21_1 : Tr sc d 21 (1, [l0, l1, l2, l3, l4], [.int i0], h) Q = Tr sc d 21 (3, [l0, l1, l2, cl2 l3, some (.int i0)], [], h) Q := t_istore k_21_1 (Nat.le_of_ble_eq_true rfl)
theorem k_21_3 : lk 21 3 = some (.iload 4, 5, 4, 0, .null) := by decide +kernel
theorem x_21_3 : Tr sc d 21 (3, [l0, l1, l2, l3, some (.int x)], [], h) Q = Tr sc d 21 (5, [l0, l1, l2, l3, some (.int x)], [.int x], h) Q := t_iload k_21_3 rfl
theorem k_21_5 : lk 21 5 = some (.aload_n 0, 6, 0, 0, .null) := by decide +kernel
theorem x_21_5 : Tr sc d 21 (5, [some (.ref xk), l1, l2, l3, l4], [.int i0], h) Q = Tr sc d 21 (6, [some (.ref xk), l1, l2, l3, l4], [.ref xk, .int i0], h) Q := t_aload_n k_21_5 rfl
theorem k_21_6 : lk 21 6 = some (.getfield 15, 9, 1, 4, .int 0) := by decide +kernel
theorem x_21_6 : Tr sc d 21 (6, [l0, l1, l2, l3, l4], [.ref k1, .int i0], h) Q = (okp h k1 1 = true ∧ Tr sc d 21 (9, [l0, l1, l2, l3, l4], [.int (hI h k1 4), .int i0], h) Q) := t_gd k_21_6 rfl
theorem k_21_9 : lk 21 9 = some (.if_icmp .ge 34, 12, 43, 0, .null) := by decide +kernel
theorem x_21_9 : Tr sc d 21 (9, [l0, l1, l2, l3, l4], [.int i1, .int i0], h) Q = if i1 ≤ i0 then Tr sc d 21 (43, [l0, l1, l2, l3, l4], [], h) Q else Tr sc d 21 (12, [l0, l1, l2, l3, l4], [], h) Q := t_if k_21_9 rfl
theorem k_21_12 : lk 21 12 = some (.aload_n 1, 13, 1, 0, .null) := by decide +kernel
theorem x_21_12 : Tr sc d 21 (12, [l0, some (.ref xk), l2, l3, l4], [], h) Q = Tr sc d 21 (13, [l0, some (.ref xk), l2, l3, l4], [.ref xk], h) Q := t_aload_n k_21_12 rfl
theorem k_21_13 : lk 21 13 = some (.aload_n 0, 14, 0, 0, .null) := by decide +kernel
theorem x_21_13 : Tr sc d 21 (13, [some (.ref xk), l1, l2, l3, l4], [.ref k0], h) Q = Tr sc d 21 (14, [some (.ref xk), l1, l2, l3, l4], [.ref xk, .ref k0], h) Q := t_aload_n k_21_13 rfl
theorem k_21_14 : lk 21 14 = some (.iload 4, 16, 4, 0, .null) := by decide +kernel
theorem x_21_14 : Tr sc d 21 (14, [l0, l1, l2, l3, some (.int x)], [.ref k1, .ref k0], h) Q = Tr sc d 21 (16, [l0, l1, l2, l3, some (.int x)], [.int x, .ref k1, .ref k0], h) Q := t_iload k_21_14 rfl
theorem k_21_16 : lk 21 16 = some (.invokevirtual 106, 19, 14, 1, .null) := by decide +kernel
theorem x_21_16 : Tr sc (d + 1) 21 (16, [l0, l1, l2, l3, l4], [.int i2, .ref k1, .ref k0], h) Q = (okp h k1 1 = true ∧ Tr sc d 14 (ent0 14 [.ref k1, .int i2] h) (fun z => Tr sc (d + 1) 21 (19, [l0, l1, l2, l3, l4], z.1.toList ++ [.ref k0], z.2) Q)) := t_cv (as := [.int i2]) (r := [.ref k0]) k_21_16 rfl rfl (Nat.le_of_ble_eq_true rfl) (Nat.le_of_ble_eq_true rfl) (Nat.le_of_ble_eq_true rfl)
theorem k_21_19 : lk 21 19 = some (.iload_n 2, 20, 2, 0, .null) := by decide +kernel
theorem x_21_19 : Tr sc d 21 (19, [l0, l1, some (.int x), l3, l4], [.int i1, .ref k0], h) Q = Tr sc d 21 (20, [l0, l1, some (.int x), l3, l4], [.int x, .int i1, .ref k0], h) Q := t_iload_n k_21_19 rfl
theorem k_21_20 : lk 21 20 = some (.iadd, 21, 0, 0, .null) := by decide +kernel
theorem x_21_20 : Tr sc d 21 (20, [l0, l1, l2, l3, l4], [.int i2, .int i1, .ref k0], h) Q = Tr sc d 21 (21, [l0, l1, l2, l3, l4], [.int (i1 + i2), .ref k0], h) Q := t_go k_21_20 rfl
theorem k_21_21 : lk 21 21 = some (.aload_n 0, 22, 0, 0, .null) := by decide +kernel
theorem x_21_21 : Tr sc d 21 (21, [some (.ref xk), l1, l2, l3, l4], [.int i1, .ref k0], h) Q = Tr sc d 21 (22, [some (.ref xk), l1, l2, l3, l4], [.ref xk, .int i1, .ref k0], h) Q := t_aload_n k_21_21 rfl
theorem k_21_22 : lk 21 22 = some (.iload 4, 24, 4, 0, .null) := by decide +kernel
theorem x_21_22 : Tr sc d 21 (22, [l0, l1, l2, l3, some (.int x)], [.ref k2, .int i1, .ref k0], h) Q = Tr sc d 21 (24, [l0, l1, l2, l3, some (.int x)], [.int x, .ref k2, .int i1, .ref k0], h) Q := t_iload k_21_22 rfl
theorem k_21_24 : lk 21 24 = some (.invokevirtual 103, 27, 15, 1, .null) := by decide +kernel
theorem x_21_24 : Tr sc (d + 1) 21 (24, [l0, l1, l2, l3, l4], [.int i3, .ref k2, .int i1, .ref k0], h) Q = (okp h k2 1 = true ∧ Tr sc d 15 (ent0 15 [.ref k2, .int i3] h) (fun z => Tr sc (d + 1) 21 (27, [l0, l1, l2, l3, l4], z.1.toList ++ [.int i1, .ref k0], z.2) Q)) := t_cv (as := [.int i3]) (r := [.int i1, .ref k0]) k_21_24 rfl rfl (Nat.le_of_ble_eq_true rfl) (Nat.le_of_ble_eq_true rfl) (Nat.le_of_ble_eq_true rfl)
theorem k_21_27 : lk 21 27 = some (.iload_n 3, 28, 3, 0, .null) := by decide +kernel
theorem x_21_27 : Tr sc d 21 (27, [l0, l1, l2, some (.int x), l4], [.int i2, .int i1, .ref k0], h) Q = Tr sc d 21 (28, [l0, l1, l2, some (.int x), l4], [.int x, .int i2, .int i1, .ref k0], h) Q := t_iload_n k_21_27 rfl
theorem k_21_28 : lk 21 28 = some (.iadd, 29, 0, 0, .null) := by decide +kernel
theorem x_21_28 : Tr sc d 21 (28, [l0, l1, l2, l3, l4], [.int i3, .int i2, .int i1, .ref k0], h) Q = Tr sc d 21 (29, [l0, l1, l2, l3, l4], [.int (i2 + i3), .int i1, .ref k0], h) Q := t_go k_21_28 rfl
theorem k_21_29 : lk 21 29 = some (.invokevirtual 109, 32, 17, 2, .null) := by decide +kernel
theorem x_21_29 : Tr sc (d + 1) 21 (29, [l0, l1, l2, l3, l4], [.int i2, .int i1, .ref k0], h) Q = (okp h k0 1 = true ∧ Tr sc d 17 (ent0 17 [.ref k0, .int i1, .int i2] h) (fun z => Tr sc (d + 1) 21 (32, [l0, l1, l2, l3, l4], z.1.toList ++ [], z.2) Q)) := t_cv (as := [.int i1, .int i2]) (r := []) k_21_29 rfl rfl (Nat.le_of_ble_eq_true rfl) (Nat.le_of_ble_eq_true rfl) (Nat.le_of_ble_eq_true rfl)
theorem k_21_32 : lk 21 32 = some (.ifCond .ge 5, 35, 37, 0, .null) := by decide +kernel
theorem x_21_32 : Tr sc d 21 (32, [l0, l1, l2, l3, l4], [.int i0], h) Q = if 0 ≤ i0 then Tr sc d 21 (37, [l0, l1, l2, l3, l4], [], h) Q else Tr sc d 21 (35, [l0, l1, l2, l3, l4], [], h) Q := t_if k_21_32 rfl
theorem k_21_35 : lk 21 35 = some (.iconst 0, 36, 0, 0, .int 0) := by decide +kernel
theorem x_21_35 : Tr sc d 21 (35, [l0, l1, l2, l3, l4], [], h) Q = Tr sc d 21 (36, [l0, l1, l2, l3, l4], [.int 0], h) Q := t_go k_21_35 rfl
theorem k_21_36 : lk 21 36 = some (.ireturn, 37, 0, 0, .null) := by decide +kernel
theorem x_21_36 : Tr sc d 21 (36, [l0, l1, l2, l3, l4], [.int i0], h) Q = (vp_nar .boolean i0 = i0 ∧ Q (some (.int i0), h)) := t_zret k_21_36 r_21
theorem k_21_37 : lk 21 37 = some (.iinc 4 1, 40, 4, 0, .int 1) := by decide +kernel
theorem x_21_37 : Tr sc d 21 (37, [l0, l1, l2, l3, some (.int x)], [], h) Q = Tr sc d 21 (40, [l0, l1, l2, cl2 l3, some (.int (x + 1))], [], h) Q := t_inc k_21_37 rfl (Nat.le_of_ble_eq_true rfl)
theorem k_21_40 : lk 21 40 = some (.goto (-37), 43, 3, 0, .null) := by decide +kernel
theorem x_21_40 : Tr sc d 21 (40, [l0, l1, l2, l3, l4], [], h) Q = Tr sc d 21 (3, [l0, l1, l2, l3, l4], [], h) Q := t_go k_21_40 rfl
theorem k_21_43 : lk 21 43 = some (.iconst 1, 44, 0, 0, .int 1) := by decide +kernel
theorem x_21_43 : Tr sc d 21 (43, [l0, l1, l2, l3, l4], [], h) Q = Tr sc d 21 (44, [l0, l1, l2, l3, l4], [.int 1], h) Q := t_go k_21_43 rfl
theorem k_21_44 : lk 21 44 = some (.ireturn, 45, 0, 0, .null) := by decide +kernel
theorem x_21_44 : Tr sc d 21 (44, [l0, l1, l2, l3, l4], [.int i0], h) Q = (vp_nar .boolean i0 = i0 ∧ Q (some (.int i0), h)) := t_zret k_21_44 r_21
theorem e_21 : Tr sc d 21 (ent0 21 [.ref k0, .ref k1, .int i2, .int i3] h) Q = Tr sc d 21 (0, [some (.ref k0), some (.ref k1), some (.int i2), some (.int i3), none], [], h) Q := by
  have e : mL 21 = 5 := by decide +kernel
  unfold ent0
  rw [e]
  rfl
theorem r_22 : mR 22 = none := by decide +kernel
theorem k_22_0 : lk 22 0 = some (.aload_n 0, 1, 0, 0, .null) := by decide +kernel
theorem x_22_0 : Tr sc d 22 (0, [some (.ref xk), l1, l2], [], h) Q = Tr sc d 22 (1, [some (.ref xk), l1, l2], [.ref xk], h) Q := t_aload_n k_22_0 rfl
theorem k_22_1 : lk 22 1 = some (.invokespecial 3, 4, 9000, 0, .null) := by decide +kernel
theorem x_22_1 : Tr sc d 22 (1, [l0, l1, l2], [.ref k0], h) Q = Tr sc d 22 (4, [l0, l1, l2], [], h) Q := t_go k_22_1 rfl
theorem k_22_4 : lk 22 4 = some (.aload_n 0, 5, 0, 0, .null) := by decide +kernel
theorem x_22_4 : Tr sc d 22 (4, [some (.ref xk), l1, l2], [], h) Q = Tr sc d 22 (5, [some (.ref xk), l1, l2], [.ref xk], h) Q := t_aload_n k_22_4 rfl
theorem k_22_5 : lk 22 5 = some (.sipush 216, 8, 0, 0, .int 216) := by decide +kernel
theorem x_22_5 : Tr sc d 22 (5, [l0, l1, l2], [.ref k0], h) Q = Tr sc d 22 (8, [l0, l1, l2], [.int 216, .ref k0], h) Q := t_go k_22_5 rfl
theorem k_22_8 : lk 22 8 = some (.newarray .int, 10, 11, 0, .null) := by decide +kernel
theorem x_22_8 : Tr sc d 22 (8, [l0, l1, l2], [.int i1, .ref k0], h) Q = ((hN h < 1000 ∧ TG (hN h) = 11 ∧ (¬ i1 < 0) ∧ LN (hN h) = i1.toNatClampNeg ∧ LN (hN h) ≤ 60000) ∧ Tr sc d 22 (10, [l0, l1, l2], [.ref (hN h), .ref k0], nH h) Q) := t_gd k_22_8 rfl
theorem k_22_10 : lk 22 10 = some (.putfield 11, 13, 2, 0, .null) := by decide +kernel
theorem x_22_10 : Tr sc d 22 (10, [l0, l1, l2], [.ref k1, .ref k0], h) Q = (okp h k0 2 = true ∧ Tr sc d 22 (13, [l0, l1, l2], [], (sR h k0 0 (some k1))) Q) := t_gd k_22_10 rfl
theorem k_22_13 : lk 22 13 = some (.aload_n 0, 14, 0, 0, .null) := by decide +kernel
theorem x_22_13 : Tr sc d 22 (13, [some (.ref xk), l1, l2], [], h) Q = Tr sc d 22 (14, [some (.ref xk), l1, l2], [.ref xk], h) Q := t_aload_n k_22_13 rfl
theorem k_22_14 : lk 22 14 = some (.sipush 216, 17, 0, 0, .int 216) := by decide +kernel
theorem x_22_14 : Tr sc d 22 (14, [l0, l1, l2], [.ref k0], h) Q = Tr sc d 22 (17, [l0, l1, l2], [.int 216, .ref k0], h) Q := t_go k_22_14 rfl
theorem k_22_17 : lk 22 17 = some (.newarray .int, 19, 11, 0, .null) := by decide +kernel
theorem x_22_17 : Tr sc d 22 (17, [l0, l1, l2], [.int i1, .ref k0], h) Q = ((hN h < 1000 ∧ TG (hN h) = 11 ∧ (¬ i1 < 0) ∧ LN (hN h) = i1.toNatClampNeg ∧ LN (hN h) ≤ 60000) ∧ Tr sc d 22 (19, [l0, l1, l2], [.ref (hN h), .ref k0], nH h) Q) := t_gd k_22_17 rfl
theorem k_22_19 : lk 22 19 = some (.putfield 15, 22, 2, 1, .null) := by decide +kernel
theorem x_22_19 : Tr sc d 22 (19, [l0, l1, l2], [.ref k1, .ref k0], h) Q = (okp h k0 2 = true ∧ Tr sc d 22 (22, [l0, l1, l2], [], (sR h k0 1 (some k1))) Q) := t_gd k_22_19 rfl
theorem k_22_22 : lk 22 22 = some (.aload_n 0, 23, 0, 0, .null) := by decide +kernel
theorem x_22_22 : Tr sc d 22 (22, [some (.ref xk), l1, l2], [], h) Q = Tr sc d 22 (23, [some (.ref xk), l1, l2], [.ref xk], h) Q := t_aload_n k_22_22 rfl
theorem k_22_23 : lk 22 23 = some (.sipush 216, 26, 0, 0, .int 216) := by decide +kernel
theorem x_22_23 : Tr sc d 22 (23, [l0, l1, l2], [.ref k0], h) Q = Tr sc d 22 (26, [l0, l1, l2], [.int 216, .ref k0], h) Q := t_go k_22_23 rfl
theorem k_22_26 : lk 22 26 = some (.newarray .int, 28, 11, 0, .null) := by decide +kernel
theorem x_22_26 : Tr sc d 22 (26, [l0, l1, l2], [.int i1, .ref k0], h) Q = ((hN h < 1000 ∧ TG (hN h) = 11 ∧ (¬ i1 < 0) ∧ LN (hN h) = i1.toNatClampNeg ∧ LN (hN h) ≤ 60000) ∧ Tr sc d 22 (28, [l0, l1, l2], [.ref (hN h), .ref k0], nH h) Q) := t_gd k_22_26 rfl
theorem k_22_28 : lk 22 28 = some (.putfield 18, 31, 2, 2, .null) := by decide +kernel
theorem x_22_28 : Tr sc d 22 (28, [l0, l1, l2], [.ref k1, .ref k0], h) Q = (okp h k0 2 = true ∧ Tr sc d 22 (31, [l0, l1, l2], [], (sR h k0 2 (some k1))) Q) := t_gd k_22_28 rfl
theorem k_22_31 : lk 22 31 = some (.aload_n 0, 32, 0, 0, .null) := by decide +kernel
theorem x_22_31 : Tr sc d 22 (31, [some (.ref xk), l1, l2], [], h) Q = Tr sc d 22 (32, [some (.ref xk), l1, l2], [.ref xk], h) Q := t_aload_n k_22_31 rfl
theorem k_22_32 : lk 22 32 = some (.sipush 216, 35, 0, 0, .int 216) := by decide +kernel
theorem x_22_32 : Tr sc d 22 (32, [l0, l1, l2], [.ref k0], h) Q = Tr sc d 22 (35, [l0, l1, l2], [.int 216, .ref k0], h) Q := t_go k_22_32 rfl
theorem k_22_35 : lk 22 35 = some (.newarray .int, 37, 11, 0, .null) := by decide +kernel
theorem x_22_35 : Tr sc d 22 (35, [l0, l1, l2], [.int i1, .ref k0], h) Q = ((hN h < 1000 ∧ TG (hN h) = 11 ∧ (¬ i1 < 0) ∧ LN (hN h) = i1.toNatClampNeg ∧ LN (hN h) ≤ 60000) ∧ Tr sc d 22 (37, [l0, l1, l2], [.ref (hN h), .ref k0], nH h) Q) := t_gd k_22_35 rfl
theorem k_22_37 : lk 22 37 = some (.putfield 21, 40, 2, 3, .null) := by decide +kernel
theorem x_22_37 : Tr sc d 22 (37, [l0, l1, l2], [.ref k1, .ref k0], h) Q = (okp h k0 2 = true ∧ Tr sc d 22 (40, [l0, l1, l2], [], (sR h k0 3 (some k1))) Q) := t_gd k_22_37 rfl
theorem k_22_40 : lk 22 40 = some (.aload_n 0, 41, 0, 0, .null) := by decide +kernel
theorem x_22_40 : Tr sc d 22 (40, [some (.ref xk), l1, l2], [], h) Q = Tr sc d 22 (41, [some (.ref xk), l1, l2], [.ref xk], h) Q := t_aload_n k_22_40 rfl
theorem k_22_41 : lk 22 41 = some (.sipush 216, 44, 0, 0, .int 216) := by decide +kernel
theorem x_22_41 : Tr sc d 22 (41, [l0, l1, l2], [.ref k0], h) Q = Tr sc d 22 (44, [l0, l1, l2], [.int 216, .ref k0], h) Q := t_go k_22_41 rfl
theorem k_22_44 : lk 22 44 = some (.newarray .int, 46, 11, 0, .null) := by decide +kernel
theorem x_22_44 : Tr sc d 22 (44, [l0, l1, l2], [.int i1, .ref k0], h) Q = ((hN h < 1000 ∧ TG (hN h) = 11 ∧ (¬ i1 < 0) ∧ LN (hN h) = i1.toNatClampNeg ∧ LN (hN h) ≤ 60000) ∧ Tr sc d 22 (46, [l0, l1, l2], [.ref (hN h), .ref k0], nH h) Q) := t_gd k_22_44 rfl
theorem k_22_46 : lk 22 46 = some (.putfield 24, 49, 2, 4, .null) := by decide +kernel
theorem x_22_46 : Tr sc d 22 (46, [l0, l1, l2], [.ref k1, .ref k0], h) Q = (okp h k0 2 = true ∧ Tr sc d 22 (49, [l0, l1, l2], [], (sR h k0 4 (some k1))) Q) := t_gd k_22_46 rfl
theorem k_22_49 : lk 22 49 = some (.aload_n 0, 50, 0, 0, .null) := by decide +kernel
theorem x_22_49 : Tr sc d 22 (49, [some (.ref xk), l1, l2], [], h) Q = Tr sc d 22 (50, [some (.ref xk), l1, l2], [.ref xk], h) Q := t_aload_n k_22_49 rfl
theorem k_22_50 : lk 22 50 = some (.sipush 216, 53, 0, 0, .int 216) := by decide +kernel
theorem x_22_50 : Tr sc d 22 (50, [l0, l1, l2], [.ref k0], h) Q = Tr sc d 22 (53, [l0, l1, l2], [.int 216, .ref k0], h) Q := t_go k_22_50 rfl
theorem k_22_53 : lk 22 53 = some (.newarray .int, 55, 11, 0, .null) := by decide +kernel
theorem x_22_53 : Tr sc d 22 (53, [l0, l1, l2], [.int i1, .ref k0], h) Q = ((hN h < 1000 ∧ TG (hN h) = 11 ∧ (¬ i1 < 0) ∧ LN (hN h) = i1.toNatClampNeg ∧ LN (hN h) ≤ 60000) ∧ Tr sc d 22 (55, [l0, l1, l2], [.ref (hN h), .ref k0], nH h) Q) := t_gd k_22_53 rfl
theorem k_22_55 : lk 22 55 = some (.putfield 27, 58, 2, 5, .null) := by decide +kernel
theorem x_22_55 : Tr sc d 22 (55, [l0, l1, l2], [.ref k1, .ref k0], h) Q = (okp h k0 2 = true ∧ Tr sc d 22 (58, [l0, l1, l2], [], (sR h k0 5 (some k1))) Q) := t_gd k_22_55 rfl
theorem k_22_58 : lk 22 58 = some (.aload_n 0, 59, 0, 0, .null) := by decide +kernel
theorem x_22_58 : Tr sc d 22 (58, [some (.ref xk), l1, l2], [], h) Q = Tr sc d 22 (59, [some (.ref xk), l1, l2], [.ref xk], h) Q := t_aload_n k_22_58 rfl
theorem k_22_59 : lk 22 59 = some (.sipush 216, 62, 0, 0, .int 216) := by decide +kernel
theorem x_22_59 : Tr sc d 22 (59, [l0, l1, l2], [.ref k0], h) Q = Tr sc d 22 (62, [l0, l1, l2], [.int 216, .ref k0], h) Q := t_go k_22_59 rfl
theorem k_22_62 : lk 22 62 = some (.newarray .boolean, 64, 13, 0, .null) := by decide +kernel
theorem x_22_62 : Tr sc d 22 (62, [l0, l1, l2], [.int i1, .ref k0], h) Q = ((hN h < 1000 ∧ TG (hN h) = 13 ∧ (¬ i1 < 0) ∧ LN (hN h) = i1.toNatClampNeg ∧ LN (hN h) ≤ 60000) ∧ Tr sc d 22 (64, [l0, l1, l2], [.ref (hN h), .ref k0], nH h) Q) := t_gd k_22_62 rfl
theorem k_22_64 : lk 22 64 = some (.putfield 30, 67, 2, 6, .null) := by decide +kernel
theorem x_22_64 : Tr sc d 22 (64, [l0, l1, l2], [.ref k1, .ref k0], h) Q = (okp h k0 2 = true ∧ Tr sc d 22 (67, [l0, l1, l2], [], (sR h k0 6 (some k1))) Q) := t_gd k_22_64 rfl
theorem k_22_67 : lk 22 67 = some (.aload_n 0, 68, 0, 0, .null) := by decide +kernel
theorem x_22_67 : Tr sc d 22 (67, [some (.ref xk), l1, l2], [], h) Q = Tr sc d 22 (68, [some (.ref xk), l1, l2], [.ref xk], h) Q := t_aload_n k_22_67 rfl
theorem k_22_68 : lk 22 68 = some (.iconst 0, 69, 0, 0, .int 0) := by decide +kernel
theorem x_22_68 : Tr sc d 22 (68, [l0, l1, l2], [.ref k0], h) Q = Tr sc d 22 (69, [l0, l1, l2], [.int 0, .ref k0], h) Q := t_go k_22_68 rfl
theorem k_22_69 : lk 22 69 = some (.putfield 34, 72, 2, 9, .int 0) := by decide +kernel
theorem x_22_69 : Tr sc d 22 (69, [l0, l1, l2], [.int i1, .ref k0], h) Q = (okp h k0 2 = true ∧ Tr sc d 22 (72, [l0, l1, l2], [], (sI h k0 9 i1)) Q) := t_gd k_22_69 rfl
theorem k_22_72 : lk 22 72 = some (.aload_n 0, 73, 0, 0, .null) := by decide +kernel
theorem x_22_72 : Tr sc d 22 (72, [some (.ref xk), l1, l2], [], h) Q = Tr sc d 22 (73, [some (.ref xk), l1, l2], [.ref xk], h) Q := t_aload_n k_22_72 rfl
theorem k_22_73 : lk 22 73 = some (.iconst 0, 74, 0, 0, .int 0) := by decide +kernel
theorem x_22_73 : Tr sc d 22 (73, [l0, l1, l2], [.ref k0], h) Q = Tr sc d 22 (74, [l0, l1, l2], [.int 0, .ref k0], h) Q := t_go k_22_73 rfl
theorem k_22_74 : lk 22 74 = some (.putfield 38, 77, 2, 10, .int 0) := by decide +kernel
theorem x_22_74 : Tr sc d 22 (74, [l0, l1, l2], [.int i1, .ref k0], h) Q = (okp h k0 2 = true ∧ Tr sc d 22 (77, [l0, l1, l2], [], (sI h k0 10 i1)) Q) := t_gd k_22_74 rfl
theorem k_22_77 : lk 22 77 = some (.aload_n 0, 78, 0, 0, .null) := by decide +kernel
theorem x_22_77 : Tr sc d 22 (77, [some (.ref xk), l1, l2], [], h) Q = Tr sc d 22 (78, [some (.ref xk), l1, l2], [.ref xk], h) Q := t_aload_n k_22_77 rfl
theorem k_22_78 : lk 22 78 = some (.iconst 0, 79, 0, 0, .int 0) := by decide +kernel
theorem x_22_78 : Tr sc d 22 (78, [l0, l1, l2], [.ref k0], h) Q = Tr sc d 22 (79, [l0, l1, l2], [.int 0, .ref k0], h) Q := t_go k_22_78 rfl
theorem k_22_79 : lk 22 79 = some (.putfield 41, 82, 2, 11, .int 0) := by decide +kernel
theorem x_22_79 : Tr sc d 22 (79, [l0, l1, l2], [.int i1, .ref k0], h) Q = (okp h k0 2 = true ∧ Tr sc d 22 (82, [l0, l1, l2], [], (sI h k0 11 i1)) Q) := t_gd k_22_79 rfl
theorem k_22_82 : lk 22 82 = some (.aload_n 0, 83, 0, 0, .null) := by decide +kernel
theorem x_22_82 : Tr sc d 22 (82, [some (.ref xk), l1, l2], [], h) Q = Tr sc d 22 (83, [some (.ref xk), l1, l2], [.ref xk], h) Q := t_aload_n k_22_82 rfl
theorem k_22_83 : lk 22 83 = some (.iconst 0, 84, 0, 0, .int 0) := by decide +kernel
theorem x_22_83 : Tr sc d 22 (83, [l0, l1, l2], [.ref k0], h) Q = Tr sc d 22 (84, [l0, l1, l2], [.int 0, .ref k0], h) Q := t_go k_22_83 rfl
theorem k_22_84 : lk 22 84 = some (.putfield 44, 87, 2, 12, .int 0) := by decide +kernel
theorem x_22_84 : Tr sc d 22 (84, [l0, l1, l2], [.int i1, .ref k0], h) Q = (okp h k0 2 = true ∧ Tr sc d 22 (87, [l0, l1, l2], [], (sI h k0 12 i1)) Q) := t_gd k_22_84 rfl
theorem k_22_87 : lk 22 87 = some (.aload_n 0, 88, 0, 0, .null) := by decide +kernel
theorem x_22_87 : Tr sc d 22 (87, [some (.ref xk), l1, l2], [], h) Q = Tr sc d 22 (88, [some (.ref xk), l1, l2], [.ref xk], h) Q := t_aload_n k_22_87 rfl
theorem k_22_88 : lk 22 88 = some (.iconst 0, 89, 0, 0, .int 0) := by decide +kernel
theorem x_22_88 : Tr sc d 22 (88, [l0, l1, l2], [.ref k0], h) Q = Tr sc d 22 (89, [l0, l1, l2], [.int 0, .ref k0], h) Q := t_go k_22_88 rfl
theorem k_22_89 : lk 22 89 = some (.putfield 47, 92, 2, 13, .int 0) := by decide +kernel
theorem x_22_89 : Tr sc d 22 (89, [l0, l1, l2], [.int i1, .ref k0], h) Q = (okp h k0 2 = true ∧ Tr sc d 22 (92, [l0, l1, l2], [], (sI h k0 13 i1)) Q) := t_gd k_22_89 rfl
theorem k_22_92 : lk 22 92 = some (.aload_n 0, 93, 0, 0, .null) := by decide +kernel
theorem x_22_92 : Tr sc d 22 (92, [some (.ref xk), l1, l2], [], h) Q = Tr sc d 22 (93, [some (.ref xk), l1, l2], [.ref xk], h) Q := t_aload_n k_22_92 rfl
theorem k_22_93 : lk 22 93 = some (.iconst 0, 94, 0, 0, .int 0) := by decide +kernel
theorem x_22_93 : Tr sc d 22 (93, [l0, l1, l2], [.ref k0], h) Q = Tr sc d 22 (94, [l0, l1, l2], [.int 0, .ref k0], h) Q := t_go k_22_93 rfl
theorem k_22_94 : lk 22 94 = some (.putfield 50, 97, 2, 14, .int 0) := by decide +kernel
theorem x_22_94 : Tr sc d 22 (94, [l0, l1, l2], [.int i1, .ref k0], h) Q = (okp h k0 2 = true ∧ Tr sc d 22 (97, [l0, l1, l2], [], (sI h k0 14 i1)) Q) := t_gd k_22_94 rfl
theorem k_22_97 : lk 22 97 = some (.aload_n 0, 98, 0, 0, .null) := by decide +kernel
theorem x_22_97 : Tr sc d 22 (97, [some (.ref xk), l1, l2], [], h) Q = Tr sc d 22 (98, [some (.ref xk), l1, l2], [.ref xk], h) Q := t_aload_n k_22_97 rfl
theorem k_22_98 : lk 22 98 = some (.aload_n 1, 99, 1, 0, .null) := by decide +kernel
theorem x_22_98 : Tr sc d 22 (98, [l0, some (.ref xk), l2], [.ref k0], h) Q = Tr sc d 22 (99, [l0, some (.ref xk), l2], [.ref xk, .ref k0], h) Q := t_aload_n k_22_98 rfl
theorem k_22_99 : lk 22 99 = some (.putfield 53, 102, 2, 7, .null) := by decide +kernel
theorem x_22_99 : Tr sc d 22 (99, [l0, l1, l2], [.ref k1, .ref k0], h) Q = (okp h k0 2 = true ∧ Tr sc d 22 (102, [l0, l1, l2], [], (sR h k0 7 (some k1))) Q) := t_gd k_22_99 rfl
theorem k_22_102 : lk 22 102 = some (.aload_n 0, 103, 0, 0, .null) := by decide +kernel
theorem x_22_102 : Tr sc d 22 (102, [some (.ref xk), l1, l2], [], h) Q = Tr sc d 22 (103, [some (.ref xk), l1, l2], [.ref xk], h) Q := t_aload_n k_22_102 rfl
theorem k_22_103 : lk 22 103 = some (.aload_n 2, 104, 2, 0, .null) := by decide +kernel
theorem x_22_103 : Tr sc d 22 (103, [l0, l1, some (.ref xk)], [.ref k0], h) Q = Tr sc d 22 (104, [l0, l1, some (.ref xk)], [.ref xk, .ref k0], h) Q := t_aload_n k_22_103 rfl
theorem k_22_104 : lk 22 104 = some (.putfield 57, 107, 2, 8, .null) := by decide +kernel
theorem x_22_104 : Tr sc d 22 (104, [l0, l1, l2], [.ref k1, .ref k0], h) Q = (okp h k0 2 = true ∧ Tr sc d 22 (107, [l0, l1, l2], [], (sR h k0 8 (some k1))) Q) := t_gd k_22_104 rfl
theorem k_22_107 : lk 22 107 = some (.return_, 108, 0, 0, .null) := by decide +kernel
theorem x_22_107 : Tr sc d 22 (107, [l0, l1, l2], [], h) Q = Q (none, h) := t_ret k_22_107 (by rw [r_22]; rfl)
theorem e_22 : Tr sc d 22 (ent0 22 [.ref k0, .ref k1, .ref k2] h) Q = Tr sc d 22 (0, [some (.ref k0), some (.ref k1), some (.ref k2)], [], h) Q := by
  have e : mL 22 = 3 := by decide +kernel
  unfold ent0
  rw [e]
  rfl
theorem r_23 : mR 23 = none := by decide +kernel
theorem k_23_0 : lk 23 0 = some (.aload_n 0, 1, 0, 0, .null) := by decide +kernel
theorem x_23_0 : Tr sc d 23 (0, [some (.ref xk), l1], [], h) Q = Tr sc d 23 (1, [some (.ref xk), l1], [.ref xk], h) Q := t_aload_n k_23_0 rfl
theorem k_23_1 : lk 23 1 = some (.sipush 216, 4, 0, 0, .int 216) := by decide +kernel
theorem x_23_1 : Tr sc d 23 (1, [l0, l1], [.ref k0], h) Q = Tr sc d 23 (4, [l0, l1], [.int 216, .ref k0], h) Q := t_go k_23_1 rfl
theorem k_23_4 : lk 23 4 = some (.aload_n 0, 5, 0, 0, .null) := by decide +kernel
theorem x_23_4 : Tr sc d 23 (4, [some (.ref xk), l1], [.int i1, .ref k0], h) Q = Tr sc d 23 (5, [some (.ref xk), l1], [.ref xk, .int i1, .ref k0], h) Q := t_aload_n k_23_4 rfl
theorem k_23_5 : lk 23 5 = some (.getfield 53, 8, 2, 7, .null) := by decide +kernel
theorem x_23_5 : Tr sc d 23 (5, [l0, l1], [.ref k2, .int i1, .ref k0], h) Q = (okp h k2 2 = true ∧ ∃ q, hR h k2 7 = some q ∧ Tr sc d 23 (8, [l0, l1], [.ref q, .int i1, .ref k0], h) Q) := t_getr k_23_5
theorem k_23_8 : lk 23 8 = some (.getfield 61, 11, 1, 4, .int 0) := by decide +kernel
theorem x_23_8 : Tr sc d 23 (8, [l0, l1], [.ref k2, .int i1, .ref k0], h) Q = (okp h k2 1 = true ∧ Tr sc d 23 (11, [l0, l1], [.int (hI h k2 4), .int i1, .ref k0], h) Q) := t_gd k_23_8 rfl
theorem k_23_11 : lk 23 11 = some (.invokestatic 64, 14, 9003, 0, .null) := by decide +kernel
theorem x_23_11 : Tr sc d 23 (11, [l0, l1], [.int i2, .int i1, .ref k0], h) Q = Tr sc d 23 (14, [l0, l1], [.int (if i2 < i1 then i2 else i1), .ref k0], h) Q := t_go k_23_11 rfl
theorem k_23_14 : lk 23 14 = some (.putfield 34, 17, 2, 9, .int 0) := by decide +kernel
theorem x_23_14 : Tr sc d 23 (14, [l0, l1], [.int i1, .ref k0], h) Q = (okp h k0 2 = true ∧ Tr sc d 23 (17, [l0, l1], [], (sI h k0 9 i1)) Q) := t_gd k_23_14 rfl
theorem k_23_17 : lk 23 17 = some (.aload_n 0, 18, 0, 0, .null) := by decide +kernel
theorem x_23_17 : Tr sc d 23 (17, [some (.ref xk), l1], [], h) Q = Tr sc d 23 (18, [some (.ref xk), l1], [.ref xk], h) Q := t_aload_n k_23_17 rfl
theorem k_23_18 : lk 23 18 = some (.iconst 0, 19, 0, 0, .int 0) := by decide +kernel
theorem x_23_18 : Tr sc d 23 (18, [l0, l1], [.ref k0], h) Q = Tr sc d 23 (19, [l0, l1], [.int 0, .ref k0], h) Q := t_go k_23_18 rfl
theorem k_23_19 : lk 23 19 = some (.putfield 38, 22, 2, 10, .int 0) := by decide +kernel
theorem x_23_19 : Tr sc d 23 (19, [l0, l1], [.int i1, .ref k0], h) Q = (okp h k0 2 = true ∧ Tr sc d 23 (22, [l0, l1], [], (sI h k0 10 i1)) Q) := t_gd k_23_19 rfl
theorem k_23_22 : lk 23 22 = some (.aload_n 0, 23, 0, 0, .null) := by decide +kernel
theorem x_23_22 : Tr sc d 23 (22, [some (.ref xk), l1], [], h) Q = Tr sc d 23 (23, [some (.ref xk), l1], [.ref xk], h) Q := t_aload_n k_23_22 rfl
theorem k_23_23 : lk 23 23 = some (.iconst 0, 24, 0, 0, .int 0) := by decide +kernel
theorem x_23_23 : Tr sc d 23 (23, [l0, l1], [.ref k0], h) Q = Tr sc d 23 (24, [l0, l1], [.int 0, .ref k0], h) Q := t_go k_23_23 rfl
theorem k_23_24 : lk 23 24 = some (.putfield 41, 27, 2, 11, .int 0) := by decide +kernel
theorem x_23_24 : Tr sc d 23 (24, [l0, l1], [.int i1, .ref k0], h) Q = (okp h k0 2 = true ∧ Tr sc d 23 (27, [l0, l1], [], (sI h k0 11 i1)) Q) := t_gd k_23_24 rfl
theorem k_23_27 : lk 23 27 = some (.aload_n 0, 28, 0, 0, .null) := by decide +kernel
theorem x_23_27 : Tr sc d 23 (27, [some (.ref xk), l1], [], h) Q = Tr sc d 23 (28, [some (.ref xk), l1], [.ref xk], h) Q := t_aload_n k_23_27 rfl
theorem k_23_28 : lk 23 28 = some (.iconst 0, 29, 0, 0, .int 0) := by decide +kernel
theorem x_23_28 : Tr sc d 23 (28, [l0, l1], [.ref k0], h) Q = Tr sc d 23 (29, [l0, l1], [.int 0, .ref k0], h) Q := t_go k_23_28 rfl
theorem k_23_29 : lk 23 29 = some (.putfield 47, 32, 2, 13, .int 0) := by decide +kernel
theorem x_23_29 : Tr sc d 23 (29, [l0, l1], [.int i1, .ref k0], h) Q = (okp h k0 2 = true ∧ Tr sc d 23 (32, [l0, l1], [], (sI h k0 13 i1)) Q) := t_gd k_23_29 rfl
theorem k_23_32 : lk 23 32 = some (.iconst 0, 33, 0, 0, .int 0) := by decide +kernel
theorem x_23_32 : Tr sc d 23 (32, [l0, l1], [], h) Q = Tr sc d 23 (33, [l0, l1], [.int 0], h) Q := t_go k_23_32 rfl
theorem k_23_33 : lk 23 33 = some (.istore_n 1, 34, 1, 0, .null) := by decide +kernel
theorem x_23_33 : Tr sc d 23 (33, [l0, l1], [.int i0], h) Q = Tr sc d 23 (34, [cl2 l0, some (.int i0)], [], h) Q := t_istore_n k_23_33 (Nat.le_of_ble_eq_true rfl)
theorem k_23_34 : lk 23 34 = some (.iload_n 1, 35, 1, 0, .null) := by decide +kernel
theorem x_23_34 : Tr sc d 23 (34, [l0, some (.int x)], [], h) Q = Tr sc d 23 (35, [l0, some (.int x)], [.int x], h) Q := t_iload_n k_23_34 rfl
theorem k_23_35 : lk 23 35 = some (.aload_n 0, 36, 0, 0, .null) := by decide +kernel
theorem x_23_35 : Tr sc d 23 (35, [some (.ref xk), l1], [.int i0], h) Q = Tr sc d 23 (36, [some (.ref xk), l1], [.ref xk, .int i0], h) Q := t_aload_n k_23_35 rfl
theorem k_23_36 : lk 23 36 = some (.getfield 34, 39, 2, 9, .int 0) := by decide +kernel
theorem x_23_36 : Tr sc d 23 (36, [l0, l1], [.ref k1, .int i0], h) Q = (okp h k1 2 = true ∧ Tr sc d 23 (39, [l0, l1], [.int (hI h k1 9), .int i0], h) Q) := t_gd k_23_36 rfl
theorem k_23_39 : lk 23 39 = some (.if_icmp .ge 51, 42, 90, 0, .null) := by decide +kernel
theorem x_23_39 : Tr sc d 23 (39, [l0, l1], [.int i1, .int i0], h) Q = if i1 ≤ i0 then Tr sc d 23 (90, [l0, l1], [], h) Q else Tr sc d 23 (42, [l0, l1], [], h) Q := t_if k_23_39 rfl
theorem k_23_42 : lk 23 42 = some (.aload_n 0, 43, 0, 0, .null) := by decide +kernel
theorem x_23_42 : Tr sc d 23 (42, [some (.ref xk), l1], [], h) Q = Tr sc d 23 (43, [some (.ref xk), l1], [.ref xk], h) Q := t_aload_n k_23_42 rfl
theorem k_23_43 : lk 23 43 = some (.getfield 11, 46, 2, 0, .null) := by decide +kernel
theorem x_23_43 : Tr sc d 23 (43, [l0, l1], [.ref k0], h) Q = (okp h k0 2 = true ∧ ∃ q, hR h k0 0 = some q ∧ Tr sc d 23 (46, [l0, l1], [.ref q], h) Q) := t_getr k_23_43
theorem k_23_46 : lk 23 46 = some (.iload_n 1, 47, 1, 0, .null) := by decide +kernel
theorem x_23_46 : Tr sc d 23 (46, [l0, some (.int x)], [.ref k0], h) Q = Tr sc d 23 (47, [l0, some (.int x)], [.int x, .ref k0], h) Q := t_iload_n k_23_46 rfl
theorem k_23_47 : lk 23 47 = some (.aload_n 0, 48, 0, 0, .null) := by decide +kernel
theorem x_23_47 : Tr sc d 23 (47, [some (.ref xk), l1], [.int i1, .ref k0], h) Q = Tr sc d 23 (48, [some (.ref xk), l1], [.ref xk, .int i1, .ref k0], h) Q := t_aload_n k_23_47 rfl
theorem k_23_48 : lk 23 48 = some (.getfield 53, 51, 2, 7, .null) := by decide +kernel
theorem x_23_48 : Tr sc d 23 (48, [l0, l1], [.ref k2, .int i1, .ref k0], h) Q = (okp h k2 2 = true ∧ ∃ q, hR h k2 7 = some q ∧ Tr sc d 23 (51, [l0, l1], [.ref q, .int i1, .ref k0], h) Q) := t_getr k_23_48
theorem k_23_51 : lk 23 51 = some (.iload_n 1, 52, 1, 0, .null) := by decide +kernel
theorem x_23_51 : Tr sc d 23 (51, [l0, some (.int x)], [.ref k2, .int i1, .ref k0], h) Q = Tr sc d 23 (52, [l0, some (.int x)], [.int x, .ref k2, .int i1, .ref k0], h) Q := t_iload_n k_23_51 rfl
theorem k_23_52 : lk 23 52 = some (.invokevirtual 70, 55, 14, 1, .null) := by decide +kernel
theorem x_23_52 : Tr sc (d + 1) 23 (52, [l0, l1], [.int i3, .ref k2, .int i1, .ref k0], h) Q = (okp h k2 1 = true ∧ Tr sc d 14 (ent0 14 [.ref k2, .int i3] h) (fun z => Tr sc (d + 1) 23 (55, [l0, l1], z.1.toList ++ [.int i1, .ref k0], z.2) Q)) := t_cv (as := [.int i3]) (r := [.int i1, .ref k0]) k_23_52 rfl rfl (Nat.le_of_ble_eq_true rfl) (Nat.le_of_ble_eq_true rfl) (Nat.le_of_ble_eq_true rfl)
theorem k_23_55 : lk 23 55 = some (.iastore, 56, 0, 0, .null) := by decide +kernel
theorem x_23_55 : Tr sc d 23 (55, [l0, l1], [.int i2, .int i1, .ref k0], h) Q = ((okp h k0 11 && inb i1 (LN k0)) = true ∧ Tr sc d 23 (56, [l0, l1], [], (sI h k0 i1.toNatClampNeg i2)) Q) := t_gd k_23_55 rfl
theorem k_23_56 : lk 23 56 = some (.aload_n 0, 57, 0, 0, .null) := by decide +kernel
theorem x_23_56 : Tr sc d 23 (56, [some (.ref xk), l1], [], h) Q = Tr sc d 23 (57, [some (.ref xk), l1], [.ref xk], h) Q := t_aload_n k_23_56 rfl
theorem k_23_57 : lk 23 57 = some (.getfield 15, 60, 2, 1, .null) := by decide +kernel
theorem x_23_57 : Tr sc d 23 (57, [l0, l1], [.ref k0], h) Q = (okp h k0 2 = true ∧ ∃ q, hR h k0 1 = some q ∧ Tr sc d 23 (60, [l0, l1], [.ref q], h) Q) := t_getr k_23_57
theorem k_23_60 : lk 23 60 = some (.iload_n 1, 61, 1, 0, .null) := by decide +kernel
theorem x_23_60 : Tr sc d 23 (60, [l0, some (.int x)], [.ref k0], h) Q = Tr sc d 23 (61, [l0, some (.int x)], [.int x, .ref k0], h) Q := t_iload_n k_23_60 rfl
theorem k_23_61 : lk 23 61 = some (.aload_n 0, 62, 0, 0, .null) := by decide +kernel
theorem x_23_61 : Tr sc d 23 (61, [some (.ref xk), l1], [.int i1, .ref k0], h) Q = Tr sc d 23 (62, [some (.ref xk), l1], [.ref xk, .int i1, .ref k0], h) Q := t_aload_n k_23_61 rfl
theorem k_23_62 : lk 23 62 = some (.getfield 53, 65, 2, 7, .null) := by decide +kernel
theorem x_23_62 : Tr sc d 23 (62, [l0, l1], [.ref k2, .int i1, .ref k0], h) Q = (okp h k2 2 = true ∧ ∃ q, hR h k2 7 = some q ∧ Tr sc d 23 (65, [l0, l1], [.ref q, .int i1, .ref k0], h) Q) := t_getr k_23_62
theorem k_23_65 : lk 23 65 = some (.iload_n 1, 66, 1, 0, .null) := by decide +kernel
theorem x_23_65 : Tr sc d 23 (65, [l0, some (.int x)], [.ref k2, .int i1, .ref k0], h) Q = Tr sc d 23 (66, [l0, some (.int x)], [.int x, .ref k2, .int i1, .ref k0], h) Q := t_iload_n k_23_65 rfl
theorem k_23_66 : lk 23 66 = some (.invokevirtual 74, 69, 15, 1, .null) := by decide +kernel
theorem x_23_66 : Tr sc (d + 1) 23 (66, [l0, l1], [.int i3, .ref k2, .int i1, .ref k0], h) Q = (okp h k2 1 = true ∧ Tr sc d 15 (ent0 15 [.ref k2, .int i3] h) (fun z => Tr sc (d + 1) 23 (69, [l0, l1], z.1.toList ++ [.int i1, .ref k0], z.2) Q)) := t_cv (as := [.int i3]) (r := [.int i1, .ref k0]) k_23_66 rfl rfl (Nat.le_of_ble_eq_true rfl) (Nat.le_of_ble_eq_true rfl) (Nat.le_of_ble_eq_true rfl)
theorem k_23_69 : lk 23 69 = some (.iastore, 70, 0, 0, .null) := by decide +kernel
theorem x_23_69 : Tr sc d 23 (69, [l0, l1], [.int i2, .int i1, .ref k0], h) Q = ((okp h k0 11 && inb i1 (LN k0)) = true ∧ Tr sc d 23 (70, [l0, l1], [], (sI h k0 i1.toNatClampNeg i2)) Q) := t_gd k_23_69 rfl
theorem k_23_70 : lk 23 70 = some (.aload_n 0, 71, 0, 0, .null) := by decide +kernel
theorem x_23_70 : Tr sc d 23 (70, [some (.ref xk), l1], [], h) Q = Tr sc d 23 (71, [some (.ref xk), l1], [.ref xk], h) Q := t_aload_n k_23_70 rfl
theorem k_23_71 : lk 23 71 = some (.getfield 18, 74, 2, 2, .null) := by decide +kernel
theorem x_23_71 : Tr sc d 23 (71, [l0, l1], [.ref k0], h) Q = (okp h k0 2 = true ∧ ∃ q, hR h k0 2 = some q ∧ Tr sc d 23 (74, [l0, l1], [.ref q], h) Q) := t_getr k_23_71
theorem k_23_74 : lk 23 74 = some (.iload_n 1, 75, 1, 0, .null) := by decide +kernel
theorem x_23_74 : Tr sc d 23 (74, [l0, some (.int x)], [.ref k0], h) Q = Tr sc d 23 (75, [l0, some (.int x)], [.int x, .ref k0], h) Q := t_iload_n k_23_74 rfl
theorem k_23_75 : lk 23 75 = some (.iconst 0, 76, 0, 0, .int 0) := by decide +kernel
theorem x_23_75 : Tr sc d 23 (75, [l0, l1], [.int i1, .ref k0], h) Q = Tr sc d 23 (76, [l0, l1], [.int 0, .int i1, .ref k0], h) Q := t_go k_23_75 rfl
theorem k_23_76 : lk 23 76 = some (.iastore, 77, 0, 0, .null) := by decide +kernel
theorem x_23_76 : Tr sc d 23 (76, [l0, l1], [.int i2, .int i1, .ref k0], h) Q = ((okp h k0 11 && inb i1 (LN k0)) = true ∧ Tr sc d 23 (77, [l0, l1], [], (sI h k0 i1.toNatClampNeg i2)) Q) := t_gd k_23_76 rfl
theorem k_23_77 : lk 23 77 = some (.aload_n 0, 78, 0, 0, .null) := by decide +kernel
theorem x_23_77 : Tr sc d 23 (77, [some (.ref xk), l1], [], h) Q = Tr sc d 23 (78, [some (.ref xk), l1], [.ref xk], h) Q := t_aload_n k_23_77 rfl
theorem k_23_78 : lk 23 78 = some (.getfield 30, 81, 2, 6, .null) := by decide +kernel
theorem x_23_78 : Tr sc d 23 (78, [l0, l1], [.ref k0], h) Q = (okp h k0 2 = true ∧ ∃ q, hR h k0 6 = some q ∧ Tr sc d 23 (81, [l0, l1], [.ref q], h) Q) := t_getr k_23_78
theorem k_23_81 : lk 23 81 = some (.iload_n 1, 82, 1, 0, .null) := by decide +kernel
theorem x_23_81 : Tr sc d 23 (81, [l0, some (.int x)], [.ref k0], h) Q = Tr sc d 23 (82, [l0, some (.int x)], [.int x, .ref k0], h) Q := t_iload_n k_23_81 rfl
theorem k_23_82 : lk 23 82 = some (.iconst 0, 83, 0, 0, .int 0) := by decide +kernel
theorem x_23_82 : Tr sc d 23 (82, [l0, l1], [.int i1, .ref k0], h) Q = Tr sc d 23 (83, [l0, l1], [.int 0, .int i1, .ref k0], h) Q := t_go k_23_82 rfl
theorem k_23_83 : lk 23 83 = some (.bastore, 84, 0, 0, .null) := by decide +kernel
theorem x_23_83 : Tr sc d 23 (83, [l0, l1], [.int i2, .int i1, .ref k0], h) Q = ((okp h k0 13 && inb i1 (LN k0)) = true ∧ Tr sc d 23 (84, [l0, l1], [], (sI h k0 i1.toNatClampNeg (vp_nar .boolean i2))) Q) := t_gd k_23_83 rfl
theorem k_23_84 : lk 23 84 = some (.iinc 1 1, 87, 1, 0, .int 1) := by decide +kernel
theorem x_23_84 : Tr sc d 23 (84, [l0, some (.int x)], [], h) Q = Tr sc d 23 (87, [cl2 l0, some (.int (x + 1))], [], h) Q := t_inc k_23_84 rfl (Nat.le_of_ble_eq_true rfl)
theorem k_23_87 : lk 23 87 = some (.goto (-53), 90, 34, 0, .null) := by decide +kernel
theorem x_23_87 : Tr sc d 23 (87, [l0, l1], [], h) Q = Tr sc d 23 (34, [l0, l1], [], h) Q := t_go k_23_87 rfl
theorem k_23_90 : lk 23 90 = some (.iconst 0, 91, 0, 0, .int 0) := by decide +kernel
theorem x_23_90 : Tr sc d 23 (90, [l0, l1], [], h) Q = Tr sc d 23 (91, [l0, l1], [.int 0], h) Q := t_go k_23_90 rfl
theorem k_23_91 : lk 23 91 = some (.istore_n 1, 92, 1, 0, .null) := by decide +kernel
theorem x_23_91 : Tr sc d 23 (91, [l0, l1], [.int i0], h) Q = Tr sc d 23 (92, [cl2 l0, some (.int i0)], [], h) Q := t_istore_n k_23_91 (Nat.le_of_ble_eq_true rfl)
theorem k_23_92 : lk 23 92 = some (.iload_n 1, 93, 1, 0, .null) := by decide +kernel
theorem x_23_92 : Tr sc d 23 (92, [l0, some (.int x)], [], h) Q = Tr sc d 23 (93, [l0, some (.int x)], [.int x], h) Q := t_iload_n k_23_92 rfl
theorem k_23_93 : lk 23 93 = some (.aload_n 0, 94, 0, 0, .null) := by decide +kernel
theorem x_23_93 : Tr sc d 23 (93, [some (.ref xk), l1], [.int i0], h) Q = Tr sc d 23 (94, [some (.ref xk), l1], [.ref xk, .int i0], h) Q := t_aload_n k_23_93 rfl
theorem k_23_94 : lk 23 94 = some (.getfield 34, 97, 2, 9, .int 0) := by decide +kernel
theorem x_23_94 : Tr sc d 23 (94, [l0, l1], [.ref k1, .int i0], h) Q = (okp h k1 2 = true ∧ Tr sc d 23 (97, [l0, l1], [.int (hI h k1 9), .int i0], h) Q) := t_gd k_23_94 rfl
theorem k_23_97 : lk 23 97 = some (.if_icmp .ge 33, 100, 130, 0, .null) := by decide +kernel
theorem x_23_97 : Tr sc d 23 (97, [l0, l1], [.int i1, .int i0], h) Q = if i1 ≤ i0 then Tr sc d 23 (130, [l0, l1], [], h) Q else Tr sc d 23 (100, [l0, l1], [], h) Q := t_if k_23_97 rfl
theorem k_23_100 : lk 23 100 = some (.aload_n 0, 101, 0, 0, .null) := by decide +kernel
theorem x_23_100 : Tr sc d 23 (100, [some (.ref xk), l1], [], h) Q = Tr sc d 23 (101, [some (.ref xk), l1], [.ref xk], h) Q := t_aload_n k_23_100 rfl
theorem k_23_101 : lk 23 101 = some (.getfield 18, 104, 2, 2, .null) := by decide +kernel
theorem x_23_101 : Tr sc d 23 (101, [l0, l1], [.ref k0], h) Q = (okp h k0 2 = true ∧ ∃ q, hR h k0 2 = some q ∧ Tr sc d 23 (104, [l0, l1], [.ref q], h) Q) := t_getr k_23_101
theorem k_23_104 : lk 23 104 = some (.iload_n 1, 105, 1, 0, .null) := by decide +kernel
theorem x_23_104 : Tr sc d 23 (104, [l0, some (.int x)], [.ref k0], h) Q = Tr sc d 23 (105, [l0, some (.int x)], [.int x, .ref k0], h) Q := t_iload_n k_23_104 rfl
theorem k_23_105 : lk 23 105 = some (.iaload, 106, 0, 0, .null) := by decide +kernel
theorem x_23_105 : Tr sc d 23 (105, [l0, l1], [.int i1, .ref k0], h) Q = (iOk sc h k0 i1 ∧ Tr sc d 23 (106, [l0, l1], [.int (iRd sc h k0 i1)], h) Q) := t_iald k_23_105
theorem k_23_106 : lk 23 106 = some (.ifCond .ne 18, 109, 124, 0, .null) := by decide +kernel
theorem x_23_106 : Tr sc d 23 (106, [l0, l1], [.int i0], h) Q = if i0 = 0 then Tr sc d 23 (109, [l0, l1], [], h) Q else Tr sc d 23 (124, [l0, l1], [], h) Q := t_if k_23_106 rfl
theorem k_23_109 : lk 23 109 = some (.aload_n 0, 110, 0, 0, .null) := by decide +kernel
theorem x_23_109 : Tr sc d 23 (109, [some (.ref xk), l1], [], h) Q = Tr sc d 23 (110, [some (.ref xk), l1], [.ref xk], h) Q := t_aload_n k_23_109 rfl
theorem k_23_110 : lk 23 110 = some (.dup, 111, 0, 0, .null) := by decide +kernel
theorem x_23_110 : Tr sc d 23 (110, [l0, l1], [.ref k0], h) Q = Tr sc d 23 (111, [l0, l1], [.ref k0, .ref k0], h) Q := t_go k_23_110 rfl
theorem k_23_111 : lk 23 111 = some (.getfield 47, 114, 2, 13, .int 0) := by decide +kernel
theorem x_23_111 : Tr sc d 23 (111, [l0, l1], [.ref k1, .ref k0], h) Q = (okp h k1 2 = true ∧ Tr sc d 23 (114, [l0, l1], [.int (hI h k1 13), .ref k0], h) Q) := t_gd k_23_111 rfl
theorem k_23_114 : lk 23 114 = some (.iconst 1, 115, 0, 0, .int 1) := by decide +kernel
theorem x_23_114 : Tr sc d 23 (114, [l0, l1], [.int i1, .ref k0], h) Q = Tr sc d 23 (115, [l0, l1], [.int 1, .int i1, .ref k0], h) Q := t_go k_23_114 rfl
theorem k_23_115 : lk 23 115 = some (.iadd, 116, 0, 0, .null) := by decide +kernel
theorem x_23_115 : Tr sc d 23 (115, [l0, l1], [.int i2, .int i1, .ref k0], h) Q = Tr sc d 23 (116, [l0, l1], [.int (i1 + i2), .ref k0], h) Q := t_go k_23_115 rfl
theorem k_23_116 : lk 23 116 = some (.putfield 47, 119, 2, 13, .int 0) := by decide +kernel
theorem x_23_116 : Tr sc d 23 (116, [l0, l1], [.int i1, .ref k0], h) Q = (okp h k0 2 = true ∧ Tr sc d 23 (119, [l0, l1], [], (sI h k0 13 i1)) Q) := t_gd k_23_116 rfl
theorem k_23_119 : lk 23 119 = some (.aload_n 0, 120, 0, 0, .null) := by decide +kernel
theorem x_23_119 : Tr sc d 23 (119, [some (.ref xk), l1], [], h) Q = Tr sc d 23 (120, [some (.ref xk), l1], [.ref xk], h) Q := t_aload_n k_23_119 rfl
theorem k_23_120 : lk 23 120 = some (.iload_n 1, 121, 1, 0, .null) := by decide +kernel
theorem x_23_120 : Tr sc d 23 (120, [l0, some (.int x)], [.ref k0], h) Q = Tr sc d 23 (121, [l0, some (.int x)], [.int x, .ref k0], h) Q := t_iload_n k_23_120 rfl
theorem k_23_121 : lk 23 121 = some (.invokevirtual 77, 124, 26, 1, .null) := by decide +kernel
theorem x_23_121 : Tr sc (d + 1) 23 (121, [l0, l1], [.int i1, .ref k0], h) Q = (okp h k0 2 = true ∧ Tr sc d 26 (ent0 26 [.ref k0, .int i1] h) (fun z => Tr sc (d + 1) 23 (124, [l0, l1], z.1.toList ++ [], z.2) Q)) := t_cv (as := [.int i1]) (r := []) k_23_121 rfl rfl (Nat.le_of_ble_eq_true rfl) (Nat.le_of_ble_eq_true rfl) (Nat.le_of_ble_eq_true rfl)
theorem k_23_124 : lk 23 124 = some (.iinc 1 1, 127, 1, 0, .int 1) := by decide +kernel
theorem x_23_124 : Tr sc d 23 (124, [l0, some (.int x)], [], h) Q = Tr sc d 23 (127, [cl2 l0, some (.int (x + 1))], [], h) Q := t_inc k_23_124 rfl (Nat.le_of_ble_eq_true rfl)
theorem k_23_127 : lk 23 127 = some (.goto (-35), 130, 92, 0, .null) := by decide +kernel
theorem x_23_127 : Tr sc d 23 (127, [l0, l1], [], h) Q = Tr sc d 23 (92, [l0, l1], [], h) Q := t_go k_23_127 rfl
theorem k_23_130 : lk 23 130 = some (.aload_n 0, 131, 0, 0, .null) := by decide +kernel
theorem x_23_130 : Tr sc d 23 (130, [some (.ref xk), l1], [], h) Q = Tr sc d 23 (131, [some (.ref xk), l1], [.ref xk], h) Q := t_aload_n k_23_130 rfl
theorem k_23_131 : lk 23 131 = some (.aload_n 0, 132, 0, 0, .null) := by decide +kernel
theorem x_23_131 : Tr sc d 23 (131, [some (.ref xk), l1], [.ref k0], h) Q = Tr sc d 23 (132, [some (.ref xk), l1], [.ref xk, .ref k0], h) Q := t_aload_n k_23_131 rfl
theorem k_23_132 : lk 23 132 = some (.getfield 41, 135, 2, 11, .int 0) := by decide +kernel
theorem x_23_132 : Tr sc d 23 (132, [l0, l1], [.ref k1, .ref k0], h) Q = (okp h k1 2 = true ∧ Tr sc d 23 (135, [l0, l1], [.int (hI h k1 11), .ref k0], h) Q) := t_gd k_23_132 rfl
theorem k_23_135 : lk 23 135 = some (.iconst 2, 136, 0, 0, .int 2) := by decide +kernel
theorem x_23_135 : Tr sc d 23 (135, [l0, l1], [.int i1, .ref k0], h) Q = Tr sc d 23 (136, [l0, l1], [.int 2, .int i1, .ref k0], h) Q := t_go k_23_135 rfl
theorem k_23_136 : lk 23 136 = some (.idiv, 137, 0, 0, .null) := by decide +kernel
theorem x_23_136 : Tr sc d 23 (136, [l0, l1], [.int i2, .int i1, .ref k0], h) Q = (¬ i2 = 0 ∧ Tr sc d 23 (137, [l0, l1], [.int (i1 / i2), .ref k0], h) Q) := t_ng k_23_136 rfl
theorem k_23_137 : lk 23 137 = some (.putfield 44, 140, 2, 12, .int 0) := by decide +kernel
theorem x_23_137 : Tr sc d 23 (137, [l0, l1], [.int i1, .ref k0], h) Q = (okp h k0 2 = true ∧ Tr sc d 23 (140, [l0, l1], [], (sI h k0 12 i1)) Q) := t_gd k_23_137 rfl
theorem k_23_140 : lk 23 140 = some (.aload_n 0, 141, 0, 0, .null) := by decide +kernel
theorem x_23_140 : Tr sc d 23 (140, [some (.ref xk), l1], [], h) Q = Tr sc d 23 (141, [some (.ref xk), l1], [.ref xk], h) Q := t_aload_n k_23_140 rfl
theorem k_23_141 : lk 23 141 = some (.invokevirtual 81, 144, 25, 0, .null) := by decide +kernel
theorem x_23_141 : Tr sc (d + 1) 23 (141, [l0, l1], [.ref k0], h) Q = (okp h k0 2 = true ∧ Tr sc d 25 (ent0 25 [.ref k0] h) (fun z => Tr sc (d + 1) 23 (144, [l0, l1], z.1.toList ++ [], z.2) Q)) := t_cv (as := []) (r := []) k_23_141 rfl rfl (Nat.le_of_ble_eq_true rfl) (Nat.le_of_ble_eq_true rfl) (Nat.le_of_ble_eq_true rfl)
theorem k_23_144 : lk 23 144 = some (.return_, 145, 0, 0, .null) := by decide +kernel
theorem x_23_144 : Tr sc d 23 (144, [l0, l1], [], h) Q = Q (none, h) := t_ret k_23_144 (by rw [r_23]; rfl)
theorem e_23 : Tr sc d 23 (ent0 23 [.ref k0] h) Q = Tr sc d 23 (0, [some (.ref k0), none], [], h) Q := by
  have e : mL 23 = 2 := by decide +kernel
  unfold ent0
  rw [e]
  rfl
theorem r_24 : mR 24 = some .boolean := by decide +kernel
theorem k_24_0 : lk 24 0 = some (.iload_n 1, 1, 1, 0, .null) := by decide +kernel
theorem x_24_0 : Tr sc d 24 (0, [l0, some (.int x), l2], [], h) Q = Tr sc d 24 (1, [l0, some (.int x), l2], [.int x], h) Q := t_iload_n k_24_0 rfl
theorem k_24_1 : lk 24 1 = some (.iload_n 2, 2, 2, 0, .null) := by decide +kernel
theorem x_24_1 : Tr sc d 24 (1, [l0, l1, some (.int x)], [.int i0], h) Q = Tr sc d 24 (2, [l0, l1, some (.int x)], [.int x, .int i0], h) Q := t_iload_n k_24_1 rfl
theorem k_24_2 : lk 24 2 = some (.if_icmp .eq 43, 5, 45, 0, .null) := by decide +kernel
theorem x_24_2 : Tr sc d 24 (2, [l0, l1, l2], [.int i1, .int i0], h) Q = if i0 = i1 then Tr sc d 24 (45, [l0, l1, l2], [], h) Q else Tr sc d 24 (5, [l0, l1, l2], [], h) Q := t_if k_24_2 rfl
theorem k_24_5 : lk 24 5 = some (.aload_n 0, 6, 0, 0, .null) := by decide +kernel
theorem x_24_5 : Tr sc d 24 (5, [some (.ref xk), l1, l2], [], h) Q = Tr sc d 24 (6, [some (.ref xk), l1, l2], [.ref xk], h) Q := t_aload_n k_24_5 rfl
theorem k_24_6 : lk 24 6 = some (.getfield 57, 9, 2, 8, .null) := by decide +kernel
theorem x_24_6 : Tr sc d 24 (6, [l0, l1, l2], [.ref k0], h) Q = (okp h k0 2 = true ∧ ∃ q, hR h k0 8 = some q ∧ Tr sc d 24 (9, [l0, l1, l2], [.ref q], h) Q) := t_getr k_24_6
theorem k_24_9 : lk 24 9 = some (.aload_n 0, 10, 0, 0, .null) := by decide +kernel
theorem x_24_9 : Tr sc d 24 (9, [some (.ref xk), l1, l2], [.ref k0], h) Q = Tr sc d 24 (10, [some (.ref xk), l1, l2], [.ref xk, .ref k0], h) Q := t_aload_n k_24_9 rfl
theorem k_24_10 : lk 24 10 = some (.getfield 11, 13, 2, 0, .null) := by decide +kernel
theorem x_24_10 : Tr sc d 24 (10, [l0, l1, l2], [.ref k1, .ref k0], h) Q = (okp h k1 2 = true ∧ ∃ q, hR h k1 0 = some q ∧ Tr sc d 24 (13, [l0, l1, l2], [.ref q, .ref k0], h) Q) := t_getr k_24_10
theorem k_24_13 : lk 24 13 = some (.iload_n 2, 14, 2, 0, .null) := by decide +kernel
theorem x_24_13 : Tr sc d 24 (13, [l0, l1, some (.int x)], [.ref k1, .ref k0], h) Q = Tr sc d 24 (14, [l0, l1, some (.int x)], [.int x, .ref k1, .ref k0], h) Q := t_iload_n k_24_13 rfl
theorem k_24_14 : lk 24 14 = some (.iaload, 15, 0, 0, .null) := by decide +kernel
theorem x_24_14 : Tr sc d 24 (14, [l0, l1, l2], [.int i2, .ref k1, .ref k0], h) Q = (iOk sc h k1 i2 ∧ Tr sc d 24 (15, [l0, l1, l2], [.int (iRd sc h k1 i2), .ref k0], h) Q) := t_iald k_24_14
theorem k_24_15 : lk 24 15 = some (.aload_n 0, 16, 0, 0, .null) := by decide +kernel
theorem x_24_15 : Tr sc d 24 (15, [some (.ref xk), l1, l2], [.int i1, .ref k0], h) Q = Tr sc d 24 (16, [some (.ref xk), l1, l2], [.ref xk, .int i1, .ref k0], h) Q := t_aload_n k_24_15 rfl
theorem k_24_16 : lk 24 16 = some (.getfield 11, 19, 2, 0, .null) := by decide +kernel
theorem x_24_16 : Tr sc d 24 (16, [l0, l1, l2], [.ref k2, .int i1, .ref k0], h) Q = (okp h k2 2 = true ∧ ∃ q, hR h k2 0 = some q ∧ Tr sc d 24 (19, [l0, l1, l2], [.ref q, .int i1, .ref k0], h) Q) := t_getr k_24_16
theorem k_24_19 : lk 24 19 = some (.iload_n 1, 20, 1, 0, .null) := by decide +kernel
theorem x_24_19 : Tr sc d 24 (19, [l0, some (.int x), l2], [.ref k2, .int i1, .ref k0], h) Q = Tr sc d 24 (20, [l0, some (.int x), l2], [.int x, .ref k2, .int i1, .ref k0], h) Q := t_iload_n k_24_19 rfl
theorem k_24_20 : lk 24 20 = some (.iaload, 21, 0, 0, .null) := by decide +kernel
theorem x_24_20 : Tr sc d 24 (20, [l0, l1, l2], [.int i3, .ref k2, .int i1, .ref k0], h) Q = (iOk sc h k2 i3 ∧ Tr sc d 24 (21, [l0, l1, l2], [.int (iRd sc h k2 i3), .int i1, .ref k0], h) Q) := t_iald k_24_20
theorem k_24_21 : lk 24 21 = some (.isub, 22, 0, 0, .null) := by decide +kernel
theorem x_24_21 : Tr sc d 24 (21, [l0, l1, l2], [.int i2, .int i1, .ref k0], h) Q = Tr sc d 24 (22, [l0, l1, l2], [.int (i1 - i2), .ref k0], h) Q := t_go k_24_21 rfl
theorem k_24_22 : lk 24 22 = some (.aload_n 0, 23, 0, 0, .null) := by decide +kernel
theorem x_24_22 : Tr sc d 24 (22, [some (.ref xk), l1, l2], [.int i1, .ref k0], h) Q = Tr sc d 24 (23, [some (.ref xk), l1, l2], [.ref xk, .int i1, .ref k0], h) Q := t_aload_n k_24_22 rfl
theorem k_24_23 : lk 24 23 = some (.getfield 15, 26, 2, 1, .null) := by decide +kernel
theorem x_24_23 : Tr sc d 24 (23, [l0, l1, l2], [.ref k2, .int i1, .ref k0], h) Q = (okp h k2 2 = true ∧ ∃ q, hR h k2 1 = some q ∧ Tr sc d 24 (26, [l0, l1, l2], [.ref q, .int i1, .ref k0], h) Q) := t_getr k_24_23
theorem k_24_26 : lk 24 26 = some (.iload_n 2, 27, 2, 0, .null) := by decide +kernel
theorem x_24_26 : Tr sc d 24 (26, [l0, l1, some (.int x)], [.ref k2, .int i1, .ref k0], h) Q = Tr sc d 24 (27, [l0, l1, some (.int x)], [.int x, .ref k2, .int i1, .ref k0], h) Q := t_iload_n k_24_26 rfl
theorem k_24_27 : lk 24 27 = some (.iaload, 28, 0, 0, .null) := by decide +kernel
theorem x_24_27 : Tr sc d 24 (27, [l0, l1, l2], [.int i3, .ref k2, .int i1, .ref k0], h) Q = (iOk sc h k2 i3 ∧ Tr sc d 24 (28, [l0, l1, l2], [.int (iRd sc h k2 i3), .int i1, .ref k0], h) Q) := t_iald k_24_27
theorem k_24_28 : lk 24 28 = some (.aload_n 0, 29, 0, 0, .null) := by decide +kernel
theorem x_24_28 : Tr sc d 24 (28, [some (.ref xk), l1, l2], [.int i2, .int i1, .ref k0], h) Q = Tr sc d 24 (29, [some (.ref xk), l1, l2], [.ref xk, .int i2, .int i1, .ref k0], h) Q := t_aload_n k_24_28 rfl
theorem k_24_29 : lk 24 29 = some (.getfield 15, 32, 2, 1, .null) := by decide +kernel
theorem x_24_29 : Tr sc d 24 (29, [l0, l1, l2], [.ref k3, .int i2, .int i1, .ref k0], h) Q = (okp h k3 2 = true ∧ ∃ q, hR h k3 1 = some q ∧ Tr sc d 24 (32, [l0, l1, l2], [.ref q, .int i2, .int i1, .ref k0], h) Q) := t_getr k_24_29
theorem k_24_32 : lk 24 32 = some (.iload_n 1, 33, 1, 0, .null) := by decide +kernel
theorem x_24_32 : Tr sc d 24 (32, [l0, some (.int x), l2], [.ref k3, .int i2, .int i1, .ref k0], h) Q = Tr sc d 24 (33, [l0, some (.int x), l2], [.int x, .ref k3, .int i2, .int i1, .ref k0], h) Q := t_iload_n k_24_32 rfl
theorem k_24_33 : lk 24 33 = some (.iaload, 34, 0, 0, .null) := by decide +kernel
theorem x_24_33 : Tr sc d 24 (33, [l0, l1, l2], [.int i4, .ref k3, .int i2, .int i1, .ref k0], h) Q = (iOk sc h k3 i4 ∧ Tr sc d 24 (34, [l0, l1, l2], [.int (iRd sc h k3 i4), .int i2, .int i1, .ref k0], h) Q) := t_iald k_24_33
theorem k_24_34 : lk 24 34 = some (.isub, 35, 0, 0, .null) := by decide +kernel
theorem x_24_34 : Tr sc d 24 (34, [l0, l1, l2], [.int i3, .int i2, .int i1, .ref k0], h) Q = Tr sc d 24 (35, [l0, l1, l2], [.int (i2 - i3), .int i1, .ref k0], h) Q := t_go k_24_34 rfl
theorem k_24_35 : lk 24 35 = some (.invokevirtual 84, 38, 78, 2, .null) := by decide +kernel
theorem x_24_35 : Tr sc (d + 1) 24 (35, [l0, l1, l2], [.int i2, .int i1, .ref k0], h) Q = (okp h k0 7 = true ∧ Tr sc d 78 (ent0 78 [.ref k0, .int i1, .int i2] h) (fun z => Tr sc (d + 1) 24 (38, [l0, l1, l2], z.1.toList ++ [], z.2) Q)) := t_cv (as := [.int i1, .int i2]) (r := []) k_24_35 rfl rfl (Nat.le_of_ble_eq_true rfl) (Nat.le_of_ble_eq_true rfl) (Nat.le_of_ble_eq_true rfl)
theorem k_24_38 : lk 24 38 = some (.ifCond .lt 7, 41, 45, 0, .null) := by decide +kernel
theorem x_24_38 : Tr sc d 24 (38, [l0, l1, l2], [.int i0], h) Q = if i0 < 0 then Tr sc d 24 (45, [l0, l1, l2], [], h) Q else Tr sc d 24 (41, [l0, l1, l2], [], h) Q := t_if k_24_38 rfl
theorem k_24_41 : lk 24 41 = some (.iconst 1, 42, 0, 0, .int 1) := by decide +kernel
theorem x_24_41 : Tr sc d 24 (41, [l0, l1, l2], [], h) Q = Tr sc d 24 (42, [l0, l1, l2], [.int 1], h) Q := t_go k_24_41 rfl
theorem k_24_42 : lk 24 42 = some (.goto 4, 45, 46, 0, .null) := by decide +kernel
theorem x_24_42 : Tr sc d 24 (42, [l0, l1, l2], [.int i0], h) Q = Tr sc d 24 (46, [l0, l1, l2], [.int i0], h) Q := t_go k_24_42 rfl
theorem k_24_45 : lk 24 45 = some (.iconst 0, 46, 0, 0, .int 0) := by decide +kernel
theorem x_24_45 : Tr sc d 24 (45, [l0, l1, l2], [], h) Q = Tr sc d 24 (46, [l0, l1, l2], [.int 0], h) Q := t_go k_24_45 rfl
theorem k_24_46 : lk 24 46 = some (.ireturn, 47, 0, 0, .null) := by decide +kernel
theorem x_24_46 : Tr sc d 24 (46, [l0, l1, l2], [.int i0], h) Q = (vp_nar .boolean i0 = i0 ∧ Q (some (.int i0), h)) := t_zret k_24_46 r_24
theorem e_24 : Tr sc d 24 (ent0 24 [.ref k0, .int i1, .int i2] h) Q = Tr sc d 24 (0, [some (.ref k0), some (.int i1), some (.int i2)], [], h) Q := by
  have e : mL 24 = 3 := by decide +kernel
  unfold ent0
  rw [e]
  rfl
theorem r_25 : mR 25 = none := by decide +kernel
theorem k_25_0 : lk 25 0 = some (.aload_n 0, 1, 0, 0, .null) := by decide +kernel
theorem x_25_0 : Tr sc d 25 (0, [some (.ref xk), l1], [], h) Q = Tr sc d 25 (1, [some (.ref xk), l1], [.ref xk], h) Q := t_aload_n k_25_0 rfl
theorem k_25_1 : lk 25 1 = some (.iconst 0, 2, 0, 0, .int 0) := by decide +kernel
theorem x_25_1 : Tr sc d 25 (1, [l0, l1], [.ref k0], h) Q = Tr sc d 25 (2, [l0, l1], [.int 0, .ref k0], h) Q := t_go k_25_1 rfl
theorem k_25_2 : lk 25 2 = some (.putfield 50, 5, 2, 14, .int 0) := by decide +kernel
theorem x_25_2 : Tr sc d 25 (2, [l0, l1], [.int i1, .ref k0], h) Q = (okp h k0 2 = true ∧ Tr sc d 25 (5, [l0, l1], [], (sI h k0 14 i1)) Q) := t_gd k_25_2 rfl
theorem k_25_5 : lk 25 5 = some (.iconst 0, 6, 0, 0, .int 0) := by decide +kernel
theorem x_25_5 : Tr sc d 25 (5, [l0, l1], [], h) Q = Tr sc d 25 (6, [l0, l1], [.int 0], h) Q := t_go k_25_5 rfl
theorem k_25_6 : lk 25 6 = some (.istore_n 1, 7, 1, 0, .null) := by decide +kernel
theorem x_25_6 : Tr sc d 25 (6, [l0, l1], [.int i0], h) Q = Tr sc d 25 (7, [cl2 l0, some (.int i0)], [], h) Q := t_istore_n k_25_6 (Nat.le_of_ble_eq_true rfl)
theorem k_25_7 : lk 25 7 = some (.iload_n 1, 8, 1, 0, .null) := by decide +kernel
theorem x_25_7 : Tr sc d 25 (7, [l0, some (.int x)], [], h) Q = Tr sc d 25 (8, [l0, some (.int x)], [.int x], h) Q := t_iload_n k_25_7 rfl
theorem k_25_8 : lk 25 8 = some (.aload_n 0, 9, 0, 0, .null) := by decide +kernel
theorem x_25_8 : Tr sc d 25 (8, [some (.ref xk), l1], [.int i0], h) Q = Tr sc d 25 (9, [some (.ref xk), l1], [.ref xk, .int i0], h) Q := t_aload_n k_25_8 rfl
theorem k_25_9 : lk 25 9 = some (.getfield 34, 12, 2, 9, .int 0) := by decide +kernel
theorem x_25_9 : Tr sc d 25 (9, [l0, l1], [.ref k1, .int i0], h) Q = (okp h k1 2 = true ∧ Tr sc d 25 (12, [l0, l1], [.int (hI h k1 9), .int i0], h) Q) := t_gd k_25_9 rfl
theorem k_25_12 : lk 25 12 = some (.if_icmp .ge 28, 15, 40, 0, .null) := by decide +kernel
theorem x_25_12 : Tr sc d 25 (12, [l0, l1], [.int i1, .int i0], h) Q = if i1 ≤ i0 then Tr sc d 25 (40, [l0, l1], [], h) Q else Tr sc d 25 (15, [l0, l1], [], h) Q := t_if k_25_12 rfl
theorem k_25_15 : lk 25 15 = some (.aload_n 0, 16, 0, 0, .null) := by decide +kernel
theorem x_25_15 : Tr sc d 25 (15, [some (.ref xk), l1], [], h) Q = Tr sc d 25 (16, [some (.ref xk), l1], [.ref xk], h) Q := t_aload_n k_25_15 rfl
theorem k_25_16 : lk 25 16 = some (.getfield 30, 19, 2, 6, .null) := by decide +kernel
theorem x_25_16 : Tr sc d 25 (16, [l0, l1], [.ref k0], h) Q = (okp h k0 2 = true ∧ ∃ q, hR h k0 6 = some q ∧ Tr sc d 25 (19, [l0, l1], [.ref q], h) Q) := t_getr k_25_16
theorem k_25_19 : lk 25 19 = some (.iload_n 1, 20, 1, 0, .null) := by decide +kernel
theorem x_25_19 : Tr sc d 25 (19, [l0, some (.int x)], [.ref k0], h) Q = Tr sc d 25 (20, [l0, some (.int x)], [.int x, .ref k0], h) Q := t_iload_n k_25_19 rfl
theorem k_25_20 : lk 25 20 = some (.baload, 21, 0, 0, .null) := by decide +kernel
theorem x_25_20 : Tr sc d 25 (20, [l0, l1], [.int i1, .ref k0], h) Q = ((okp h k0 13 && inb i1 (LN k0)) = true ∧ Tr sc d 25 (21, [l0, l1], [.int (hI h k0 i1.toNatClampNeg)], h) Q) := t_gd k_25_20 rfl
theorem k_25_21 : lk 25 21 = some (.ifCond .eq 13, 24, 34, 0, .null) := by decide +kernel
theorem x_25_21 : Tr sc d 25 (21, [l0, l1], [.int i0], h) Q = if i0 = 0 then Tr sc d 25 (34, [l0, l1], [], h) Q else Tr sc d 25 (24, [l0, l1], [], h) Q := t_if k_25_21 rfl
theorem k_25_24 : lk 25 24 = some (.aload_n 0, 25, 0, 0, .null) := by decide +kernel
theorem x_25_24 : Tr sc d 25 (24, [some (.ref xk), l1], [], h) Q = Tr sc d 25 (25, [some (.ref xk), l1], [.ref xk], h) Q := t_aload_n k_25_24 rfl
theorem k_25_25 : lk 25 25 = some (.dup, 26, 0, 0, .null) := by decide +kernel
theorem x_25_25 : Tr sc d 25 (25, [l0, l1], [.ref k0], h) Q = Tr sc d 25 (26, [l0, l1], [.ref k0, .ref k0], h) Q := t_go k_25_25 rfl
theorem k_25_26 : lk 25 26 = some (.getfield 50, 29, 2, 14, .int 0) := by decide +kernel
theorem x_25_26 : Tr sc d 25 (26, [l0, l1], [.ref k1, .ref k0], h) Q = (okp h k1 2 = true ∧ Tr sc d 25 (29, [l0, l1], [.int (hI h k1 14), .ref k0], h) Q) := t_gd k_25_26 rfl
theorem k_25_29 : lk 25 29 = some (.iconst 1, 30, 0, 0, .int 1) := by decide +kernel
theorem x_25_29 : Tr sc d 25 (29, [l0, l1], [.int i1, .ref k0], h) Q = Tr sc d 25 (30, [l0, l1], [.int 1, .int i1, .ref k0], h) Q := t_go k_25_29 rfl
theorem k_25_30 : lk 25 30 = some (.iadd, 31, 0, 0, .null) := by decide +kernel
theorem x_25_30 : Tr sc d 25 (30, [l0, l1], [.int i2, .int i1, .ref k0], h) Q = Tr sc d 25 (31, [l0, l1], [.int (i1 + i2), .ref k0], h) Q := t_go k_25_30 rfl
theorem k_25_31 : lk 25 31 = some (.putfield 50, 34, 2, 14, .int 0) := by decide +kernel
theorem x_25_31 : Tr sc d 25 (31, [l0, l1], [.int i1, .ref k0], h) Q = (okp h k0 2 = true ∧ Tr sc d 25 (34, [l0, l1], [], (sI h k0 14 i1)) Q) := t_gd k_25_31 rfl
theorem k_25_34 : lk 25 34 = some (.iinc 1 1, 37, 1, 0, .int 1) := by decide +kernel
theorem x_25_34 : Tr sc d 25 (34, [l0, some (.int x)], [], h) Q = Tr sc d 25 (37, [cl2 l0, some (.int (x + 1))], [], h) Q := t_inc k_25_34 rfl (Nat.le_of_ble_eq_true rfl)
theorem k_25_37 : lk 25 37 = some (.goto (-30), 40, 7, 0, .null) := by decide +kernel
theorem x_25_37 : Tr sc d 25 (37, [l0, l1], [], h) Q = Tr sc d 25 (7, [l0, l1], [], h) Q := t_go k_25_37 rfl
theorem k_25_40 : lk 25 40 = some (.return_, 41, 0, 0, .null) := by decide +kernel
theorem x_25_40 : Tr sc d 25 (40, [l0, l1], [], h) Q = Q (none, h) := t_ret k_25_40 (by rw [r_25]; rfl)
theorem e_25 : Tr sc d 25 (ent0 25 [.ref k0] h) Q = Tr sc d 25 (0, [some (.ref k0), none], [], h) Q := by
  have e : mL 25 = 2 := by decide +kernel
  unfold ent0
  rw [e]
  rfl
theorem r_26 : mR 26 = none := by decide +kernel
theorem k_26_0 : lk 26 0 = some (.iconst 0, 1, 0, 0, .int 0) := by decide +kernel
theorem x_26_0 : Tr sc d 26 (0, [l0, l1, l2, l3, l4], [], h) Q = Tr sc d 26 (1, [l0, l1, l2, l3, l4], [.int 0], h) Q := t_go k_26_0 rfl
theorem k_26_1 : lk 26 1 = some (.istore_n 2, 2, 2, 0, .null) := by decide +kernel
theorem x_26_1 : Tr sc d 26 (1, [l0, l1, l2, l3, l4], [.int i0], h) Q = Tr sc d 26 (2, [l0, cl2 l1, some (.int i0), l3, l4], [], h) Q := t_istore_n k_26_1 (Nat.le_of_ble_eq_true rfl)
theorem k_26_2 : lk 26 2 = some (.iload_n 1, 3, 1, 0, .null) := by decide +kernel
theorem x_26_2 : Tr sc d 26 (2, [l0, some (.int x), l2, l3, l4], [], h) Q = Tr sc d 26 (3, [l0, some (.int x), l2, l3, l4], [.int x], h) Q := t_iload_n k_26_2 rfl
theorem k_26_3 : lk 26 3 = some (.istore_n 3, 4, 3, 0, .null) := by decide +kernel
theorem x_26_3 : Tr sc d 26 (3, [l0, l1, l2, l3, l4], [.int i0], h) Q = Tr sc d 26 (4, [l0, l1, cl2 l2, some (.int i0), l4], [], h) Q := t_istore_n k_26_3 (Nat.le_of_ble_eq_true rfl)
theorem k_26_4 : lk 26 4 = some (.aload_n 0, 5, 0, 0, .null) := by decide +kernel
theorem x_26_4 : Tr sc d 26 (4, [some (.ref xk), l1, l2, l3, l4], [], h) Q = Tr sc d 26 (5, [some (.ref xk), l1, l2, l3, l4], [.ref xk], h) Q := t_aload_n k_26_4 rfl
theorem k_26_5 : lk 26 5 = some (.iload_n 1, 6, 1, 0, .null) := by decide +kernel
theorem x_26_5 : Tr sc d 26 (5, [l0, some (.int x), l2, l3, l4], [.ref k0], h) Q = Tr sc d 26 (6, [l0, some (.int x), l2, l3, l4], [.int x, .ref k0], h) Q := t_iload_n k_26_5 rfl
theorem k_26_6 : lk 26 6 = some (.iconst (-1), 7, 0, 0, .int (-1)) := by decide +kernel
theorem x_26_6 : Tr sc d 26 (6, [l0, l1, l2, l3, l4], [.int i1, .ref k0], h) Q = Tr sc d 26 (7, [l0, l1, l2, l3, l4], [.int (-1), .int i1, .ref k0], h) Q := t_go k_26_6 rfl
theorem k_26_7 : lk 26 7 = some (.invokevirtual 89, 10, 27, 2, .null) := by decide +kernel
theorem x_26_7 : Tr sc (d + 1) 26 (7, [l0, l1, l2, l3, l4], [.int i2, .int i1, .ref k0], h) Q = (okp h k0 2 = true ∧ Tr sc d 27 (ent0 27 [.ref k0, .int i1, .int i2] h) (fun z => Tr sc (d + 1) 26 (10, [l0, l1, l2, l3, l4], z.1.toList ++ [], z.2) Q)) := t_cv (as := [.int i1, .int i2]) (r := []) k_26_7 rfl rfl (Nat.le_of_ble_eq_true rfl) (Nat.le_of_ble_eq_true rfl) (Nat.le_of_ble_eq_true rfl)
theorem k_26_10 : lk 26 10 = some (.iconst 0, 11, 0, 0, .int 0) := by decide +kernel
theorem x_26_10 : Tr sc d 26 (10, [l0, l1, l2, l3, l4], [], h) Q = Tr sc d 26 (11, [l0, l1, l2, l3, l4], [.int 0], h) Q := t_go k_26_10 rfl
theorem k_26_11 : lk 26 11 = some (.istore 4, 13, 4, 0, .null) := by decide +kernel
theorem x_26_11 : Tr sc d 26 (11, [l0, l1, l2, l3, l4], [.int i0], h) Q = Tr sc d 26 (13, [l0, l1, l2, cl2 l3, some (.int i0)], [], h) Q := t_istore k_26_11 (Nat.le_of_ble_eq_true rfl)
theorem k_26_13 : lk 26 13 = some (.iload 4, 15, 4, 0, .null) := by decide +kernel
theorem x_26_13 : Tr sc d 26 (13, [l0, l1, l2, l3, some (.int x)], [], h) Q = Tr sc d 26 (15, [l0, l1, l2, l3, some (.int x)], [.int x], h) Q := t_iload k_26_13 rfl
theorem k_26_15 : lk 26 15 = some (.ldc 93, 17, 0, 970, .int 1000000) := by decide +kernel
theorem x_26_15 : Tr sc d 26 (15, [l0, l1, l2, l3, l4], [.int i0], h) Q = Tr sc d 26 (17, [l0, l1, l2, l3, l4], [.int 1000000, .int i0], h) Q := t_go k_26_15 rfl
theorem k_26_17 : lk 26 17 = some (.if_icmp .ge 66, 20, 83, 0, .null) := by decide +kernel
theorem x_26_17 : Tr sc d 26 (17, [l0, l1, l2, l3, l4], [.int i1, .int i0], h) Q = if i1 ≤ i0 then Tr sc d 26 (83, [l0, l1, l2, l3, l4], [], h) Q else Tr sc d 26 (20, [l0, l1, l2, l3, l4], [], h) Q := t_if k_26_17 rfl
theorem k_26_20 : lk 26 20 = some (.iload_n 3, 21, 3, 0, .null) := by decide +kernel
theorem x_26_20 : Tr sc d 26 (20, [l0, l1, l2, some (.int x), l4], [], h) Q = Tr sc d 26 (21, [l0, l1, l2, some (.int x), l4], [.int x], h) Q := t_iload_n k_26_20 rfl
theorem k_26_21 : lk 26 21 = some (.ifCond .lt 62, 24, 83, 0, .null) := by decide +kernel
theorem x_26_21 : Tr sc d 26 (21, [l0, l1, l2, l3, l4], [.int i0], h) Q = if i0 < 0 then Tr sc d 26 (83, [l0, l1, l2, l3, l4], [], h) Q else Tr sc d 26 (24, [l0, l1, l2, l3, l4], [], h) Q := t_if k_26_21 rfl
theorem k_26_24 : lk 26 24 = some (.aload_n 0, 25, 0, 0, .null) := by decide +kernel
theorem x_26_24 : Tr sc d 26 (24, [some (.ref xk), l1, l2, l3, l4], [], h) Q = Tr sc d 26 (25, [some (.ref xk), l1, l2, l3, l4], [.ref xk], h) Q := t_aload_n k_26_24 rfl
theorem k_26_25 : lk 26 25 = some (.getfield 27, 28, 2, 5, .null) := by decide +kernel
theorem x_26_25 : Tr sc d 26 (25, [l0, l1, l2, l3, l4], [.ref k0], h) Q = (okp h k0 2 = true ∧ ∃ q, hR h k0 5 = some q ∧ Tr sc d 26 (28, [l0, l1, l2, l3, l4], [.ref q], h) Q) := t_getr k_26_25
theorem k_26_28 : lk 26 28 = some (.iload_n 3, 29, 3, 0, .null) := by decide +kernel
theorem x_26_28 : Tr sc d 26 (28, [l0, l1, l2, some (.int x), l4], [.ref k0], h) Q = Tr sc d 26 (29, [l0, l1, l2, some (.int x), l4], [.int x, .ref k0], h) Q := t_iload_n k_26_28 rfl
theorem k_26_29 : lk 26 29 = some (.iaload, 30, 0, 0, .null) := by decide +kernel
theorem x_26_29 : Tr sc d 26 (29, [l0, l1, l2, l3, l4], [.int i1, .ref k0], h) Q = (iOk sc h k0 i1 ∧ Tr sc d 26 (30, [l0, l1, l2, l3, l4], [.int (iRd sc h k0 i1)], h) Q) := t_iald k_26_29
theorem k_26_30 : lk 26 30 = some (.aload_n 0, 31, 0, 0, .null) := by decide +kernel
theorem x_26_30 : Tr sc d 26 (30, [some (.ref xk), l1, l2, l3, l4], [.int i0], h) Q = Tr sc d 26 (31, [some (.ref xk), l1, l2, l3, l4], [.ref xk, .int i0], h) Q := t_aload_n k_26_30 rfl
theorem k_26_31 : lk 26 31 = some (.getfield 34, 34, 2, 9, .int 0) := by decide +kernel
theorem x_26_31 : Tr sc d 26 (31, [l0, l1, l2, l3, l4], [.ref k1, .int i0], h) Q = (okp h k1 2 = true ∧ Tr sc d 26 (34, [l0, l1, l2, l3, l4], [.int (hI h k1 9), .int i0], h) Q) := t_gd k_26_31 rfl
theorem k_26_34 : lk 26 34 = some (.if_icmp .ge 23, 37, 57, 0, .null) := by decide +kernel
theorem x_26_34 : Tr sc d 26 (34, [l0, l1, l2, l3, l4], [.int i1, .int i0], h) Q = if i1 ≤ i0 then Tr sc d 26 (57, [l0, l1, l2, l3, l4], [], h) Q else Tr sc d 26 (37, [l0, l1, l2, l3, l4], [], h) Q := t_if k_26_34 rfl
theorem k_26_37 : lk 26 37 = some (.aload_n 0, 38, 0, 0, .null) := by decide +kernel
theorem x_26_37 : Tr sc d 26 (37, [some (.ref xk), l1, l2, l3, l4], [], h) Q = Tr sc d 26 (38, [some (.ref xk), l1, l2, l3, l4], [.ref xk], h) Q := t_aload_n k_26_37 rfl
theorem k_26_38 : lk 26 38 = some (.iload_n 3, 39, 3, 0, .null) := by decide +kernel
theorem x_26_38 : Tr sc d 26 (38, [l0, l1, l2, some (.int x), l4], [.ref k0], h) Q = Tr sc d 26 (39, [l0, l1, l2, some (.int x), l4], [.int x, .ref k0], h) Q := t_iload_n k_26_38 rfl
theorem k_26_39 : lk 26 39 = some (.aload_n 0, 40, 0, 0, .null) := by decide +kernel
theorem x_26_39 : Tr sc d 26 (39, [some (.ref xk), l1, l2, l3, l4], [.int i1, .ref k0], h) Q = Tr sc d 26 (40, [some (.ref xk), l1, l2, l3, l4], [.ref xk, .int i1, .ref k0], h) Q := t_aload_n k_26_39 rfl
theorem k_26_40 : lk 26 40 = some (.getfield 27, 43, 2, 5, .null) := by decide +kernel
theorem x_26_40 : Tr sc d 26 (40, [l0, l1, l2, l3, l4], [.ref k2, .int i1, .ref k0], h) Q = (okp h k2 2 = true ∧ ∃ q, hR h k2 5 = some q ∧ Tr sc d 26 (43, [l0, l1, l2, l3, l4], [.ref q, .int i1, .ref k0], h) Q) := t_getr k_26_40
theorem k_26_43 : lk 26 43 = some (.iload_n 3, 44, 3, 0, .null) := by decide +kernel
theorem x_26_43 : Tr sc d 26 (43, [l0, l1, l2, some (.int x), l4], [.ref k2, .int i1, .ref k0], h) Q = Tr sc d 26 (44, [l0, l1, l2, some (.int x), l4], [.int x, .ref k2, .int i1, .ref k0], h) Q := t_iload_n k_26_43 rfl
theorem k_26_44 : lk 26 44 = some (.dup2, 45, 0, 0, .null) := by decide +kernel
theorem x_26_44 : Tr sc d 26 (44, [l0, l1, l2, l3, l4], [.int i3, .ref k2, .int i1, .ref k0], h) Q = Tr sc d 26 (45, [l0, l1, l2, l3, l4], [.int i3, .ref k2, .int i3, .ref k2, .int i1, .ref k0], h) Q := t_go k_26_44 rfl
theorem k_26_45 : lk 26 45 = some (.iaload, 46, 0, 0, .null) := by decide +kernel
theorem x_26_45 : Tr sc d 26 (45, [l0, l1, l2, l3, l4], [.int i5, .ref k4, .int i3, .ref k2, .int i1, .ref k0], h) Q = (iOk sc h k4 i5 ∧ Tr sc d 26 (46, [l0, l1, l2, l3, l4], [.int (iRd sc h k4 i5), .int i3, .ref k2, .int i1, .ref k0], h) Q) := t_iald k_26_45
theorem k_26_46 : lk 26 46 = some (.dup_x2, 47, 0, 0, .null) := by decide +kernel
theorem x_26_46 : Tr sc d 26 (46, [l0, l1, l2, l3, l4], [.int i4, .int i3, .ref k2, .int i1, .ref k0], h) Q = Tr sc d 26 (47, [l0, l1, l2, l3, l4], [.int i4, .int i3, .ref k2, .int i4, .int i1, .ref k0], h) Q := t_go k_26_46 rfl
theorem k_26_47 : lk 26 47 = some (.iconst 1, 48, 0, 0, .int 1) := by decide +kernel
theorem x_26_47 : Tr sc d 26 (47, [l0, l1, l2, l3, l4], [.int i5, .int i4, .ref k3, .int i2, .int i1, .ref k0], h) Q = Tr sc d 26 (48, [l0, l1, l2, l3, l4], [.int 1, .int i5, .int i4, .ref k3, .int i2, .int i1, .ref k0], h) Q := t_go k_26_47 rfl
theorem k_26_48 : lk 26 48 = some (.iadd, 49, 0, 0, .null) := by decide +kernel
theorem x_26_48 : Tr sc d 26 (48, [l0, l1, l2, l3, l4], [.int i6, .int i5, .int i4, .ref k3, .int i2, .int i1, .ref k0], h) Q = Tr sc d 26 (49, [l0, l1, l2, l3, l4], [.int (i5 + i6), .int i4, .ref k3, .int i2, .int i1, .ref k0], h) Q := t_go k_26_48 rfl
theorem k_26_49 : lk 26 49 = some (.iastore, 50, 0, 0, .null) := by decide +kernel
theorem x_26_49 : Tr sc d 26 (49, [l0, l1, l2, l3, l4], [.int i5, .int i4, .ref k3, .int i2, .int i1, .ref k0], h) Q = ((okp h k3 11 && inb i4 (LN k3)) = true ∧ Tr sc d 26 (50, [l0, l1, l2, l3, l4], [.int i2, .int i1, .ref k0], (sI h k3 i4.toNatClampNeg i5)) Q) := t_gd k_26_49 rfl
theorem k_26_50 : lk 26 50 = some (.invokevirtual 94, 53, 28, 2, .null) := by decide +kernel
theorem x_26_50 : Tr sc (d + 1) 26 (50, [l0, l1, l2, l3, l4], [.int i2, .int i1, .ref k0], h) Q = (okp h k0 2 = true ∧ Tr sc d 28 (ent0 28 [.ref k0, .int i1, .int i2] h) (fun z => Tr sc (d + 1) 26 (53, [l0, l1, l2, l3, l4], z.1.toList ++ [], z.2) Q)) := t_cv (as := [.int i1, .int i2]) (r := []) k_26_50 rfl rfl (Nat.le_of_ble_eq_true rfl) (Nat.le_of_ble_eq_true rfl) (Nat.le_of_ble_eq_true rfl)
theorem k_26_53 : lk 26 53 = some (.istore_n 3, 54, 3, 0, .null) := by decide +kernel
theorem x_26_53 : Tr sc d 26 (53, [l0, l1, l2, l3, l4], [.int i0], h) Q = Tr sc d 26 (54, [l0, l1, cl2 l2, some (.int i0), l4], [], h) Q := t_istore_n k_26_53 (Nat.le_of_ble_eq_true rfl)
theorem k_26_54 : lk 26 54 = some (.goto 23, 57, 77, 0, .null) := by decide +kernel
theorem x_26_54 : Tr sc d 26 (54, [l0, l1, l2, l3, l4], [], h) Q = Tr sc d 26 (77, [l0, l1, l2, l3, l4], [], h) Q := t_go k_26_54 rfl
theorem k_26_57 : lk 26 57 = some (.aload_n 0, 58, 0, 0, .null) := by decide +kernel
theorem x_26_57 : Tr sc d 26 (57, [some (.ref xk), l1, l2, l3, l4], [], h) Q = Tr sc d 26 (58, [some (.ref xk), l1, l2, l3, l4], [.ref xk], h) Q := t_aload_n k_26_57 rfl
theorem k_26_58 : lk 26 58 = some (.getfield 24, 61, 2, 4, .null) := by decide +kernel
theorem x_26_58 : Tr sc d 26 (58, [l0, l1, l2, l3, l4], [.ref k0], h) Q = (okp h k0 2 = true ∧ ∃ q, hR h k0 4 = some q ∧ Tr sc d 26 (61, [l0, l1, l2, l3, l4], [.ref q], h) Q) := t_getr k_26_58
theorem k_26_61 : lk 26 61 = some (.iload_n 3, 62, 3, 0, .null) := by decide +kernel
theorem x_26_61 : Tr sc d 26 (61, [l0, l1, l2, some (.int x), l4], [.ref k0], h) Q = Tr sc d 26 (62, [l0, l1, l2, some (.int x), l4], [.int x, .ref k0], h) Q := t_iload_n k_26_61 rfl
theorem k_26_62 : lk 26 62 = some (.iaload, 63, 0, 0, .null) := by decide +kernel
theorem x_26_62 : Tr sc d 26 (62, [l0, l1, l2, l3, l4], [.int i1, .ref k0], h) Q = (iOk sc h k0 i1 ∧ Tr sc d 26 (63, [l0, l1, l2, l3, l4], [.int (iRd sc h k0 i1)], h) Q) := t_iald k_26_62
theorem k_26_63 : lk 26 63 = some (.iload_n 1, 64, 1, 0, .null) := by decide +kernel
theorem x_26_63 : Tr sc d 26 (63, [l0, some (.int x), l2, l3, l4], [.int i0], h) Q = Tr sc d 26 (64, [l0, some (.int x), l2, l3, l4], [.int x, .int i0], h) Q := t_iload_n k_26_63 rfl
theorem k_26_64 : lk 26 64 = some (.if_icmp .ne 6, 67, 70, 0, .null) := by decide +kernel
theorem x_26_64 : Tr sc d 26 (64, [l0, l1, l2, l3, l4], [.int i1, .int i0], h) Q = if i0 = i1 then Tr sc d 26 (67, [l0, l1, l2, l3, l4], [], h) Q else Tr sc d 26 (70, [l0, l1, l2, l3, l4], [], h) Q := t_if k_26_64 rfl
theorem k_26_67 : lk 26 67 = some (.iinc 2 1, 70, 2, 0, .int 1) := by decide +kernel
theorem x_26_67 : Tr sc d 26 (67, [l0, l1, some (.int x), l3, l4], [], h) Q = Tr sc d 26 (70, [l0, cl2 l1, some (.int (x + 1)), l3, l4], [], h) Q := t_inc k_26_67 rfl (Nat.le_of_ble_eq_true rfl)
theorem k_26_70 : lk 26 70 = some (.aload_n 0, 71, 0, 0, .null) := by decide +kernel
theorem x_26_70 : Tr sc d 26 (70, [some (.ref xk), l1, l2, l3, l4], [], h) Q = Tr sc d 26 (71, [some (.ref xk), l1, l2, l3, l4], [.ref xk], h) Q := t_aload_n k_26_70 rfl
theorem k_26_71 : lk 26 71 = some (.iload_n 3, 72, 3, 0, .null) := by decide +kernel
theorem x_26_71 : Tr sc d 26 (71, [l0, l1, l2, some (.int x), l4], [.ref k0], h) Q = Tr sc d 26 (72, [l0, l1, l2, some (.int x), l4], [.int x, .ref k0], h) Q := t_iload_n k_26_71 rfl
theorem k_26_72 : lk 26 72 = some (.iload_n 1, 73, 1, 0, .null) := by decide +kernel
theorem x_26_72 : Tr sc d 26 (72, [l0, some (.int x), l2, l3, l4], [.int i1, .ref k0], h) Q = Tr sc d 26 (73, [l0, some (.int x), l2, l3, l4], [.int x, .int i1, .ref k0], h) Q := t_iload_n k_26_72 rfl
theorem k_26_73 : lk 26 73 = some (.invokevirtual 97, 76, 29, 2, .null) := by decide +kernel
theorem x_26_73 : Tr sc (d + 1) 26 (73, [l0, l1, l2, l3, l4], [.int i2, .int i1, .ref k0], h) Q = (okp h k0 2 = true ∧ Tr sc d 29 (ent0 29 [.ref k0, .int i1, .int i2] h) (fun z => Tr sc (d + 1) 26 (76, [l0, l1, l2, l3, l4], z.1.toList ++ [], z.2) Q)) := t_cv (as := [.int i1, .int i2]) (r := []) k_26_73 rfl rfl (Nat.le_of_ble_eq_true rfl) (Nat.le_of_ble_eq_true rfl) (Nat.le_of_ble_eq_true rfl)
theorem k_26_76 : lk 26 76 = some (.istore_n 3, 77, 3, 0, .null) := by decide +kernel
theorem x_26_76 : Tr sc d 26 (76, [l0, l1, l2, l3, l4], [.int i0], h) Q = Tr sc d 26 (77, [l0, l1, cl2 l2, some (.int i0), l4], [], h) Q := t_istore_n k_26_76 (Nat.le_of_ble_eq_true rfl)
theorem k_26_77 : lk 26 77 = some (.iinc 4 1, 80, 4, 0, .int 1) := by decide +kernel
theorem x_26_77 : Tr sc d 26 (77, [l0, l1, l2, l3, some (.int x)], [], h) Q = Tr sc d 26 (80, [l0, l1, l2, cl2 l3, some (.int (x + 1))], [], h) Q := t_inc k_26_77 rfl (Nat.le_of_ble_eq_true rfl)
theorem k_26_80 : lk 26 80 = some (.goto (-67), 83, 13, 0, .null) := by decide +kernel
theorem x_26_80 : Tr sc d 26 (80, [l0, l1, l2, l3, l4], [], h) Q = Tr sc d 26 (13, [l0, l1, l2, l3, l4], [], h) Q := t_go k_26_80 rfl
theorem k_26_83 : lk 26 83 = some (.aload_n 0, 84, 0, 0, .null) := by decide +kernel
theorem x_26_83 : Tr sc d 26 (83, [some (.ref xk), l1, l2, l3, l4], [], h) Q = Tr sc d 26 (84, [some (.ref xk), l1, l2, l3, l4], [.ref xk], h) Q := t_aload_n k_26_83 rfl
theorem k_26_84 : lk 26 84 = some (.getfield 30, 87, 2, 6, .null) := by decide +kernel
theorem x_26_84 : Tr sc d 26 (84, [l0, l1, l2, l3, l4], [.ref k0], h) Q = (okp h k0 2 = true ∧ ∃ q, hR h k0 6 = some q ∧ Tr sc d 26 (87, [l0, l1, l2, l3, l4], [.ref q], h) Q) := t_getr k_26_84
theorem k_26_87 : lk 26 87 = some (.iload_n 1, 88, 1, 0, .null) := by decide +kernel
theorem x_26_87 : Tr sc d 26 (87, [l0, some (.int x), l2, l3, l4], [.ref k0], h) Q = Tr sc d 26 (88, [l0, some (.int x), l2, l3, l4], [.int x, .ref k0], h) Q := t_iload_n k_26_87 rfl
theorem k_26_88 : lk 26 88 = some (.iload_n 2, 89, 2, 0, .null) := by decide +kernel
theorem x_26_88 : Tr sc d 26 (88, [l0, l1, some (.int x), l3, l4], [.int i1, .ref k0], h) Q = Tr sc d 26 (89, [l0, l1, some (.int x), l3, l4], [.int x, .int i1, .ref k0], h) Q := t_iload_n k_26_88 rfl
theorem k_26_89 : lk 26 89 = some (.iconst 1, 90, 0, 0, .int 1) := by decide +kernel
theorem x_26_89 : Tr sc d 26 (89, [l0, l1, l2, l3, l4], [.int i2, .int i1, .ref k0], h) Q = Tr sc d 26 (90, [l0, l1, l2, l3, l4], [.int 1, .int i2, .int i1, .ref k0], h) Q := t_go k_26_89 rfl
theorem k_26_90 : lk 26 90 = some (.if_icmp .le 7, 93, 97, 0, .null) := by decide +kernel
theorem x_26_90 : Tr sc d 26 (90, [l0, l1, l2, l3, l4], [.int i3, .int i2, .int i1, .ref k0], h) Q = if i2 ≤ i3 then Tr sc d 26 (97, [l0, l1, l2, l3, l4], [.int i1, .ref k0], h) Q else Tr sc d 26 (93, [l0, l1, l2, l3, l4], [.int i1, .ref k0], h) Q := t_if k_26_90 rfl
theorem k_26_93 : lk 26 93 = some (.iconst 1, 94, 0, 0, .int 1) := by decide +kernel
theorem x_26_93 : Tr sc d 26 (93, [l0, l1, l2, l3, l4], [.int i1, .ref k0], h) Q = Tr sc d 26 (94, [l0, l1, l2, l3, l4], [.int 1, .int i1, .ref k0], h) Q := t_go k_26_93 rfl
theorem k_26_94 : lk 26 94 = some (.goto 4, 97, 98, 0, .null) := by decide +kernel
theorem x_26_94 : Tr sc d 26 (94, [l0, l1, l2, l3, l4], [.int i2, .int i1, .ref k0], h) Q = Tr sc d 26 (98, [l0, l1, l2, l3, l4], [.int i2, .int i1, .ref k0], h) Q := t_go k_26_94 rfl
theorem k_26_97 : lk 26 97 = some (.iconst 0, 98, 0, 0, .int 0) := by decide +kernel
theorem x_26_97 : Tr sc d 26 (97, [l0, l1, l2, l3, l4], [.int i1, .ref k0], h) Q = Tr sc d 26 (98, [l0, l1, l2, l3, l4], [.int 0, .int i1, .ref k0], h) Q := t_go k_26_97 rfl
theorem k_26_98 : lk 26 98 = some (.bastore, 99, 0, 0, .null) := by decide +kernel
theorem x_26_98 : Tr sc d 26 (98, [l0, l1, l2, l3, l4], [.int i2, .int i1, .ref k0], h) Q = ((okp h k0 13 && inb i1 (LN k0)) = true ∧ Tr sc d 26 (99, [l0, l1, l2, l3, l4], [], (sI h k0 i1.toNatClampNeg (vp_nar .boolean i2))) Q) := t_gd k_26_98 rfl
theorem k_26_99 : lk 26 99 = some (.return_, 100, 0, 0, .null) := by decide +kernel
theorem x_26_99 : Tr sc d 26 (99, [l0, l1, l2, l3, l4], [], h) Q = Q (none, h) := t_ret k_26_99 (by rw [r_26]; rfl)
theorem e_26 : Tr sc d 26 (ent0 26 [.ref k0, .int i1] h) Q = Tr sc d 26 (0, [some (.ref k0), some (.int i1), none, none, none], [], h) Q := by
  have e : mL 26 = 5 := by decide +kernel
  unfold ent0
  rw [e]
  rfl
theorem r_27 : mR 27 = none := by decide +kernel
theorem k_27_0 : lk 27 0 = some (.aload_n 0, 1, 0, 0, .null) := by decide +kernel
theorem x_27_0 : Tr sc d 27 (0, [some (.ref xk), l1, l2], [], h) Q = Tr sc d 27 (1, [some (.ref xk), l1, l2], [.ref xk], h) Q := t_aload_n k_27_0 rfl
theorem k_27_1 : lk 27 1 = some (.dup, 2, 0, 0, .null) := by decide +kernel
theorem x_27_1 : Tr sc d 27 (1, [l0, l1, l2], [.ref k0], h) Q = Tr sc d 27 (2, [l0, l1, l2], [.ref k0, .ref k0], h) Q := t_go k_27_1 rfl
theorem k_27_2 : lk 27 2 = some (.getfield 38, 5, 2, 10, .int 0) := by decide +kernel
theorem x_27_2 : Tr sc d 27 (2, [l0, l1, l2], [.ref k1, .ref k0], h) Q = (okp h k1 2 = true ∧ Tr sc d 27 (5, [l0, l1, l2], [.int (hI h k1 10), .ref k0], h) Q) := t_gd k_27_2 rfl
theorem k_27_5 : lk 27 5 = some (.iconst 1, 6, 0, 0, .int 1) := by decide +kernel
theorem x_27_5 : Tr sc d 27 (5, [l0, l1, l2], [.int i1, .ref k0], h) Q = Tr sc d 27 (6, [l0, l1, l2], [.int 1, .int i1, .ref k0], h) Q := t_go k_27_5 rfl
theorem k_27_6 : lk 27 6 = some (.iadd, 7, 0, 0, .null) := by decide +kernel
theorem x_27_6 : Tr sc d 27 (6, [l0, l1, l2], [.int i2, .int i1, .ref k0], h) Q = Tr sc d 27 (7, [l0, l1, l2], [.int (i1 + i2), .ref k0], h) Q := t_go k_27_6 rfl
theorem k_27_7 : lk 27 7 = some (.putfield 38, 10, 2, 10, .int 0) := by decide +kernel
theorem x_27_7 : Tr sc d 27 (7, [l0, l1, l2], [.int i1, .ref k0], h) Q = (okp h k0 2 = true ∧ Tr sc d 27 (10, [l0, l1, l2], [], (sI h k0 10 i1)) Q) := t_gd k_27_7 rfl
theorem k_27_10 : lk 27 10 = some (.aload_n 0, 11, 0, 0, .null) := by decide +kernel
theorem x_27_10 : Tr sc d 27 (10, [some (.ref xk), l1, l2], [], h) Q = Tr sc d 27 (11, [some (.ref xk), l1, l2], [.ref xk], h) Q := t_aload_n k_27_10 rfl
theorem k_27_11 : lk 27 11 = some (.getfield 18, 14, 2, 2, .null) := by decide +kernel
theorem x_27_11 : Tr sc d 27 (11, [l0, l1, l2], [.ref k0], h) Q = (okp h k0 2 = true ∧ ∃ q, hR h k0 2 = some q ∧ Tr sc d 27 (14, [l0, l1, l2], [.ref q], h) Q) := t_getr k_27_11
theorem k_27_14 : lk 27 14 = some (.iload_n 1, 15, 1, 0, .null) := by decide +kernel
theorem x_27_14 : Tr sc d 27 (14, [l0, some (.int x), l2], [.ref k0], h) Q = Tr sc d 27 (15, [l0, some (.int x), l2], [.int x, .ref k0], h) Q := t_iload_n k_27_14 rfl
theorem k_27_15 : lk 27 15 = some (.aload_n 0, 16, 0, 0, .null) := by decide +kernel
theorem x_27_15 : Tr sc d 27 (15, [some (.ref xk), l1, l2], [.int i1, .ref k0], h) Q = Tr sc d 27 (16, [some (.ref xk), l1, l2], [.ref xk, .int i1, .ref k0], h) Q := t_aload_n k_27_15 rfl
theorem k_27_16 : lk 27 16 = some (.getfield 38, 19, 2, 10, .int 0) := by decide +kernel
theorem x_27_16 : Tr sc d 27 (16, [l0, l1, l2], [.ref k2, .int i1, .ref k0], h) Q = (okp h k2 2 = true ∧ Tr sc d 27 (19, [l0, l1, l2], [.int (hI h k2 10), .int i1, .ref k0], h) Q) := t_gd k_27_16 rfl
theorem k_27_19 : lk 27 19 = some (.iastore, 20, 0, 0, .null) := by decide +kernel
theorem x_27_19 : Tr sc d 27 (19, [l0, l1, l2], [.int i2, .int i1, .ref k0], h) Q = ((okp h k0 11 && inb i1 (LN k0)) = true ∧ Tr sc d 27 (20, [l0, l1, l2], [], (sI h k0 i1.toNatClampNeg i2)) Q) := t_gd k_27_19 rfl
theorem k_27_20 : lk 27 20 = some (.aload_n 0, 21, 0, 0, .null) := by decide +kernel
theorem x_27_20 : Tr sc d 27 (20, [some (.ref xk), l1, l2], [], h) Q = Tr sc d 27 (21, [some (.ref xk), l1, l2], [.ref xk], h) Q := t_aload_n k_27_20 rfl
theorem k_27_21 : lk 27 21 = some (.getfield 21, 24, 2, 3, .null) := by decide +kernel
theorem x_27_21 : Tr sc d 27 (21, [l0, l1, l2], [.ref k0], h) Q = (okp h k0 2 = true ∧ ∃ q, hR h k0 3 = some q ∧ Tr sc d 27 (24, [l0, l1, l2], [.ref q], h) Q) := t_getr k_27_21
theorem k_27_24 : lk 27 24 = some (.iload_n 1, 25, 1, 0, .null) := by decide +kernel
theorem x_27_24 : Tr sc d 27 (24, [l0, some (.int x), l2], [.ref k0], h) Q = Tr sc d 27 (25, [l0, some (.int x), l2], [.int x, .ref k0], h) Q := t_iload_n k_27_24 rfl
theorem k_27_25 : lk 27 25 = some (.aload_n 0, 26, 0, 0, .null) := by decide +kernel
theorem x_27_25 : Tr sc d 27 (25, [some (.ref xk), l1, l2], [.int i1, .ref k0], h) Q = Tr sc d 27 (26, [some (.ref xk), l1, l2], [.ref xk, .int i1, .ref k0], h) Q := t_aload_n k_27_25 rfl
theorem k_27_26 : lk 27 26 = some (.getfield 38, 29, 2, 10, .int 0) := by decide +kernel
theorem x_27_26 : Tr sc d 27 (26, [l0, l1, l2], [.ref k2, .int i1, .ref k0], h) Q = (okp h k2 2 = true ∧ Tr sc d 27 (29, [l0, l1, l2], [.int (hI h k2 10), .int i1, .ref k0], h) Q) := t_gd k_27_26 rfl
theorem k_27_29 : lk 27 29 = some (.iastore, 30, 0, 0, .null) := by decide +kernel
theorem x_27_29 : Tr sc d 27 (29, [l0, l1, l2], [.int i2, .int i1, .ref k0], h) Q = ((okp h k0 11 && inb i1 (LN k0)) = true ∧ Tr sc d 27 (30, [l0, l1, l2], [], (sI h k0 i1.toNatClampNeg i2)) Q) := t_gd k_27_29 rfl
theorem k_27_30 : lk 27 30 = some (.aload_n 0, 31, 0, 0, .null) := by decide +kernel
theorem x_27_30 : Tr sc d 27 (30, [some (.ref xk), l1, l2], [], h) Q = Tr sc d 27 (31, [some (.ref xk), l1, l2], [.ref xk], h) Q := t_aload_n k_27_30 rfl
theorem k_27_31 : lk 27 31 = some (.getfield 24, 34, 2, 4, .null) := by decide +kernel
theorem x_27_31 : Tr sc d 27 (31, [l0, l1, l2], [.ref k0], h) Q = (okp h k0 2 = true ∧ ∃ q, hR h k0 4 = some q ∧ Tr sc d 27 (34, [l0, l1, l2], [.ref q], h) Q) := t_getr k_27_31
theorem k_27_34 : lk 27 34 = some (.iload_n 1, 35, 1, 0, .null) := by decide +kernel
theorem x_27_34 : Tr sc d 27 (34, [l0, some (.int x), l2], [.ref k0], h) Q = Tr sc d 27 (35, [l0, some (.int x), l2], [.int x, .ref k0], h) Q := t_iload_n k_27_34 rfl
theorem k_27_35 : lk 27 35 = some (.iload_n 2, 36, 2, 0, .null) := by decide +kernel
theorem x_27_35 : Tr sc d 27 (35, [l0, l1, some (.int x)], [.int i1, .ref k0], h) Q = Tr sc d 27 (36, [l0, l1, some (.int x)], [.int x, .int i1, .ref k0], h) Q := t_iload_n k_27_35 rfl
theorem k_27_36 : lk 27 36 = some (.iastore, 37, 0, 0, .null) := by decide +kernel
theorem x_27_36 : Tr sc d 27 (36, [l0, l1, l2], [.int i2, .int i1, .ref k0], h) Q = ((okp h k0 11 && inb i1 (LN k0)) = true ∧ Tr sc d 27 (37, [l0, l1, l2], [], (sI h k0 i1.toNatClampNeg i2)) Q) := t_gd k_27_36 rfl
theorem k_27_37 : lk 27 37 = some (.aload_n 0, 38, 0, 0, .null) := by decide +kernel
theorem x_27_37 : Tr sc d 27 (37, [some (.ref xk), l1, l2], [], h) Q = Tr sc d 27 (38, [some (.ref xk), l1, l2], [.ref xk], h) Q := t_aload_n k_27_37 rfl
theorem k_27_38 : lk 27 38 = some (.getfield 27, 41, 2, 5, .null) := by decide +kernel
theorem x_27_38 : Tr sc d 27 (38, [l0, l1, l2], [.ref k0], h) Q = (okp h k0 2 = true ∧ ∃ q, hR h k0 5 = some q ∧ Tr sc d 27 (41, [l0, l1, l2], [.ref q], h) Q) := t_getr k_27_38
theorem k_27_41 : lk 27 41 = some (.iload_n 1, 42, 1, 0, .null) := by decide +kernel
theorem x_27_41 : Tr sc d 27 (41, [l0, some (.int x), l2], [.ref k0], h) Q = Tr sc d 27 (42, [l0, some (.int x), l2], [.int x, .ref k0], h) Q := t_iload_n k_27_41 rfl
theorem k_27_42 : lk 27 42 = some (.iconst 0, 43, 0, 0, .int 0) := by decide +kernel
theorem x_27_42 : Tr sc d 27 (42, [l0, l1, l2], [.int i1, .ref k0], h) Q = Tr sc d 27 (43, [l0, l1, l2], [.int 0, .int i1, .ref k0], h) Q := t_go k_27_42 rfl
theorem k_27_43 : lk 27 43 = some (.iastore, 44, 0, 0, .null) := by decide +kernel
theorem x_27_43 : Tr sc d 27 (43, [l0, l1, l2], [.int i2, .int i1, .ref k0], h) Q = ((okp h k0 11 && inb i1 (LN k0)) = true ∧ Tr sc d 27 (44, [l0, l1, l2], [], (sI h k0 i1.toNatClampNeg i2)) Q) := t_gd k_27_43 rfl
theorem k_27_44 : lk 27 44 = some (.return_, 45, 0, 0, .null) := by decide +kernel
theorem x_27_44 : Tr sc d 27 (44, [l0, l1, l2], [], h) Q = Q (none, h) := t_ret k_27_44 (by rw [r_27]; rfl)
theorem e_27 : Tr sc d 27 (ent0 27 [.ref k0, .int i1, .int i2] h) Q = Tr sc d 27 (0, [some (.ref k0), some (.int i1), some (.int i2)], [], h) Q := by
  have e : mL 27 = 3 := by decide +kernel
  unfold ent0
  rw [e]
  rfl
theorem r_28 : mR 28 = some .int := by decide +kernel
theorem k_28_0 : lk 28 0 = some (.aload_n 0, 1, 0, 0, .null) := by decide +kernel
theorem x_28_0 : Tr sc d 28 (0, [some (.ref xk), l1, l2], [], h) Q = Tr sc d 28 (1, [some (.ref xk), l1, l2], [.ref xk], h) Q := t_aload_n k_28_0 rfl
theorem k_28_1 : lk 28 1 = some (.iload_n 1, 2, 1, 0, .null) := by decide +kernel
theorem x_28_1 : Tr sc d 28 (1, [l0, some (.int x), l2], [.ref k0], h) Q = Tr sc d 28 (2, [l0, some (.int x), l2], [.int x, .ref k0], h) Q := t_iload_n k_28_1 rfl
theorem k_28_2 : lk 28 2 = some (.iload_n 2, 3, 2, 0, .null) := by decide +kernel
theorem x_28_2 : Tr sc d 28 (2, [l0, l1, some (.int x)], [.int i1, .ref k0], h) Q = Tr sc d 28 (3, [l0, l1, some (.int x)], [.int x, .int i1, .ref k0], h) Q := t_iload_n k_28_2 rfl
theorem k_28_3 : lk 28 3 = some (.invokevirtual 100, 6, 24, 2, .null) := by decide +kernel
theorem x_28_3 : Tr sc (d + 1) 28 (3, [l0, l1, l2], [.int i2, .int i1, .ref k0], h) Q = (okp h k0 2 = true ∧ Tr sc d 24 (ent0 24 [.ref k0, .int i1, .int i2] h) (fun z => Tr sc (d + 1) 28 (6, [l0, l1, l2], z.1.toList ++ [], z.2) Q)) := t_cv (as := [.int i1, .int i2]) (r := []) k_28_3 rfl rfl (Nat.le_of_ble_eq_true rfl) (Nat.le_of_ble_eq_true rfl) (Nat.le_of_ble_eq_true rfl)
theorem k_28_6 : lk 28 6 = some (.ifCond .ne 5, 9, 11, 0, .null) := by decide +kernel
theorem x_28_6 : Tr sc d 28 (6, [l0, l1, l2], [.int i0], h) Q = if i0 = 0 then Tr sc d 28 (9, [l0, l1, l2], [], h) Q else Tr sc d 28 (11, [l0, l1, l2], [], h) Q := t_if k_28_6 rfl
theorem k_28_9 : lk 28 9 = some (.iload_n 1, 10, 1, 0, .null) := by decide +kernel
theorem x_28_9 : Tr sc d 28 (9, [l0, some (.int x), l2], [], h) Q = Tr sc d 28 (10, [l0, some (.int x), l2], [.int x], h) Q := t_iload_n k_28_9 rfl
theorem k_28_10 : lk 28 10 = some (.ireturn, 11, 0, 0, .null) := by decide +kernel
theorem x_28_10 : Tr sc d 28 (10, [l0, l1, l2], [.int i0], h) Q = Q (some (.int i0), h) := t_ret k_28_10 (by rw [r_28]; rfl)
theorem k_28_11 : lk 28 11 = some (.aload_n 0, 12, 0, 0, .null) := by decide +kernel
theorem x_28_11 : Tr sc d 28 (11, [some (.ref xk), l1, l2], [], h) Q = Tr sc d 28 (12, [some (.ref xk), l1, l2], [.ref xk], h) Q := t_aload_n k_28_11 rfl
theorem k_28_12 : lk 28 12 = some (.dup, 13, 0, 0, .null) := by decide +kernel
theorem x_28_12 : Tr sc d 28 (12, [l0, l1, l2], [.ref k0], h) Q = Tr sc d 28 (13, [l0, l1, l2], [.ref k0, .ref k0], h) Q := t_go k_28_12 rfl
theorem k_28_13 : lk 28 13 = some (.getfield 41, 16, 2, 11, .int 0) := by decide +kernel
theorem x_28_13 : Tr sc d 28 (13, [l0, l1, l2], [.ref k1, .ref k0], h) Q = (okp h k1 2 = true ∧ Tr sc d 28 (16, [l0, l1, l2], [.int (hI h k1 11), .ref k0], h) Q) := t_gd k_28_13 rfl
theorem k_28_16 : lk 28 16 = some (.iconst 1, 17, 0, 0, .int 1) := by decide +kernel
theorem x_28_16 : Tr sc d 28 (16, [l0, l1, l2], [.int i1, .ref k0], h) Q = Tr sc d 28 (17, [l0, l1, l2], [.int 1, .int i1, .ref k0], h) Q := t_go k_28_16 rfl
theorem k_28_17 : lk 28 17 = some (.iadd, 18, 0, 0, .null) := by decide +kernel
theorem x_28_17 : Tr sc d 28 (17, [l0, l1, l2], [.int i2, .int i1, .ref k0], h) Q = Tr sc d 28 (18, [l0, l1, l2], [.int (i1 + i2), .ref k0], h) Q := t_go k_28_17 rfl
theorem k_28_18 : lk 28 18 = some (.putfield 41, 21, 2, 11, .int 0) := by decide +kernel
theorem x_28_18 : Tr sc d 28 (18, [l0, l1, l2], [.int i1, .ref k0], h) Q = (okp h k0 2 = true ∧ Tr sc d 28 (21, [l0, l1, l2], [], (sI h k0 11 i1)) Q) := t_gd k_28_18 rfl
theorem k_28_21 : lk 28 21 = some (.aload_n 0, 22, 0, 0, .null) := by decide +kernel
theorem x_28_21 : Tr sc d 28 (21, [some (.ref xk), l1, l2], [], h) Q = Tr sc d 28 (22, [some (.ref xk), l1, l2], [.ref xk], h) Q := t_aload_n k_28_21 rfl
theorem k_28_22 : lk 28 22 = some (.getfield 18, 25, 2, 2, .null) := by decide +kernel
theorem x_28_22 : Tr sc d 28 (22, [l0, l1, l2], [.ref k0], h) Q = (okp h k0 2 = true ∧ ∃ q, hR h k0 2 = some q ∧ Tr sc d 28 (25, [l0, l1, l2], [.ref q], h) Q) := t_getr k_28_22
theorem k_28_25 : lk 28 25 = some (.iload_n 2, 26, 2, 0, .null) := by decide +kernel
theorem x_28_25 : Tr sc d 28 (25, [l0, l1, some (.int x)], [.ref k0], h) Q = Tr sc d 28 (26, [l0, l1, some (.int x)], [.int x, .ref k0], h) Q := t_iload_n k_28_25 rfl
theorem k_28_26 : lk 28 26 = some (.iaload, 27, 0, 0, .null) := by decide +kernel
theorem x_28_26 : Tr sc d 28 (26, [l0, l1, l2], [.int i1, .ref k0], h) Q = (iOk sc h k0 i1 ∧ Tr sc d 28 (27, [l0, l1, l2], [.int (iRd sc h k0 i1)], h) Q) := t_iald k_28_26
theorem k_28_27 : lk 28 27 = some (.ifCond .ne 11, 30, 38, 0, .null) := by decide +kernel
theorem x_28_27 : Tr sc d 28 (27, [l0, l1, l2], [.int i0], h) Q = if i0 = 0 then Tr sc d 28 (30, [l0, l1, l2], [], h) Q else Tr sc d 28 (38, [l0, l1, l2], [], h) Q := t_if k_28_27 rfl
theorem k_28_30 : lk 28 30 = some (.aload_n 0, 31, 0, 0, .null) := by decide +kernel
theorem x_28_30 : Tr sc d 28 (30, [some (.ref xk), l1, l2], [], h) Q = Tr sc d 28 (31, [some (.ref xk), l1, l2], [.ref xk], h) Q := t_aload_n k_28_30 rfl
theorem k_28_31 : lk 28 31 = some (.iload_n 2, 32, 2, 0, .null) := by decide +kernel
theorem x_28_31 : Tr sc d 28 (31, [l0, l1, some (.int x)], [.ref k0], h) Q = Tr sc d 28 (32, [l0, l1, some (.int x)], [.int x, .ref k0], h) Q := t_iload_n k_28_31 rfl
theorem k_28_32 : lk 28 32 = some (.iload_n 1, 33, 1, 0, .null) := by decide +kernel
theorem x_28_32 : Tr sc d 28 (32, [l0, some (.int x), l2], [.int i1, .ref k0], h) Q = Tr sc d 28 (33, [l0, some (.int x), l2], [.int x, .int i1, .ref k0], h) Q := t_iload_n k_28_32 rfl
theorem k_28_33 : lk 28 33 = some (.invokevirtual 89, 36, 27, 2, .null) := by decide +kernel
theorem x_28_33 : Tr sc (d + 1) 28 (33, [l0, l1, l2], [.int i2, .int i1, .ref k0], h) Q = (okp h k0 2 = true ∧ Tr sc d 27 (ent0 27 [.ref k0, .int i1, .int i2] h) (fun z => Tr sc (d + 1) 28 (36, [l0, l1, l2], z.1.toList ++ [], z.2) Q)) := t_cv (as := [.int i1, .int i2]) (r := []) k_28_33 rfl rfl (Nat.le_of_ble_eq_true rfl) (Nat.le_of_ble_eq_true rfl) (Nat.le_of_ble_eq_true rfl)
theorem k_28_36 : lk 28 36 = some (.iload_n 2, 37, 2, 0, .null) := by decide +kernel
theorem x_28_36 : Tr sc d 28 (36, [l0, l1, some (.int x)], [], h) Q = Tr sc d 28 (37, [l0, l1, some (.int x)], [.int x], h) Q := t_iload_n k_28_36 rfl
theorem k_28_37 : lk 28 37 = some (.ireturn, 38, 0, 0, .null) := by decide +kernel
theorem x_28_37 : Tr sc d 28 (37, [l0, l1, l2], [.int i0], h) Q = Q (some (.int i0), h) := t_ret k_28_37 (by rw [r_28]; rfl)
theorem k_28_38 : lk 28 38 = some (.iload_n 2, 39, 2, 0, .null) := by decide +kernel
theorem x_28_38 : Tr sc d 28 (38, [l0, l1, some (.int x)], [], h) Q = Tr sc d 28 (39, [l0, l1, some (.int x)], [.int x], h) Q := t_iload_n k_28_38 rfl
theorem k_28_39 : lk 28 39 = some (.aload_n 0, 40, 0, 0, .null) := by decide +kernel
theorem x_28_39 : Tr sc d 28 (39, [some (.ref xk), l1, l2], [.int i0], h) Q = Tr sc d 28 (40, [some (.ref xk), l1, l2], [.ref xk, .int i0], h) Q := t_aload_n k_28_39 rfl
theorem k_28_40 : lk 28 40 = some (.getfield 24, 43, 2, 4, .null) := by decide +kernel
theorem x_28_40 : Tr sc d 28 (40, [l0, l1, l2], [.ref k1, .int i0], h) Q = (okp h k1 2 = true ∧ ∃ q, hR h k1 4 = some q ∧ Tr sc d 28 (43, [l0, l1, l2], [.ref q, .int i0], h) Q) := t_getr k_28_40
theorem k_28_43 : lk 28 43 = some (.iload_n 1, 44, 1, 0, .null) := by decide +kernel
theorem x_28_43 : Tr sc d 28 (43, [l0, some (.int x), l2], [.ref k1, .int i0], h) Q = Tr sc d 28 (44, [l0, some (.int x), l2], [.int x, .ref k1, .int i0], h) Q := t_iload_n k_28_43 rfl
theorem k_28_44 : lk 28 44 = some (.iaload, 45, 0, 0, .null) := by decide +kernel
theorem x_28_44 : Tr sc d 28 (44, [l0, l1, l2], [.int i2, .ref k1, .int i0], h) Q = (iOk sc h k1 i2 ∧ Tr sc d 28 (45, [l0, l1, l2], [.int (iRd sc h k1 i2), .int i0], h) Q) := t_iald k_28_44
theorem k_28_45 : lk 28 45 = some (.if_icmp .eq 24, 48, 69, 0, .null) := by decide +kernel
theorem x_28_45 : Tr sc d 28 (45, [l0, l1, l2], [.int i1, .int i0], h) Q = if i0 = i1 then Tr sc d 28 (69, [l0, l1, l2], [], h) Q else Tr sc d 28 (48, [l0, l1, l2], [], h) Q := t_if k_28_45 rfl
theorem k_28_48 : lk 28 48 = some (.aload_n 0, 49, 0, 0, .null) := by decide +kernel
theorem x_28_48 : Tr sc d 28 (48, [some (.ref xk), l1, l2], [], h) Q = Tr sc d 28 (49, [some (.ref xk), l1, l2], [.ref xk], h) Q := t_aload_n k_28_48 rfl
theorem k_28_49 : lk 28 49 = some (.getfield 21, 52, 2, 3, .null) := by decide +kernel
theorem x_28_49 : Tr sc d 28 (49, [l0, l1, l2], [.ref k0], h) Q = (okp h k0 2 = true ∧ ∃ q, hR h k0 3 = some q ∧ Tr sc d 28 (52, [l0, l1, l2], [.ref q], h) Q) := t_getr k_28_49
theorem k_28_52 : lk 28 52 = some (.iload_n 1, 53, 1, 0, .null) := by decide +kernel
theorem x_28_52 : Tr sc d 28 (52, [l0, some (.int x), l2], [.ref k0], h) Q = Tr sc d 28 (53, [l0, some (.int x), l2], [.int x, .ref k0], h) Q := t_iload_n k_28_52 rfl
theorem k_28_53 : lk 28 53 = some (.aload_n 0, 54, 0, 0, .null) := by decide +kernel
theorem x_28_53 : Tr sc d 28 (53, [some (.ref xk), l1, l2], [.int i1, .ref k0], h) Q = Tr sc d 28 (54, [some (.ref xk), l1, l2], [.ref xk, .int i1, .ref k0], h) Q := t_aload_n k_28_53 rfl
theorem k_28_54 : lk 28 54 = some (.getfield 21, 57, 2, 3, .null) := by decide +kernel
theorem x_28_54 : Tr sc d 28 (54, [l0, l1, l2], [.ref k2, .int i1, .ref k0], h) Q = (okp h k2 2 = true ∧ ∃ q, hR h k2 3 = some q ∧ Tr sc d 28 (57, [l0, l1, l2], [.ref q, .int i1, .ref k0], h) Q) := t_getr k_28_54
theorem k_28_57 : lk 28 57 = some (.iload_n 1, 58, 1, 0, .null) := by decide +kernel
theorem x_28_57 : Tr sc d 28 (57, [l0, some (.int x), l2], [.ref k2, .int i1, .ref k0], h) Q = Tr sc d 28 (58, [l0, some (.int x), l2], [.int x, .ref k2, .int i1, .ref k0], h) Q := t_iload_n k_28_57 rfl
theorem k_28_58 : lk 28 58 = some (.iaload, 59, 0, 0, .null) := by decide +kernel
theorem x_28_58 : Tr sc d 28 (58, [l0, l1, l2], [.int i3, .ref k2, .int i1, .ref k0], h) Q = (iOk sc h k2 i3 ∧ Tr sc d 28 (59, [l0, l1, l2], [.int (iRd sc h k2 i3), .int i1, .ref k0], h) Q) := t_iald k_28_58
theorem k_28_59 : lk 28 59 = some (.aload_n 0, 60, 0, 0, .null) := by decide +kernel
theorem x_28_59 : Tr sc d 28 (59, [some (.ref xk), l1, l2], [.int i2, .int i1, .ref k0], h) Q = Tr sc d 28 (60, [some (.ref xk), l1, l2], [.ref xk, .int i2, .int i1, .ref k0], h) Q := t_aload_n k_28_59 rfl
theorem k_28_60 : lk 28 60 = some (.getfield 18, 63, 2, 2, .null) := by decide +kernel
theorem x_28_60 : Tr sc d 28 (60, [l0, l1, l2], [.ref k3, .int i2, .int i1, .ref k0], h) Q = (okp h k3 2 = true ∧ ∃ q, hR h k3 2 = some q ∧ Tr sc d 28 (63, [l0, l1, l2], [.ref q, .int i2, .int i1, .ref k0], h) Q) := t_getr k_28_60
theorem k_28_63 : lk 28 63 = some (.iload_n 2, 64, 2, 0, .null) := by decide +kernel
theorem x_28_63 : Tr sc d 28 (63, [l0, l1, some (.int x)], [.ref k3, .int i2, .int i1, .ref k0], h) Q = Tr sc d 28 (64, [l0, l1, some (.int x)], [.int x, .ref k3, .int i2, .int i1, .ref k0], h) Q := t_iload_n k_28_63 rfl
theorem k_28_64 : lk 28 64 = some (.iaload, 65, 0, 0, .null) := by decide +kernel
theorem x_28_64 : Tr sc d 28 (64, [l0, l1, l2], [.int i4, .ref k3, .int i2, .int i1, .ref k0], h) Q = (iOk sc h k3 i4 ∧ Tr sc d 28 (65, [l0, l1, l2], [.int (iRd sc h k3 i4), .int i2, .int i1, .ref k0], h) Q) := t_iald k_28_64
theorem k_28_65 : lk 28 65 = some (.invokestatic 64, 68, 9003, 0, .null) := by decide +kernel
theorem x_28_65 : Tr sc d 28 (65, [l0, l1, l2], [.int i3, .int i2, .int i1, .ref k0], h) Q = Tr sc d 28 (68, [l0, l1, l2], [.int (if i3 < i2 then i3 else i2), .int i1, .ref k0], h) Q := t_go k_28_65 rfl
theorem k_28_68 : lk 28 68 = some (.iastore, 69, 0, 0, .null) := by decide +kernel
theorem x_28_68 : Tr sc d 28 (68, [l0, l1, l2], [.int i2, .int i1, .ref k0], h) Q = ((okp h k0 11 && inb i1 (LN k0)) = true ∧ Tr sc d 28 (69, [l0, l1, l2], [], (sI h k0 i1.toNatClampNeg i2)) Q) := t_gd k_28_68 rfl
theorem k_28_69 : lk 28 69 = some (.iload_n 1, 70, 1, 0, .null) := by decide +kernel
theorem x_28_69 : Tr sc d 28 (69, [l0, some (.int x), l2], [], h) Q = Tr sc d 28 (70, [l0, some (.int x), l2], [.int x], h) Q := t_iload_n k_28_69 rfl
theorem k_28_70 : lk 28 70 = some (.ireturn, 71, 0, 0, .null) := by decide +kernel
theorem x_28_70 : Tr sc d 28 (70, [l0, l1, l2], [.int i0], h) Q = Q (some (.int i0), h) := t_ret k_28_70 (by rw [r_28]; rfl)
theorem e_28 : Tr sc d 28 (ent0 28 [.ref k0, .int i1, .int i2] h) Q = Tr sc d 28 (0, [some (.ref k0), some (.int i1), some (.int i2)], [], h) Q := by
  have e : mL 28 = 3 := by decide +kernel
  unfold ent0
  rw [e]
  rfl
theorem r_29 : mR 29 = some .int := by decide +kernel
theorem k_29_0 : lk 29 0 = some (.aload_n 0, 1, 0, 0, .null) := by decide +kernel
theorem x_29_0 : Tr sc d 29 (0, [some (.ref xk), l1, l2, l3], [], h) Q = Tr sc d 29 (1, [some (.ref xk), l1, l2, l3], [.ref xk], h) Q := t_aload_n k_29_0 rfl
theorem k_29_1 : lk 29 1 = some (.getfield 24, 4, 2, 4, .null) := by decide +kernel
theorem x_29_1 : Tr sc d 29 (1, [l0, l1, l2, l3], [.ref k0], h) Q = (okp h k0 2 = true ∧ ∃ q, hR h k0 4 = some q ∧ Tr sc d 29 (4, [l0, l1, l2, l3], [.ref q], h) Q) := t_getr k_29_1
theorem k_29_4 : lk 29 4 = some (.iload_n 1, 5, 1, 0, .null) := by decide +kernel
theorem x_29_4 : Tr sc d 29 (4, [l0, some (.int x), l2, l3], [.ref k0], h) Q = Tr sc d 29 (5, [l0, some (.int x), l2, l3], [.int x, .ref k0], h) Q := t_iload_n k_29_4 rfl
theorem k_29_5 : lk 29 5 = some (.iaload, 6, 0, 0, .null) := by decide +kernel
theorem x_29_5 : Tr sc d 29 (5, [l0, l1, l2, l3], [.int i1, .ref k0], h) Q = (iOk sc h k0 i1 ∧ Tr sc d 29 (6, [l0, l1, l2, l3], [.int (iRd sc h k0 i1)], h) Q) := t_iald k_29_5
theorem k_29_6 : lk 29 6 = some (.istore_n 3, 7, 3, 0, .null) := by decide +kernel
theorem x_29_6 : Tr sc d 29 (6, [l0, l1, l2, l3], [.int i0], h) Q = Tr sc d 29 (7, [l0, l1, cl2 l2, some (.int i0)], [], h) Q := t_istore_n k_29_6 (Nat.le_of_ble_eq_true rfl)
theorem k_29_7 : lk 29 7 = some (.iload_n 3, 8, 3, 0, .null) := by decide +kernel
theorem x_29_7 : Tr sc d 29 (7, [l0, l1, l2, some (.int x)], [], h) Q = Tr sc d 29 (8, [l0, l1, l2, some (.int x)], [.int x], h) Q := t_iload_n k_29_7 rfl
theorem k_29_8 : lk 29 8 = some (.ifCond .lt 51, 11, 59, 0, .null) := by decide +kernel
theorem x_29_8 : Tr sc d 29 (8, [l0, l1, l2, l3], [.int i0], h) Q = if i0 < 0 then Tr sc d 29 (59, [l0, l1, l2, l3], [], h) Q else Tr sc d 29 (11, [l0, l1, l2, l3], [], h) Q := t_if k_29_8 rfl
theorem k_29_11 : lk 29 11 = some (.aload_n 0, 12, 0, 0, .null) := by decide +kernel
theorem x_29_11 : Tr sc d 29 (11, [some (.ref xk), l1, l2, l3], [], h) Q = Tr sc d 29 (12, [some (.ref xk), l1, l2, l3], [.ref xk], h) Q := t_aload_n k_29_11 rfl
theorem k_29_12 : lk 29 12 = some (.getfield 21, 15, 2, 3, .null) := by decide +kernel
theorem x_29_12 : Tr sc d 29 (12, [l0, l1, l2, l3], [.ref k0], h) Q = (okp h k0 2 = true ∧ ∃ q, hR h k0 3 = some q ∧ Tr sc d 29 (15, [l0, l1, l2, l3], [.ref q], h) Q) := t_getr k_29_12
theorem k_29_15 : lk 29 15 = some (.iload_n 3, 16, 3, 0, .null) := by decide +kernel
theorem x_29_15 : Tr sc d 29 (15, [l0, l1, l2, some (.int x)], [.ref k0], h) Q = Tr sc d 29 (16, [l0, l1, l2, some (.int x)], [.int x, .ref k0], h) Q := t_iload_n k_29_15 rfl
theorem k_29_16 : lk 29 16 = some (.aload_n 0, 17, 0, 0, .null) := by decide +kernel
theorem x_29_16 : Tr sc d 29 (16, [some (.ref xk), l1, l2, l3], [.int i1, .ref k0], h) Q = Tr sc d 29 (17, [some (.ref xk), l1, l2, l3], [.ref xk, .int i1, .ref k0], h) Q := t_aload_n k_29_16 rfl
theorem k_29_17 : lk 29 17 = some (.getfield 21, 20, 2, 3, .null) := by decide +kernel
theorem x_29_17 : Tr sc d 29 (17, [l0, l1, l2, l3], [.ref k2, .int i1, .ref k0], h) Q = (okp h k2 2 = true ∧ ∃ q, hR h k2 3 = some q ∧ Tr sc d 29 (20, [l0, l1, l2, l3], [.ref q, .int i1, .ref k0], h) Q) := t_getr k_29_17
theorem k_29_20 : lk 29 20 = some (.iload_n 3, 21, 3, 0, .null) := by decide +kernel
theorem x_29_20 : Tr sc d 29 (20, [l0, l1, l2, some (.int x)], [.ref k2, .int i1, .ref k0], h) Q = Tr sc d 29 (21, [l0, l1, l2, some (.int x)], [.int x, .ref k2, .int i1, .ref k0], h) Q := t_iload_n k_29_20 rfl
theorem k_29_21 : lk 29 21 = some (.iaload, 22, 0, 0, .null) := by decide +kernel
theorem x_29_21 : Tr sc d 29 (21, [l0, l1, l2, l3], [.int i3, .ref k2, .int i1, .ref k0], h) Q = (iOk sc h k2 i3 ∧ Tr sc d 29 (22, [l0, l1, l2, l3], [.int (iRd sc h k2 i3), .int i1, .ref k0], h) Q) := t_iald k_29_21
theorem k_29_22 : lk 29 22 = some (.aload_n 0, 23, 0, 0, .null) := by decide +kernel
theorem x_29_22 : Tr sc d 29 (22, [some (.ref xk), l1, l2, l3], [.int i2, .int i1, .ref k0], h) Q = Tr sc d 29 (23, [some (.ref xk), l1, l2, l3], [.ref xk, .int i2, .int i1, .ref k0], h) Q := t_aload_n k_29_22 rfl
theorem k_29_23 : lk 29 23 = some (.getfield 21, 26, 2, 3, .null) := by decide +kernel
theorem x_29_23 : Tr sc d 29 (23, [l0, l1, l2, l3], [.ref k3, .int i2, .int i1, .ref k0], h) Q = (okp h k3 2 = true ∧ ∃ q, hR h k3 3 = some q ∧ Tr sc d 29 (26, [l0, l1, l2, l3], [.ref q, .int i2, .int i1, .ref k0], h) Q) := t_getr k_29_23
theorem k_29_26 : lk 29 26 = some (.iload_n 1, 27, 1, 0, .null) := by decide +kernel
theorem x_29_26 : Tr sc d 29 (26, [l0, some (.int x), l2, l3], [.ref k3, .int i2, .int i1, .ref k0], h) Q = Tr sc d 29 (27, [l0, some (.int x), l2, l3], [.int x, .ref k3, .int i2, .int i1, .ref k0], h) Q := t_iload_n k_29_26 rfl
theorem k_29_27 : lk 29 27 = some (.iaload, 28, 0, 0, .null) := by decide +kernel
theorem x_29_27 : Tr sc d 29 (27, [l0, l1, l2, l3], [.int i4, .ref k3, .int i2, .int i1, .ref k0], h) Q = (iOk sc h k3 i4 ∧ Tr sc d 29 (28, [l0, l1, l2, l3], [.int (iRd sc h k3 i4), .int i2, .int i1, .ref k0], h) Q) := t_iald k_29_27
theorem k_29_28 : lk 29 28 = some (.invokestatic 64, 31, 9003, 0, .null) := by decide +kernel
theorem x_29_28 : Tr sc d 29 (28, [l0, l1, l2, l3], [.int i3, .int i2, .int i1, .ref k0], h) Q = Tr sc d 29 (31, [l0, l1, l2, l3], [.int (if i3 < i2 then i3 else i2), .int i1, .ref k0], h) Q := t_go k_29_28 rfl
theorem k_29_31 : lk 29 31 = some (.iastore, 32, 0, 0, .null) := by decide +kernel
theorem x_29_31 : Tr sc d 29 (31, [l0, l1, l2, l3], [.int i2, .int i1, .ref k0], h) Q = ((okp h k0 11 && inb i1 (LN k0)) = true ∧ Tr sc d 29 (32, [l0, l1, l2, l3], [], (sI h k0 i1.toNatClampNeg i2)) Q) := t_gd k_29_31 rfl
theorem k_29_32 : lk 29 32 = some (.iload_n 3, 33, 3, 0, .null) := by decide +kernel
theorem x_29_32 : Tr sc d 29 (32, [l0, l1, l2, some (.int x)], [], h) Q = Tr sc d 29 (33, [l0, l1, l2, some (.int x)], [.int x], h) Q := t_iload_n k_29_32 rfl
theorem k_29_33 : lk 29 33 = some (.iload_n 2, 34, 2, 0, .null) := by decide +kernel
theorem x_29_33 : Tr sc d 29 (33, [l0, l1, some (.int x), l3], [.int i0], h) Q = Tr sc d 29 (34, [l0, l1, some (.int x), l3], [.int x, .int i0], h) Q := t_iload_n k_29_33 rfl
theorem k_29_34 : lk 29 34 = some (.if_icmp .eq 25, 37, 59, 0, .null) := by decide +kernel
theorem x_29_34 : Tr sc d 29 (34, [l0, l1, l2, l3], [.int i1, .int i0], h) Q = if i0 = i1 then Tr sc d 29 (59, [l0, l1, l2, l3], [], h) Q else Tr sc d 29 (37, [l0, l1, l2, l3], [], h) Q := t_if k_29_34 rfl
theorem k_29_37 : lk 29 37 = some (.aload_n 0, 38, 0, 0, .null) := by decide +kernel
theorem x_29_37 : Tr sc d 29 (37, [some (.ref xk), l1, l2, l3], [], h) Q = Tr sc d 29 (38, [some (.ref xk), l1, l2, l3], [.ref xk], h) Q := t_aload_n k_29_37 rfl
theorem k_29_38 : lk 29 38 = some (.getfield 21, 41, 2, 3, .null) := by decide +kernel
theorem x_29_38 : Tr sc d 29 (38, [l0, l1, l2, l3], [.ref k0], h) Q = (okp h k0 2 = true ∧ ∃ q, hR h k0 3 = some q ∧ Tr sc d 29 (41, [l0, l1, l2, l3], [.ref q], h) Q) := t_getr k_29_38
theorem k_29_41 : lk 29 41 = some (.iload_n 1, 42, 1, 0, .null) := by decide +kernel
theorem x_29_41 : Tr sc d 29 (41, [l0, some (.int x), l2, l3], [.ref k0], h) Q = Tr sc d 29 (42, [l0, some (.int x), l2, l3], [.int x, .ref k0], h) Q := t_iload_n k_29_41 rfl
theorem k_29_42 : lk 29 42 = some (.iaload, 43, 0, 0, .null) := by decide +kernel
theorem x_29_42 : Tr sc d 29 (42, [l0, l1, l2, l3], [.int i1, .ref k0], h) Q = (iOk sc h k0 i1 ∧ Tr sc d 29 (43, [l0, l1, l2, l3], [.int (iRd sc h k0 i1)], h) Q) := t_iald k_29_42
theorem k_29_43 : lk 29 43 = some (.aload_n 0, 44, 0, 0, .null) := by decide +kernel
theorem x_29_43 : Tr sc d 29 (43, [some (.ref xk), l1, l2, l3], [.int i0], h) Q = Tr sc d 29 (44, [some (.ref xk), l1, l2, l3], [.ref xk, .int i0], h) Q := t_aload_n k_29_43 rfl
theorem k_29_44 : lk 29 44 = some (.getfield 18, 47, 2, 2, .null) := by decide +kernel
theorem x_29_44 : Tr sc d 29 (44, [l0, l1, l2, l3], [.ref k1, .int i0], h) Q = (okp h k1 2 = true ∧ ∃ q, hR h k1 2 = some q ∧ Tr sc d 29 (47, [l0, l1, l2, l3], [.ref q, .int i0], h) Q) := t_getr k_29_44
theorem k_29_47 : lk 29 47 = some (.iload_n 3, 48, 3, 0, .null) := by decide +kernel
theorem x_29_47 : Tr sc d 29 (47, [l0, l1, l2, some (.int x)], [.ref k1, .int i0], h) Q = Tr sc d 29 (48, [l0, l1, l2, some (.int x)], [.int x, .ref k1, .int i0], h) Q := t_iload_n k_29_47 rfl
theorem k_29_48 : lk 29 48 = some (.iaload, 49, 0, 0, .null) := by decide +kernel
theorem x_29_48 : Tr sc d 29 (48, [l0, l1, l2, l3], [.int i2, .ref k1, .int i0], h) Q = (iOk sc h k1 i2 ∧ Tr sc d 29 (49, [l0, l1, l2, l3], [.int (iRd sc h k1 i2), .int i0], h) Q) := t_iald k_29_48
theorem k_29_49 : lk 29 49 = some (.if_icmp .lt 10, 52, 59, 0, .null) := by decide +kernel
theorem x_29_49 : Tr sc d 29 (49, [l0, l1, l2, l3], [.int i1, .int i0], h) Q = if i0 < i1 then Tr sc d 29 (59, [l0, l1, l2, l3], [], h) Q else Tr sc d 29 (52, [l0, l1, l2, l3], [], h) Q := t_if k_29_49 rfl
theorem k_29_52 : lk 29 52 = some (.aload_n 0, 53, 0, 0, .null) := by decide +kernel
theorem x_29_52 : Tr sc d 29 (52, [some (.ref xk), l1, l2, l3], [], h) Q = Tr sc d 29 (53, [some (.ref xk), l1, l2, l3], [.ref xk], h) Q := t_aload_n k_29_52 rfl
theorem k_29_53 : lk 29 53 = some (.getfield 30, 56, 2, 6, .null) := by decide +kernel
theorem x_29_53 : Tr sc d 29 (53, [l0, l1, l2, l3], [.ref k0], h) Q = (okp h k0 2 = true ∧ ∃ q, hR h k0 6 = some q ∧ Tr sc d 29 (56, [l0, l1, l2, l3], [.ref q], h) Q) := t_getr k_29_53
theorem k_29_56 : lk 29 56 = some (.iload_n 3, 57, 3, 0, .null) := by decide +kernel
theorem x_29_56 : Tr sc d 29 (56, [l0, l1, l2, some (.int x)], [.ref k0], h) Q = Tr sc d 29 (57, [l0, l1, l2, some (.int x)], [.int x, .ref k0], h) Q := t_iload_n k_29_56 rfl
theorem k_29_57 : lk 29 57 = some (.iconst 1, 58, 0, 0, .int 1) := by decide +kernel
theorem x_29_57 : Tr sc d 29 (57, [l0, l1, l2, l3], [.int i1, .ref k0], h) Q = Tr sc d 29 (58, [l0, l1, l2, l3], [.int 1, .int i1, .ref k0], h) Q := t_go k_29_57 rfl
theorem k_29_58 : lk 29 58 = some (.bastore, 59, 0, 0, .null) := by decide +kernel
theorem x_29_58 : Tr sc d 29 (58, [l0, l1, l2, l3], [.int i2, .int i1, .ref k0], h) Q = ((okp h k0 13 && inb i1 (LN k0)) = true ∧ Tr sc d 29 (59, [l0, l1, l2, l3], [], (sI h k0 i1.toNatClampNeg (vp_nar .boolean i2))) Q) := t_gd k_29_58 rfl
theorem k_29_59 : lk 29 59 = some (.iload_n 3, 60, 3, 0, .null) := by decide +kernel
theorem x_29_59 : Tr sc d 29 (59, [l0, l1, l2, some (.int x)], [], h) Q = Tr sc d 29 (60, [l0, l1, l2, some (.int x)], [.int x], h) Q := t_iload_n k_29_59 rfl
theorem k_29_60 : lk 29 60 = some (.ireturn, 61, 0, 0, .null) := by decide +kernel
theorem x_29_60 : Tr sc d 29 (60, [l0, l1, l2, l3], [.int i0], h) Q = Q (some (.int i0), h) := t_ret k_29_60 (by rw [r_29]; rfl)
theorem e_29 : Tr sc d 29 (ent0 29 [.ref k0, .int i1, .int i2] h) Q = Tr sc d 29 (0, [some (.ref k0), some (.int i1), some (.int i2), none], [], h) Q := by
  have e : mL 29 = 4 := by decide +kernel
  unfold ent0
  rw [e]
  rfl
theorem r_30 : mR 30 = none := by decide +kernel
theorem k_30_0 : lk 30 0 = some (.aload_n 0, 1, 0, 0, .null) := by decide +kernel
theorem x_30_0 : Tr sc d 30 (0, [some (.ref xk)], [], h) Q = Tr sc d 30 (1, [some (.ref xk)], [.ref xk], h) Q := t_aload_n k_30_0 rfl
theorem k_30_1 : lk 30 1 = some (.invokespecial 1, 4, 9000, 0, .null) := by decide +kernel
theorem x_30_1 : Tr sc d 30 (1, [l0], [.ref k0], h) Q = Tr sc d 30 (4, [l0], [], h) Q := t_go k_30_1 rfl
theorem k_30_4 : lk 30 4 = some (.aload_n 0, 5, 0, 0, .null) := by decide +kernel
theorem x_30_4 : Tr sc d 30 (4, [some (.ref xk)], [], h) Q = Tr sc d 30 (5, [some (.ref xk)], [.ref xk], h) Q := t_aload_n k_30_4 rfl
theorem k_30_5 : lk 30 5 = some (.sipush 1600, 8, 0, 0, .int 1600) := by decide +kernel
theorem x_30_5 : Tr sc d 30 (5, [l0], [.ref k0], h) Q = Tr sc d 30 (8, [l0], [.int 1600, .ref k0], h) Q := t_go k_30_5 rfl
theorem k_30_8 : lk 30 8 = some (.newarray .boolean, 10, 13, 0, .null) := by decide +kernel
theorem x_30_8 : Tr sc d 30 (8, [l0], [.int i1, .ref k0], h) Q = ((hN h < 1000 ∧ TG (hN h) = 13 ∧ (¬ i1 < 0) ∧ LN (hN h) = i1.toNatClampNeg ∧ LN (hN h) ≤ 60000) ∧ Tr sc d 30 (10, [l0], [.ref (hN h), .ref k0], nH h) Q) := t_gd k_30_8 rfl
theorem k_30_10 : lk 30 10 = some (.putfield 9, 13, 3, 0, .null) := by decide +kernel
theorem x_30_10 : Tr sc d 30 (10, [l0], [.ref k1, .ref k0], h) Q = (okp h k0 3 = true ∧ Tr sc d 30 (13, [l0], [], (sR h k0 0 (some k1))) Q) := t_gd k_30_10 rfl
theorem k_30_13 : lk 30 13 = some (.aload_n 0, 14, 0, 0, .null) := by decide +kernel
theorem x_30_13 : Tr sc d 30 (13, [some (.ref xk)], [], h) Q = Tr sc d 30 (14, [some (.ref xk)], [.ref xk], h) Q := t_aload_n k_30_13 rfl
theorem k_30_14 : lk 30 14 = some (.sipush 1600, 17, 0, 0, .int 1600) := by decide +kernel
theorem x_30_14 : Tr sc d 30 (14, [l0], [.ref k0], h) Q = Tr sc d 30 (17, [l0], [.int 1600, .ref k0], h) Q := t_go k_30_14 rfl
theorem k_30_17 : lk 30 17 = some (.newarray .int, 19, 11, 0, .null) := by decide +kernel
theorem x_30_17 : Tr sc d 30 (17, [l0], [.int i1, .ref k0], h) Q = ((hN h < 1000 ∧ TG (hN h) = 11 ∧ (¬ i1 < 0) ∧ LN (hN h) = i1.toNatClampNeg ∧ LN (hN h) ≤ 60000) ∧ Tr sc d 30 (19, [l0], [.ref (hN h), .ref k0], nH h) Q) := t_gd k_30_17 rfl
theorem k_30_19 : lk 30 19 = some (.putfield 13, 22, 3, 1, .null) := by decide +kernel
theorem x_30_19 : Tr sc d 30 (19, [l0], [.ref k1, .ref k0], h) Q = (okp h k0 3 = true ∧ Tr sc d 30 (22, [l0], [], (sR h k0 1 (some k1))) Q) := t_gd k_30_19 rfl
theorem k_30_22 : lk 30 22 = some (.aload_n 0, 23, 0, 0, .null) := by decide +kernel
theorem x_30_22 : Tr sc d 30 (22, [some (.ref xk)], [], h) Q = Tr sc d 30 (23, [some (.ref xk)], [.ref xk], h) Q := t_aload_n k_30_22 rfl
theorem k_30_23 : lk 30 23 = some (.iconst 0, 24, 0, 0, .int 0) := by decide +kernel
theorem x_30_23 : Tr sc d 30 (23, [l0], [.ref k0], h) Q = Tr sc d 30 (24, [l0], [.int 0, .ref k0], h) Q := t_go k_30_23 rfl
theorem k_30_24 : lk 30 24 = some (.putfield 17, 27, 3, 2, .int 0) := by decide +kernel
theorem x_30_24 : Tr sc d 30 (24, [l0], [.int i1, .ref k0], h) Q = (okp h k0 3 = true ∧ Tr sc d 30 (27, [l0], [], (sI h k0 2 i1)) Q) := t_gd k_30_24 rfl
theorem k_30_27 : lk 30 27 = some (.aload_n 0, 28, 0, 0, .null) := by decide +kernel
theorem x_30_27 : Tr sc d 30 (27, [some (.ref xk)], [], h) Q = Tr sc d 30 (28, [some (.ref xk)], [.ref xk], h) Q := t_aload_n k_30_27 rfl
theorem k_30_28 : lk 30 28 = some (.iconst 1, 29, 0, 0, .int 1) := by decide +kernel
theorem x_30_28 : Tr sc d 30 (28, [l0], [.ref k0], h) Q = Tr sc d 30 (29, [l0], [.int 1, .ref k0], h) Q := t_go k_30_28 rfl
theorem k_30_29 : lk 30 29 = some (.putfield 21, 32, 3, 3, .int 0) := by decide +kernel
theorem x_30_29 : Tr sc d 30 (29, [l0], [.int i1, .ref k0], h) Q = (okp h k0 3 = true ∧ Tr sc d 30 (32, [l0], [], (sI h k0 3 i1)) Q) := t_gd k_30_29 rfl
theorem k_30_32 : lk 30 32 = some (.aload_n 0, 33, 0, 0, .null) := by decide +kernel
theorem x_30_32 : Tr sc d 30 (32, [some (.ref xk)], [], h) Q = Tr sc d 30 (33, [some (.ref xk)], [.ref xk], h) Q := t_aload_n k_30_32 rfl
theorem k_30_33 : lk 30 33 = some (.iconst 0, 34, 0, 0, .int 0) := by decide +kernel
theorem x_30_33 : Tr sc d 30 (33, [l0], [.ref k0], h) Q = Tr sc d 30 (34, [l0], [.int 0, .ref k0], h) Q := t_go k_30_33 rfl
theorem k_30_34 : lk 30 34 = some (.putfield 24, 37, 3, 4, .int 0) := by decide +kernel
theorem x_30_34 : Tr sc d 30 (34, [l0], [.int i1, .ref k0], h) Q = (okp h k0 3 = true ∧ Tr sc d 30 (37, [l0], [], (sI h k0 4 i1)) Q) := t_gd k_30_34 rfl
theorem k_30_37 : lk 30 37 = some (.return_, 38, 0, 0, .null) := by decide +kernel
theorem x_30_37 : Tr sc d 30 (37, [l0], [], h) Q = Q (none, h) := t_ret k_30_37 (by rw [r_30]; rfl)
theorem e_30 : Tr sc d 30 (ent0 30 [.ref k0] h) Q = Tr sc d 30 (0, [some (.ref k0)], [], h) Q := by
  have e : mL 30 = 1 := by decide +kernel
  unfold ent0
  rw [e]
  rfl
theorem r_31 : mR 31 = some .boolean := by decide +kernel
theorem k_31_0 : lk 31 0 = some (.aload_n 0, 1, 0, 0, .null) := by decide +kernel
theorem x_31_0 : Tr sc d 31 (0, [some (.ref xk), l1, l2, l3, l4], [], h) Q = Tr sc d 31 (1, [some (.ref xk), l1, l2, l3, l4], [.ref xk], h) Q := t_aload_n k_31_0 rfl
theorem k_31_1 : lk 31 1 = some (.aload_n 1, 2, 1, 0, .null) := by decide +kernel
theorem x_31_1 : Tr sc d 31 (1, [l0, some (.ref xk), l2, l3, l4], [.ref k0], h) Q = Tr sc d 31 (2, [l0, some (.ref xk), l2, l3, l4], [.ref xk, .ref k0], h) Q := t_aload_n k_31_1 rfl
theorem k_31_2 : lk 31 2 = some (.getfield 27, 5, 1, 7, .int 0) := by decide +kernel
theorem x_31_2 : Tr sc d 31 (2, [l0, l1, l2, l3, l4], [.ref k1, .ref k0], h) Q = (okp h k1 1 = true ∧ Tr sc d 31 (5, [l0, l1, l2, l3, l4], [.int (hI h k1 7), .ref k0], h) Q) := t_gd k_31_2 rfl
theorem k_31_5 : lk 31 5 = some (.aload_n 1, 6, 1, 0, .null) := by decide +kernel
theorem x_31_5 : Tr sc d 31 (5, [l0, some (.ref xk), l2, l3, l4], [.int i1, .ref k0], h) Q = Tr sc d 31 (6, [l0, some (.ref xk), l2, l3, l4], [.ref xk, .int i1, .ref k0], h) Q := t_aload_n k_31_5 rfl
theorem k_31_6 : lk 31 6 = some (.getfield 32, 9, 1, 6, .int 0) := by decide +kernel
theorem x_31_6 : Tr sc d 31 (6, [l0, l1, l2, l3, l4], [.ref k2, .int i1, .ref k0], h) Q = (okp h k2 1 = true ∧ Tr sc d 31 (9, [l0, l1, l2, l3, l4], [.int (hI h k2 6), .int i1, .ref k0], h) Q) := t_gd k_31_6 rfl
theorem k_31_9 : lk 31 9 = some (.isub, 10, 0, 0, .null) := by decide +kernel
theorem x_31_9 : Tr sc d 31 (9, [l0, l1, l2, l3, l4], [.int i2, .int i1, .ref k0], h) Q = Tr sc d 31 (10, [l0, l1, l2, l3, l4], [.int (i1 - i2), .ref k0], h) Q := t_go k_31_9 rfl
theorem k_31_10 : lk 31 10 = some (.iconst 3, 11, 0, 0, .int 3) := by decide +kernel
theorem x_31_10 : Tr sc d 31 (10, [l0, l1, l2, l3, l4], [.int i1, .ref k0], h) Q = Tr sc d 31 (11, [l0, l1, l2, l3, l4], [.int 3, .int i1, .ref k0], h) Q := t_go k_31_10 rfl
theorem k_31_11 : lk 31 11 = some (.iadd, 12, 0, 0, .null) := by decide +kernel
theorem x_31_11 : Tr sc d 31 (11, [l0, l1, l2, l3, l4], [.int i2, .int i1, .ref k0], h) Q = Tr sc d 31 (12, [l0, l1, l2, l3, l4], [.int (i1 + i2), .ref k0], h) Q := t_go k_31_11 rfl
theorem k_31_12 : lk 31 12 = some (.putfield 21, 15, 3, 3, .int 0) := by decide +kernel
theorem x_31_12 : Tr sc d 31 (12, [l0, l1, l2, l3, l4], [.int i1, .ref k0], h) Q = (okp h k0 3 = true ∧ Tr sc d 31 (15, [l0, l1, l2, l3, l4], [], (sI h k0 3 i1)) Q) := t_gd k_31_12 rfl
theorem k_31_15 : lk 31 15 = some (.aload_n 0, 16, 0, 0, .null) := by decide +kernel
theorem x_31_15 : Tr sc d 31 (15, [some (.ref xk), l1, l2, l3, l4], [], h) Q = Tr sc d 31 (16, [some (.ref xk), l1, l2, l3, l4], [.ref xk], h) Q := t_aload_n k_31_15 rfl
theorem k_31_16 : lk 31 16 = some (.aload_n 0, 17, 0, 0, .null) := by decide +kernel
theorem x_31_16 : Tr sc d 31 (16, [some (.ref xk), l1, l2, l3, l4], [.ref k0], h) Q = Tr sc d 31 (17, [some (.ref xk), l1, l2, l3, l4], [.ref xk, .ref k0], h) Q := t_aload_n k_31_16 rfl
theorem k_31_17 : lk 31 17 = some (.getfield 21, 20, 3, 3, .int 0) := by decide +kernel
theorem x_31_17 : Tr sc d 31 (17, [l0, l1, l2, l3, l4], [.ref k1, .ref k0], h) Q = (okp h k1 3 = true ∧ Tr sc d 31 (20, [l0, l1, l2, l3, l4], [.int (hI h k1 3), .ref k0], h) Q) := t_gd k_31_17 rfl
theorem k_31_20 : lk 31 20 = some (.aload_n 1, 21, 1, 0, .null) := by decide +kernel
theorem x_31_20 : Tr sc d 31 (20, [l0, some (.ref xk), l2, l3, l4], [.int i1, .ref k0], h) Q = Tr sc d 31 (21, [l0, some (.ref xk), l2, l3, l4], [.ref xk, .int i1, .ref k0], h) Q := t_aload_n k_31_20 rfl
theorem k_31_21 : lk 31 21 = some (.getfield 35, 24, 1, 9, .int 0) := by decide +kernel
theorem x_31_21 : Tr sc d 31 (21, [l0, l1, l2, l3, l4], [.ref k2, .int i1, .ref k0], h) Q = (okp h k2 1 = true ∧ Tr sc d 31 (24, [l0, l1, l2, l3, l4], [.int (hI h k2 9), .int i1, .ref k0], h) Q) := t_gd k_31_21 rfl
theorem k_31_24 : lk 31 24 = some (.aload_n 1, 25, 1, 0, .null) := by decide +kernel
theorem x_31_24 : Tr sc d 31 (24, [l0, some (.ref xk), l2, l3, l4], [.int i2, .int i1, .ref k0], h) Q = Tr sc d 31 (25, [l0, some (.ref xk), l2, l3, l4], [.ref xk, .int i2, .int i1, .ref k0], h) Q := t_aload_n k_31_24 rfl
theorem k_31_25 : lk 31 25 = some (.getfield 38, 28, 1, 8, .int 0) := by decide +kernel
theorem x_31_25 : Tr sc d 31 (25, [l0, l1, l2, l3, l4], [.ref k3, .int i2, .int i1, .ref k0], h) Q = (okp h k3 1 = true ∧ Tr sc d 31 (28, [l0, l1, l2, l3, l4], [.int (hI h k3 8), .int i2, .int i1, .ref k0], h) Q) := t_gd k_31_25 rfl
theorem k_31_28 : lk 31 28 = some (.isub, 29, 0, 0, .null) := by decide +kernel
theorem x_31_28 : Tr sc d 31 (28, [l0, l1, l2, l3, l4], [.int i3, .int i2, .int i1, .ref k0], h) Q = Tr sc d 31 (29, [l0, l1, l2, l3, l4], [.int (i2 - i3), .int i1, .ref k0], h) Q := t_go k_31_28 rfl
theorem k_31_29 : lk 31 29 = some (.iconst 3, 30, 0, 0, .int 3) := by decide +kernel
theorem x_31_29 : Tr sc d 31 (29, [l0, l1, l2, l3, l4], [.int i2, .int i1, .ref k0], h) Q = Tr sc d 31 (30, [l0, l1, l2, l3, l4], [.int 3, .int i2, .int i1, .ref k0], h) Q := t_go k_31_29 rfl
theorem k_31_30 : lk 31 30 = some (.iadd, 31, 0, 0, .null) := by decide +kernel
theorem x_31_30 : Tr sc d 31 (30, [l0, l1, l2, l3, l4], [.int i3, .int i2, .int i1, .ref k0], h) Q = Tr sc d 31 (31, [l0, l1, l2, l3, l4], [.int (i2 + i3), .int i1, .ref k0], h) Q := t_go k_31_30 rfl
theorem k_31_31 : lk 31 31 = some (.imul, 32, 0, 0, .null) := by decide +kernel
theorem x_31_31 : Tr sc d 31 (31, [l0, l1, l2, l3, l4], [.int i2, .int i1, .ref k0], h) Q = Tr sc d 31 (32, [l0, l1, l2, l3, l4], [.int (i1 * i2), .ref k0], h) Q := t_go k_31_31 rfl
theorem k_31_32 : lk 31 32 = some (.putfield 24, 35, 3, 4, .int 0) := by decide +kernel
theorem x_31_32 : Tr sc d 31 (32, [l0, l1, l2, l3, l4], [.int i1, .ref k0], h) Q = (okp h k0 3 = true ∧ Tr sc d 31 (35, [l0, l1, l2, l3, l4], [], (sI h k0 4 i1)) Q) := t_gd k_31_32 rfl
theorem k_31_35 : lk 31 35 = some (.aload_n 0, 36, 0, 0, .null) := by decide +kernel
theorem x_31_35 : Tr sc d 31 (35, [some (.ref xk), l1, l2, l3, l4], [], h) Q = Tr sc d 31 (36, [some (.ref xk), l1, l2, l3, l4], [.ref xk], h) Q := t_aload_n k_31_35 rfl
theorem k_31_36 : lk 31 36 = some (.getfield 24, 39, 3, 4, .int 0) := by decide +kernel
theorem x_31_36 : Tr sc d 31 (36, [l0, l1, l2, l3, l4], [.ref k0], h) Q = (okp h k0 3 = true ∧ Tr sc d 31 (39, [l0, l1, l2, l3, l4], [.int (hI h k0 4)], h) Q) := t_gd k_31_36 rfl
theorem k_31_39 : lk 31 39 = some (.sipush 1600, 42, 0, 0, .int 1600) := by decide +kernel
theorem x_31_39 : Tr sc d 31 (39, [l0, l1, l2, l3, l4], [.int i0], h) Q = Tr sc d 31 (42, [l0, l1, l2, l3, l4], [.int 1600, .int i0], h) Q := t_go k_31_39 rfl
theorem k_31_42 : lk 31 42 = some (.if_icmp .le 5, 45, 47, 0, .null) := by decide +kernel
theorem x_31_42 : Tr sc d 31 (42, [l0, l1, l2, l3, l4], [.int i1, .int i0], h) Q = if i0 ≤ i1 then Tr sc d 31 (47, [l0, l1, l2, l3, l4], [], h) Q else Tr sc d 31 (45, [l0, l1, l2, l3, l4], [], h) Q := t_if k_31_42 rfl
theorem k_31_45 : lk 31 45 = some (.iconst 0, 46, 0, 0, .int 0) := by decide +kernel
theorem x_31_45 : Tr sc d 31 (45, [l0, l1, l2, l3, l4], [], h) Q = Tr sc d 31 (46, [l0, l1, l2, l3, l4], [.int 0], h) Q := t_go k_31_45 rfl
theorem k_31_46 : lk 31 46 = some (.ireturn, 47, 0, 0, .null) := by decide +kernel
theorem x_31_46 : Tr sc d 31 (46, [l0, l1, l2, l3, l4], [.int i0], h) Q = (vp_nar .boolean i0 = i0 ∧ Q (some (.int i0), h)) := t_zret k_31_46 r_31
theorem k_31_47 : lk 31 47 = some (.iconst 0, 48, 0, 0, .int 0) := by decide +kernel
theorem x_31_47 : Tr sc d 31 (47, [l0, l1, l2, l3, l4], [], h) Q = Tr sc d 31 (48, [l0, l1, l2, l3, l4], [.int 0], h) Q := t_go k_31_47 rfl
theorem k_31_48 : lk 31 48 = some (.istore_n 2, 49, 2, 0, .null) := by decide +kernel
theorem x_31_48 : Tr sc d 31 (48, [l0, l1, l2, l3, l4], [.int i0], h) Q = Tr sc d 31 (49, [l0, cl2 l1, some (.int i0), l3, l4], [], h) Q := t_istore_n k_31_48 (Nat.le_of_ble_eq_true rfl)
theorem k_31_49 : lk 31 49 = some (.iload_n 2, 50, 2, 0, .null) := by decide +kernel
theorem x_31_49 : Tr sc d 31 (49, [l0, l1, some (.int x), l3, l4], [], h) Q = Tr sc d 31 (50, [l0, l1, some (.int x), l3, l4], [.int x], h) Q := t_iload_n k_31_49 rfl
theorem k_31_50 : lk 31 50 = some (.aload_n 0, 51, 0, 0, .null) := by decide +kernel
theorem x_31_50 : Tr sc d 31 (50, [some (.ref xk), l1, l2, l3, l4], [.int i0], h) Q = Tr sc d 31 (51, [some (.ref xk), l1, l2, l3, l4], [.ref xk, .int i0], h) Q := t_aload_n k_31_50 rfl
theorem k_31_51 : lk 31 51 = some (.getfield 24, 54, 3, 4, .int 0) := by decide +kernel
theorem x_31_51 : Tr sc d 31 (51, [l0, l1, l2, l3, l4], [.ref k1, .int i0], h) Q = (okp h k1 3 = true ∧ Tr sc d 31 (54, [l0, l1, l2, l3, l4], [.int (hI h k1 4), .int i0], h) Q) := t_gd k_31_51 rfl
theorem k_31_54 : lk 31 54 = some (.if_icmp .ge 16, 57, 70, 0, .null) := by decide +kernel
theorem x_31_54 : Tr sc d 31 (54, [l0, l1, l2, l3, l4], [.int i1, .int i0], h) Q = if i1 ≤ i0 then Tr sc d 31 (70, [l0, l1, l2, l3, l4], [], h) Q else Tr sc d 31 (57, [l0, l1, l2, l3, l4], [], h) Q := t_if k_31_54 rfl
theorem k_31_57 : lk 31 57 = some (.aload_n 0, 58, 0, 0, .null) := by decide +kernel
theorem x_31_57 : Tr sc d 31 (57, [some (.ref xk), l1, l2, l3, l4], [], h) Q = Tr sc d 31 (58, [some (.ref xk), l1, l2, l3, l4], [.ref xk], h) Q := t_aload_n k_31_57 rfl
theorem k_31_58 : lk 31 58 = some (.getfield 9, 61, 3, 0, .null) := by decide +kernel
theorem x_31_58 : Tr sc d 31 (58, [l0, l1, l2, l3, l4], [.ref k0], h) Q = (okp h k0 3 = true ∧ ∃ q, hR h k0 0 = some q ∧ Tr sc d 31 (61, [l0, l1, l2, l3, l4], [.ref q], h) Q) := t_getr k_31_58
theorem k_31_61 : lk 31 61 = some (.iload_n 2, 62, 2, 0, .null) := by decide +kernel
theorem x_31_61 : Tr sc d 31 (61, [l0, l1, some (.int x), l3, l4], [.ref k0], h) Q = Tr sc d 31 (62, [l0, l1, some (.int x), l3, l4], [.int x, .ref k0], h) Q := t_iload_n k_31_61 rfl
theorem k_31_62 : lk 31 62 = some (.iconst 0, 63, 0, 0, .int 0) := by decide +kernel
theorem x_31_62 : Tr sc d 31 (62, [l0, l1, l2, l3, l4], [.int i1, .ref k0], h) Q = Tr sc d 31 (63, [l0, l1, l2, l3, l4], [.int 0, .int i1, .ref k0], h) Q := t_go k_31_62 rfl
theorem k_31_63 : lk 31 63 = some (.bastore, 64, 0, 0, .null) := by decide +kernel
theorem x_31_63 : Tr sc d 31 (63, [l0, l1, l2, l3, l4], [.int i2, .int i1, .ref k0], h) Q = ((okp h k0 13 && inb i1 (LN k0)) = true ∧ Tr sc d 31 (64, [l0, l1, l2, l3, l4], [], (sI h k0 i1.toNatClampNeg (vp_nar .boolean i2))) Q) := t_gd k_31_63 rfl
theorem k_31_64 : lk 31 64 = some (.iinc 2 1, 67, 2, 0, .int 1) := by decide +kernel
theorem x_31_64 : Tr sc d 31 (64, [l0, l1, some (.int x), l3, l4], [], h) Q = Tr sc d 31 (67, [l0, cl2 l1, some (.int (x + 1)), l3, l4], [], h) Q := t_inc k_31_64 rfl (Nat.le_of_ble_eq_true rfl)
theorem k_31_67 : lk 31 67 = some (.goto (-18), 70, 49, 0, .null) := by decide +kernel
theorem x_31_67 : Tr sc d 31 (67, [l0, l1, l2, l3, l4], [], h) Q = Tr sc d 31 (49, [l0, l1, l2, l3, l4], [], h) Q := t_go k_31_67 rfl
theorem k_31_70 : lk 31 70 = some (.iconst 0, 71, 0, 0, .int 0) := by decide +kernel
theorem x_31_70 : Tr sc d 31 (70, [l0, l1, l2, l3, l4], [], h) Q = Tr sc d 31 (71, [l0, l1, l2, l3, l4], [.int 0], h) Q := t_go k_31_70 rfl
theorem k_31_71 : lk 31 71 = some (.istore_n 2, 72, 2, 0, .null) := by decide +kernel
theorem x_31_71 : Tr sc d 31 (71, [l0, l1, l2, l3, l4], [.int i0], h) Q = Tr sc d 31 (72, [l0, cl2 l1, some (.int i0), l3, l4], [], h) Q := t_istore_n k_31_71 (Nat.le_of_ble_eq_true rfl)
theorem k_31_72 : lk 31 72 = some (.iload_n 2, 73, 2, 0, .null) := by decide +kernel
theorem x_31_72 : Tr sc d 31 (72, [l0, l1, some (.int x), l3, l4], [], h) Q = Tr sc d 31 (73, [l0, l1, some (.int x), l3, l4], [.int x], h) Q := t_iload_n k_31_72 rfl
theorem k_31_73 : lk 31 73 = some (.aload_n 1, 74, 1, 0, .null) := by decide +kernel
theorem x_31_73 : Tr sc d 31 (73, [l0, some (.ref xk), l2, l3, l4], [.int i0], h) Q = Tr sc d 31 (74, [l0, some (.ref xk), l2, l3, l4], [.ref xk, .int i0], h) Q := t_aload_n k_31_73 rfl
theorem k_31_74 : lk 31 74 = some (.getfield 41, 77, 1, 4, .int 0) := by decide +kernel
theorem x_31_74 : Tr sc d 31 (74, [l0, l1, l2, l3, l4], [.ref k1, .int i0], h) Q = (okp h k1 1 = true ∧ Tr sc d 31 (77, [l0, l1, l2, l3, l4], [.int (hI h k1 4), .int i0], h) Q) := t_gd k_31_74 rfl
theorem k_31_77 : lk 31 77 = some (.if_icmp .ge 51, 80, 128, 0, .null) := by decide +kernel
theorem x_31_77 : Tr sc d 31 (77, [l0, l1, l2, l3, l4], [.int i1, .int i0], h) Q = if i1 ≤ i0 then Tr sc d 31 (128, [l0, l1, l2, l3, l4], [], h) Q else Tr sc d 31 (80, [l0, l1, l2, l3, l4], [], h) Q := t_if k_31_77 rfl
theorem k_31_80 : lk 31 80 = some (.aload_n 1, 81, 1, 0, .null) := by decide +kernel
theorem x_31_80 : Tr sc d 31 (80, [l0, some (.ref xk), l2, l3, l4], [], h) Q = Tr sc d 31 (81, [l0, some (.ref xk), l2, l3, l4], [.ref xk], h) Q := t_aload_n k_31_80 rfl
theorem k_31_81 : lk 31 81 = some (.iload_n 2, 82, 2, 0, .null) := by decide +kernel
theorem x_31_81 : Tr sc d 31 (81, [l0, l1, some (.int x), l3, l4], [.ref k0], h) Q = Tr sc d 31 (82, [l0, l1, some (.int x), l3, l4], [.int x, .ref k0], h) Q := t_iload_n k_31_81 rfl
theorem k_31_82 : lk 31 82 = some (.invokevirtual 44, 85, 14, 1, .null) := by decide +kernel
theorem x_31_82 : Tr sc (d + 1) 31 (82, [l0, l1, l2, l3, l4], [.int i1, .ref k0], h) Q = (okp h k0 1 = true ∧ Tr sc d 14 (ent0 14 [.ref k0, .int i1] h) (fun z => Tr sc (d + 1) 31 (85, [l0, l1, l2, l3, l4], z.1.toList ++ [], z.2) Q)) := t_cv (as := [.int i1]) (r := []) k_31_82 rfl rfl (Nat.le_of_ble_eq_true rfl) (Nat.le_of_ble_eq_true rfl) (Nat.le_of_ble_eq_true rfl)
theorem k_31_85 : lk 31 85 = some (.aload_n 1, 86, 1, 0, .null) := by decide +kernel
theorem x_31_85 : Tr sc d 31 (85, [l0, some (.ref xk), l2, l3, l4], [.int i0], h) Q = Tr sc d 31 (86, [l0, some (.ref xk), l2, l3, l4], [.ref xk, .int i0], h) Q := t_aload_n k_31_85 rfl
theorem k_31_86 : lk 31 86 = some (.getfield 32, 89, 1, 6, .int 0) := by decide +kernel
theorem x_31_86 : Tr sc d 31 (86, [l0, l1, l2, l3, l4], [.ref k1, .int i0], h) Q = (okp h k1 1 = true ∧ Tr sc d 31 (89, [l0, l1, l2, l3, l4], [.int (hI h k1 6), .int i0], h) Q) := t_gd k_31_86 rfl
theorem k_31_89 : lk 31 89 = some (.isub, 90, 0, 0, .null) := by decide +kernel
theorem x_31_89 : Tr sc d 31 (89, [l0, l1, l2, l3, l4], [.int i1, .int i0], h) Q = Tr sc d 31 (90, [l0, l1, l2, l3, l4], [.int (i0 - i1)], h) Q := t_go k_31_89 rfl
theorem k_31_90 : lk 31 90 = some (.iconst 1, 91, 0, 0, .int 1) := by decide +kernel
theorem x_31_90 : Tr sc d 31 (90, [l0, l1, l2, l3, l4], [.int i0], h) Q = Tr sc d 31 (91, [l0, l1, l2, l3, l4], [.int 1, .int i0], h) Q := t_go k_31_90 rfl
theorem k_31_91 : lk 31 91 = some (.iadd, 92, 0, 0, .null) := by decide +kernel
theorem x_31_91 : Tr sc d 31 (91, [l0, l1, l2, l3, l4], [.int i1, .int i0], h) Q = Tr sc d 31 (92, [l0, l1, l2, l3, l4], [.int (i0 + i1)], h) Q := t_go k_31_91 rfl
theorem k_31_92 : lk 31 92 = some (.istore_n 3, 93, 3, 0, .null) := by decide +kernel
theorem x_31_92 : Tr sc d 31 (92, [l0, l1, l2, l3, l4], [.int i0], h) Q = Tr sc d 31 (93, [l0, l1, cl2 l2, some (.int i0), l4], [], h) Q := t_istore_n k_31_92 (Nat.le_of_ble_eq_true rfl)
theorem k_31_93 : lk 31 93 = some (.aload_n 1, 94, 1, 0, .null) := by decide +kernel
theorem x_31_93 : Tr sc d 31 (93, [l0, some (.ref xk), l2, l3, l4], [], h) Q = Tr sc d 31 (94, [l0, some (.ref xk), l2, l3, l4], [.ref xk], h) Q := t_aload_n k_31_93 rfl
theorem k_31_94 : lk 31 94 = some (.iload_n 2, 95, 2, 0, .null) := by decide +kernel
theorem x_31_94 : Tr sc d 31 (94, [l0, l1, some (.int x), l3, l4], [.ref k0], h) Q = Tr sc d 31 (95, [l0, l1, some (.int x), l3, l4], [.int x, .ref k0], h) Q := t_iload_n k_31_94 rfl
theorem k_31_95 : lk 31 95 = some (.invokevirtual 48, 98, 15, 1, .null) := by decide +kernel
theorem x_31_95 : Tr sc (d + 1) 31 (95, [l0, l1, l2, l3, l4], [.int i1, .ref k0], h) Q = (okp h k0 1 = true ∧ Tr sc d 15 (ent0 15 [.ref k0, .int i1] h) (fun z => Tr sc (d + 1) 31 (98, [l0, l1, l2, l3, l4], z.1.toList ++ [], z.2) Q)) := t_cv (as := [.int i1]) (r := []) k_31_95 rfl rfl (Nat.le_of_ble_eq_true rfl) (Nat.le_of_ble_eq_true rfl) (Nat.le_of_ble_eq_true rfl)
theorem k_31_98 : lk 31 98 = some (.aload_n 1, 99, 1, 0, .null) := by decide +kernel
theorem x_31_98 : Tr sc d 31 (98, [l0, some (.ref xk), l2, l3, l4], [.int i0], h) Q = Tr sc d 31 (99, [l0, some (.ref xk), l2, l3, l4], [.ref xk, .int i0], h) Q := t_aload_n k_31_98 rfl
theorem k_31_99 : lk 31 99 = some (.getfield 38, 102, 1, 8, .int 0) := by decide +kernel
theorem x_31_99 : Tr sc d 31 (99, [l0, l1, l2, l3, l4], [.ref k1, .int i0], h) Q = (okp h k1 1 = true ∧ Tr sc d 31 (102, [l0, l1, l2, l3, l4], [.int (hI h k1 8), .int i0], h) Q) := t_gd k_31_99 rfl
theorem k_31_102 : lk 31 102 = some (.isub, 103, 0, 0, .null) := by decide +kernel
theorem x_31_102 : Tr sc d 31 (102, [l0, l1, l2, l3, l4], [.int i1, .int i0], h) Q = Tr sc d 31 (103, [l0, l1, l2, l3, l4], [.int (i0 - i1)], h) Q := t_go k_31_102 rfl
theorem k_31_103 : lk 31 103 = some (.iconst 1, 104, 0, 0, .int 1) := by decide +kernel
theorem x_31_103 : Tr sc d 31 (103, [l0, l1, l2, l3, l4], [.int i0], h) Q = Tr sc d 31 (104, [l0, l1, l2, l3, l4], [.int 1, .int i0], h) Q := t_go k_31_103 rfl
theorem k_31_104 : lk 31 104 = some (.iadd, 105, 0, 0, .null) := by decide +kernel
theorem x_31_104 : Tr sc d 31 (104, [l0, l1, l2, l3, l4], [.int i1, .int i0], h) Q = Tr sc d 31 (105, [l0, l1, l2, l3, l4], [.int (i0 + i1)], h) Q := t_go k_31_104 rfl
theorem k_31_105 : lk 31 105 = some (.istore 4, 107, 4, 0, .null) := by decide +kernel
theorem x_31_105 : Tr sc d 31 (105, [l0, l1, l2, l3, l4], [.int i0], h) Q = Tr sc d 31 (107, [l0, l1, l2, cl2 l3, some (.int i0)], [], h) Q := t_istore k_31_105 (Nat.le_of_ble_eq_true rfl)
theorem k_31_107 : lk 31 107 = some (.aload_n 0, 108, 0, 0, .null) := by decide +kernel
theorem x_31_107 : Tr sc d 31 (107, [some (.ref xk), l1, l2, l3, l4], [], h) Q = Tr sc d 31 (108, [some (.ref xk), l1, l2, l3, l4], [.ref xk], h) Q := t_aload_n k_31_107 rfl
theorem k_31_108 : lk 31 108 = some (.getfield 9, 111, 3, 0, .null) := by decide +kernel
theorem x_31_108 : Tr sc d 31 (108, [l0, l1, l2, l3, l4], [.ref k0], h) Q = (okp h k0 3 = true ∧ ∃ q, hR h k0 0 = some q ∧ Tr sc d 31 (111, [l0, l1, l2, l3, l4], [.ref q], h) Q) := t_getr k_31_108
theorem k_31_111 : lk 31 111 = some (.iload 4, 113, 4, 0, .null) := by decide +kernel
theorem x_31_111 : Tr sc d 31 (111, [l0, l1, l2, l3, some (.int x)], [.ref k0], h) Q = Tr sc d 31 (113, [l0, l1, l2, l3, some (.int x)], [.int x, .ref k0], h) Q := t_iload k_31_111 rfl
theorem k_31_113 : lk 31 113 = some (.aload_n 0, 114, 0, 0, .null) := by decide +kernel
theorem x_31_113 : Tr sc d 31 (113, [some (.ref xk), l1, l2, l3, l4], [.int i1, .ref k0], h) Q = Tr sc d 31 (114, [some (.ref xk), l1, l2, l3, l4], [.ref xk, .int i1, .ref k0], h) Q := t_aload_n k_31_113 rfl
theorem k_31_114 : lk 31 114 = some (.getfield 21, 117, 3, 3, .int 0) := by decide +kernel
theorem x_31_114 : Tr sc d 31 (114, [l0, l1, l2, l3, l4], [.ref k2, .int i1, .ref k0], h) Q = (okp h k2 3 = true ∧ Tr sc d 31 (117, [l0, l1, l2, l3, l4], [.int (hI h k2 3), .int i1, .ref k0], h) Q) := t_gd k_31_114 rfl
theorem k_31_117 : lk 31 117 = some (.imul, 118, 0, 0, .null) := by decide +kernel
theorem x_31_117 : Tr sc d 31 (117, [l0, l1, l2, l3, l4], [.int i2, .int i1, .ref k0], h) Q = Tr sc d 31 (118, [l0, l1, l2, l3, l4], [.int (i1 * i2), .ref k0], h) Q := t_go k_31_117 rfl
theorem k_31_118 : lk 31 118 = some (.iload_n 3, 119, 3, 0, .null) := by decide +kernel
theorem x_31_118 : Tr sc d 31 (118, [l0, l1, l2, some (.int x), l4], [.int i1, .ref k0], h) Q = Tr sc d 31 (119, [l0, l1, l2, some (.int x), l4], [.int x, .int i1, .ref k0], h) Q := t_iload_n k_31_118 rfl
theorem k_31_119 : lk 31 119 = some (.iadd, 120, 0, 0, .null) := by decide +kernel
theorem x_31_119 : Tr sc d 31 (119, [l0, l1, l2, l3, l4], [.int i2, .int i1, .ref k0], h) Q = Tr sc d 31 (120, [l0, l1, l2, l3, l4], [.int (i1 + i2), .ref k0], h) Q := t_go k_31_119 rfl
theorem k_31_120 : lk 31 120 = some (.iconst 1, 121, 0, 0, .int 1) := by decide +kernel
theorem x_31_120 : Tr sc d 31 (120, [l0, l1, l2, l3, l4], [.int i1, .ref k0], h) Q = Tr sc d 31 (121, [l0, l1, l2, l3, l4], [.int 1, .int i1, .ref k0], h) Q := t_go k_31_120 rfl
theorem k_31_121 : lk 31 121 = some (.bastore, 122, 0, 0, .null) := by decide +kernel
theorem x_31_121 : Tr sc d 31 (121, [l0, l1, l2, l3, l4], [.int i2, .int i1, .ref k0], h) Q = ((okp h k0 13 && inb i1 (LN k0)) = true ∧ Tr sc d 31 (122, [l0, l1, l2, l3, l4], [], (sI h k0 i1.toNatClampNeg (vp_nar .boolean i2))) Q) := t_gd k_31_121 rfl
theorem k_31_122 : lk 31 122 = some (.iinc 2 1, 125, 2, 0, .int 1) := by decide +kernel
theorem x_31_122 : Tr sc d 31 (122, [l0, l1, some (.int x), l3, l4], [], h) Q = Tr sc d 31 (125, [l0, cl2 l1, some (.int (x + 1)), l3, l4], [], h) Q := t_inc k_31_122 rfl (Nat.le_of_ble_eq_true rfl)
theorem k_31_125 : lk 31 125 = some (.goto (-53), 128, 72, 0, .null) := by decide +kernel
theorem x_31_125 : Tr sc d 31 (125, [l0, l1, l2, l3, l4], [], h) Q = Tr sc d 31 (72, [l0, l1, l2, l3, l4], [], h) Q := t_go k_31_125 rfl
theorem k_31_128 : lk 31 128 = some (.iconst 1, 129, 0, 0, .int 1) := by decide +kernel
theorem x_31_128 : Tr sc d 31 (128, [l0, l1, l2, l3, l4], [], h) Q = Tr sc d 31 (129, [l0, l1, l2, l3, l4], [.int 1], h) Q := t_go k_31_128 rfl
theorem k_31_129 : lk 31 129 = some (.ireturn, 130, 0, 0, .null) := by decide +kernel
theorem x_31_129 : Tr sc d 31 (129, [l0, l1, l2, l3, l4], [.int i0], h) Q = (vp_nar .boolean i0 = i0 ∧ Q (some (.int i0), h)) := t_zret k_31_129 r_31
theorem e_31 : Tr sc d 31 (ent0 31 [.ref k0, .ref k1] h) Q = Tr sc d 31 (0, [some (.ref k0), some (.ref k1), none, none, none], [], h) Q := by
  have e : mL 31 = 5 := by decide +kernel
  unfold ent0
  rw [e]
  rfl
theorem r_32 : mR 32 = some .int := by decide +kernel
theorem k_32_0 : lk 32 0 = some (.iconst 0, 1, 0, 0, .int 0) := by decide +kernel
theorem x_32_0 : Tr sc d 32 (0, [l0, l1, l2], [], h) Q = Tr sc d 32 (1, [l0, l1, l2], [.int 0], h) Q := t_go k_32_0 rfl
theorem k_32_1 : lk 32 1 = some (.istore_n 1, 2, 1, 0, .null) := by decide +kernel
theorem x_32_1 : Tr sc d 32 (1, [l0, l1, l2], [.int i0], h) Q = Tr sc d 32 (2, [cl2 l0, some (.int i0), l2], [], h) Q := t_istore_n k_32_1 (Nat.le_of_ble_eq_true rfl)
theorem k_32_2 : lk 32 2 = some (.iconst 0, 3, 0, 0, .int 0) := by decide +kernel
theorem x_32_2 : Tr sc d 32 (2, [l0, l1, l2], [], h) Q = Tr sc d 32 (3, [l0, l1, l2], [.int 0], h) Q := t_go k_32_2 rfl
theorem k_32_3 : lk 32 3 = some (.istore_n 2, 4, 2, 0, .null) := by decide +kernel
theorem x_32_3 : Tr sc d 32 (3, [l0, l1, l2], [.int i0], h) Q = Tr sc d 32 (4, [l0, cl2 l1, some (.int i0)], [], h) Q := t_istore_n k_32_3 (Nat.le_of_ble_eq_true rfl)
theorem k_32_4 : lk 32 4 = some (.iload_n 2, 5, 2, 0, .null) := by decide +kernel
theorem x_32_4 : Tr sc d 32 (4, [l0, l1, some (.int x)], [], h) Q = Tr sc d 32 (5, [l0, l1, some (.int x)], [.int x], h) Q := t_iload_n k_32_4 rfl
theorem k_32_5 : lk 32 5 = some (.aload_n 0, 6, 0, 0, .null) := by decide +kernel
theorem x_32_5 : Tr sc d 32 (5, [some (.ref xk), l1, l2], [.int i0], h) Q = Tr sc d 32 (6, [some (.ref xk), l1, l2], [.ref xk, .int i0], h) Q := t_aload_n k_32_5 rfl
theorem k_32_6 : lk 32 6 = some (.getfield 24, 9, 3, 4, .int 0) := by decide +kernel
theorem x_32_6 : Tr sc d 32 (6, [l0, l1, l2], [.ref k1, .int i0], h) Q = (okp h k1 3 = true ∧ Tr sc d 32 (9, [l0, l1, l2], [.int (hI h k1 4), .int i0], h) Q) := t_gd k_32_6 rfl
theorem k_32_9 : lk 32 9 = some (.if_icmp .ge 26, 12, 35, 0, .null) := by decide +kernel
theorem x_32_9 : Tr sc d 32 (9, [l0, l1, l2], [.int i1, .int i0], h) Q = if i1 ≤ i0 then Tr sc d 32 (35, [l0, l1, l2], [], h) Q else Tr sc d 32 (12, [l0, l1, l2], [], h) Q := t_if k_32_9 rfl
theorem k_32_12 : lk 32 12 = some (.aload_n 0, 13, 0, 0, .null) := by decide +kernel
theorem x_32_12 : Tr sc d 32 (12, [some (.ref xk), l1, l2], [], h) Q = Tr sc d 32 (13, [some (.ref xk), l1, l2], [.ref xk], h) Q := t_aload_n k_32_12 rfl
theorem k_32_13 : lk 32 13 = some (.getfield 9, 16, 3, 0, .null) := by decide +kernel
theorem x_32_13 : Tr sc d 32 (13, [l0, l1, l2], [.ref k0], h) Q = (okp h k0 3 = true ∧ ∃ q, hR h k0 0 = some q ∧ Tr sc d 32 (16, [l0, l1, l2], [.ref q], h) Q) := t_getr k_32_13
theorem k_32_16 : lk 32 16 = some (.iload_n 2, 17, 2, 0, .null) := by decide +kernel
theorem x_32_16 : Tr sc d 32 (16, [l0, l1, some (.int x)], [.ref k0], h) Q = Tr sc d 32 (17, [l0, l1, some (.int x)], [.int x, .ref k0], h) Q := t_iload_n k_32_16 rfl
theorem k_32_17 : lk 32 17 = some (.baload, 18, 0, 0, .null) := by decide +kernel
theorem x_32_17 : Tr sc d 32 (17, [l0, l1, l2], [.int i1, .ref k0], h) Q = ((okp h k0 13 && inb i1 (LN k0)) = true ∧ Tr sc d 32 (18, [l0, l1, l2], [.int (hI h k0 i1.toNatClampNeg)], h) Q) := t_gd k_32_17 rfl
theorem k_32_18 : lk 32 18 = some (.ifCond .ne 11, 21, 29, 0, .null) := by decide +kernel
theorem x_32_18 : Tr sc d 32 (18, [l0, l1, l2], [.int i0], h) Q = if i0 = 0 then Tr sc d 32 (21, [l0, l1, l2], [], h) Q else Tr sc d 32 (29, [l0, l1, l2], [], h) Q := t_if k_32_18 rfl
theorem k_32_21 : lk 32 21 = some (.iinc 1 1, 24, 1, 0, .int 1) := by decide +kernel
theorem x_32_21 : Tr sc d 32 (21, [l0, some (.int x), l2], [], h) Q = Tr sc d 32 (24, [cl2 l0, some (.int (x + 1)), l2], [], h) Q := t_inc k_32_21 rfl (Nat.le_of_ble_eq_true rfl)
theorem k_32_24 : lk 32 24 = some (.aload_n 0, 25, 0, 0, .null) := by decide +kernel
theorem x_32_24 : Tr sc d 32 (24, [some (.ref xk), l1, l2], [], h) Q = Tr sc d 32 (25, [some (.ref xk), l1, l2], [.ref xk], h) Q := t_aload_n k_32_24 rfl
theorem k_32_25 : lk 32 25 = some (.iload_n 2, 26, 2, 0, .null) := by decide +kernel
theorem x_32_25 : Tr sc d 32 (25, [l0, l1, some (.int x)], [.ref k0], h) Q = Tr sc d 32 (26, [l0, l1, some (.int x)], [.int x, .ref k0], h) Q := t_iload_n k_32_25 rfl
theorem k_32_26 : lk 32 26 = some (.invokevirtual 51, 29, 33, 1, .null) := by decide +kernel
theorem x_32_26 : Tr sc (d + 1) 32 (26, [l0, l1, l2], [.int i1, .ref k0], h) Q = (okp h k0 3 = true ∧ Tr sc d 33 (ent0 33 [.ref k0, .int i1] h) (fun z => Tr sc (d + 1) 32 (29, [l0, l1, l2], z.1.toList ++ [], z.2) Q)) := t_cv (as := [.int i1]) (r := []) k_32_26 rfl rfl (Nat.le_of_ble_eq_true rfl) (Nat.le_of_ble_eq_true rfl) (Nat.le_of_ble_eq_true rfl)
theorem k_32_29 : lk 32 29 = some (.iinc 2 1, 32, 2, 0, .int 1) := by decide +kernel
theorem x_32_29 : Tr sc d 32 (29, [l0, l1, some (.int x)], [], h) Q = Tr sc d 32 (32, [l0, cl2 l1, some (.int (x + 1))], [], h) Q := t_inc k_32_29 rfl (Nat.le_of_ble_eq_true rfl)
theorem k_32_32 : lk 32 32 = some (.goto (-28), 35, 4, 0, .null) := by decide +kernel
theorem x_32_32 : Tr sc d 32 (32, [l0, l1, l2], [], h) Q = Tr sc d 32 (4, [l0, l1, l2], [], h) Q := t_go k_32_32 rfl
theorem k_32_35 : lk 32 35 = some (.iload_n 1, 36, 1, 0, .null) := by decide +kernel
theorem x_32_35 : Tr sc d 32 (35, [l0, some (.int x), l2], [], h) Q = Tr sc d 32 (36, [l0, some (.int x), l2], [.int x], h) Q := t_iload_n k_32_35 rfl
theorem k_32_36 : lk 32 36 = some (.iconst 1, 37, 0, 0, .int 1) := by decide +kernel
theorem x_32_36 : Tr sc d 32 (36, [l0, l1, l2], [.int i0], h) Q = Tr sc d 32 (37, [l0, l1, l2], [.int 1, .int i0], h) Q := t_go k_32_36 rfl
theorem k_32_37 : lk 32 37 = some (.isub, 38, 0, 0, .null) := by decide +kernel
theorem x_32_37 : Tr sc d 32 (37, [l0, l1, l2], [.int i1, .int i0], h) Q = Tr sc d 32 (38, [l0, l1, l2], [.int (i0 - i1)], h) Q := t_go k_32_37 rfl
theorem k_32_38 : lk 32 38 = some (.ireturn, 39, 0, 0, .null) := by decide +kernel
theorem x_32_38 : Tr sc d 32 (38, [l0, l1, l2], [.int i0], h) Q = Q (some (.int i0), h) := t_ret k_32_38 (by rw [r_32]; rfl)
theorem e_32 : Tr sc d 32 (ent0 32 [.ref k0] h) Q = Tr sc d 32 (0, [some (.ref k0), none, none], [], h) Q := by
  have e : mL 32 = 3 := by decide +kernel
  unfold ent0
  rw [e]
  rfl
theorem r_33 : mR 33 = none := by decide +kernel
theorem k_33_0 : lk 33 0 = some (.aload_n 0, 1, 0, 0, .null) := by decide +kernel
theorem x_33_0 : Tr sc d 33 (0, [some (.ref xk), l1, l2, l3, l4], [], h) Q = Tr sc d 33 (1, [some (.ref xk), l1, l2, l3, l4], [.ref xk], h) Q := t_aload_n k_33_0 rfl
theorem k_33_1 : lk 33 1 = some (.iconst 0, 2, 0, 0, .int 0) := by decide +kernel
theorem x_33_1 : Tr sc d 33 (1, [l0, l1, l2, l3, l4], [.ref k0], h) Q = Tr sc d 33 (2, [l0, l1, l2, l3, l4], [.int 0, .ref k0], h) Q := t_go k_33_1 rfl
theorem k_33_2 : lk 33 2 = some (.putfield 17, 5, 3, 2, .int 0) := by decide +kernel
theorem x_33_2 : Tr sc d 33 (2, [l0, l1, l2, l3, l4], [.int i1, .ref k0], h) Q = (okp h k0 3 = true ∧ Tr sc d 33 (5, [l0, l1, l2, l3, l4], [], (sI h k0 2 i1)) Q) := t_gd k_33_2 rfl
theorem k_33_5 : lk 33 5 = some (.aload_n 0, 6, 0, 0, .null) := by decide +kernel
theorem x_33_5 : Tr sc d 33 (5, [some (.ref xk), l1, l2, l3, l4], [], h) Q = Tr sc d 33 (6, [some (.ref xk), l1, l2, l3, l4], [.ref xk], h) Q := t_aload_n k_33_5 rfl
theorem k_33_6 : lk 33 6 = some (.iload_n 1, 7, 1, 0, .null) := by decide +kernel
theorem x_33_6 : Tr sc d 33 (6, [l0, some (.int x), l2, l3, l4], [.ref k0], h) Q = Tr sc d 33 (7, [l0, some (.int x), l2, l3, l4], [.int x, .ref k0], h) Q := t_iload_n k_33_6 rfl
theorem k_33_7 : lk 33 7 = some (.invokevirtual 55, 10, 34, 1, .null) := by decide +kernel
theorem x_33_7 : Tr sc (d + 1) 33 (7, [l0, l1, l2, l3, l4], [.int i1, .ref k0], h) Q = (okp h k0 3 = true ∧ Tr sc d 34 (ent0 34 [.ref k0, .int i1] h) (fun z => Tr sc (d + 1) 33 (10, [l0, l1, l2, l3, l4], z.1.toList ++ [], z.2) Q)) := t_cv (as := [.int i1]) (r := []) k_33_7 rfl rfl (Nat.le_of_ble_eq_true rfl) (Nat.le_of_ble_eq_true rfl) (Nat.le_of_ble_eq_true rfl)
theorem k_33_10 : lk 33 10 = some (.iconst 0, 11, 0, 0, .int 0) := by decide +kernel
theorem x_33_10 : Tr sc d 33 (10, [l0, l1, l2, l3, l4], [], h) Q = Tr sc d 33 (11, [l0, l1, l2, l3, l4], [.int 0], h) Q := t_go k_33_10 rfl
theorem k_33_11 : lk 33 11 = some (.istore_n 2, 12, 2, 0, .null) := by decide +kernel
theorem x_33_11 : Tr sc d 33 (11, [l0, l1, l2, l3, l4], [.int i0], h) Q = Tr sc d 33 (12, [l0, cl2 l1, some (.int i0), l3, l4], [], h) Q := t_istore_n k_33_11 (Nat.le_of_ble_eq_true rfl)
theorem k_33_12 : lk 33 12 = some (.iload_n 2, 13, 2, 0, .null) := by decide +kernel
theorem x_33_12 : Tr sc d 33 (12, [l0, l1, some (.int x), l3, l4], [], h) Q = Tr sc d 33 (13, [l0, l1, some (.int x), l3, l4], [.int x], h) Q := t_iload_n k_33_12 rfl
theorem k_33_13 : lk 33 13 = some (.aload_n 0, 14, 0, 0, .null) := by decide +kernel
theorem x_33_13 : Tr sc d 33 (13, [some (.ref xk), l1, l2, l3, l4], [.int i0], h) Q = Tr sc d 33 (14, [some (.ref xk), l1, l2, l3, l4], [.ref xk, .int i0], h) Q := t_aload_n k_33_13 rfl
theorem k_33_14 : lk 33 14 = some (.getfield 17, 17, 3, 2, .int 0) := by decide +kernel
theorem x_33_14 : Tr sc d 33 (14, [l0, l1, l2, l3, l4], [.ref k1, .int i0], h) Q = (okp h k1 3 = true ∧ Tr sc d 33 (17, [l0, l1, l2, l3, l4], [.int (hI h k1 2), .int i0], h) Q) := t_gd k_33_14 rfl
theorem k_33_17 : lk 33 17 = some (.if_icmp .ge 81, 20, 98, 0, .null) := by decide +kernel
theorem x_33_17 : Tr sc d 33 (17, [l0, l1, l2, l3, l4], [.int i1, .int i0], h) Q = if i1 ≤ i0 then Tr sc d 33 (98, [l0, l1, l2, l3, l4], [], h) Q else Tr sc d 33 (20, [l0, l1, l2, l3, l4], [], h) Q := t_if k_33_17 rfl
theorem k_33_20 : lk 33 20 = some (.iload_n 2, 21, 2, 0, .null) := by decide +kernel
theorem x_33_20 : Tr sc d 33 (20, [l0, l1, some (.int x), l3, l4], [], h) Q = Tr sc d 33 (21, [l0, l1, some (.int x), l3, l4], [.int x], h) Q := t_iload_n k_33_20 rfl
theorem k_33_21 : lk 33 21 = some (.sipush 1600, 24, 0, 0, .int 1600) := by decide +kernel
theorem x_33_21 : Tr sc d 33 (21, [l0, l1, l2, l3, l4], [.int i0], h) Q = Tr sc d 33 (24, [l0, l1, l2, l3, l4], [.int 1600, .int i0], h) Q := t_go k_33_21 rfl
theorem k_33_24 : lk 33 24 = some (.if_icmp .ge 74, 27, 98, 0, .null) := by decide +kernel
theorem x_33_24 : Tr sc d 33 (24, [l0, l1, l2, l3, l4], [.int i1, .int i0], h) Q = if i1 ≤ i0 then Tr sc d 33 (98, [l0, l1, l2, l3, l4], [], h) Q else Tr sc d 33 (27, [l0, l1, l2, l3, l4], [], h) Q := t_if k_33_24 rfl
theorem k_33_27 : lk 33 27 = some (.aload_n 0, 28, 0, 0, .null) := by decide +kernel
theorem x_33_27 : Tr sc d 33 (27, [some (.ref xk), l1, l2, l3, l4], [], h) Q = Tr sc d 33 (28, [some (.ref xk), l1, l2, l3, l4], [.ref xk], h) Q := t_aload_n k_33_27 rfl
theorem k_33_28 : lk 33 28 = some (.getfield 13, 31, 3, 1, .null) := by decide +kernel
theorem x_33_28 : Tr sc d 33 (28, [l0, l1, l2, l3, l4], [.ref k0], h) Q = (okp h k0 3 = true ∧ ∃ q, hR h k0 1 = some q ∧ Tr sc d 33 (31, [l0, l1, l2, l3, l4], [.ref q], h) Q) := t_getr k_33_28
theorem k_33_31 : lk 33 31 = some (.iload_n 2, 32, 2, 0, .null) := by decide +kernel
theorem x_33_31 : Tr sc d 33 (31, [l0, l1, some (.int x), l3, l4], [.ref k0], h) Q = Tr sc d 33 (32, [l0, l1, some (.int x), l3, l4], [.int x, .ref k0], h) Q := t_iload_n k_33_31 rfl
theorem k_33_32 : lk 33 32 = some (.iaload, 33, 0, 0, .null) := by decide +kernel
theorem x_33_32 : Tr sc d 33 (32, [l0, l1, l2, l3, l4], [.int i1, .ref k0], h) Q = (iOk sc h k0 i1 ∧ Tr sc d 33 (33, [l0, l1, l2, l3, l4], [.int (iRd sc h k0 i1)], h) Q) := t_iald k_33_32
theorem k_33_33 : lk 33 33 = some (.istore_n 3, 34, 3, 0, .null) := by decide +kernel
theorem x_33_33 : Tr sc d 33 (33, [l0, l1, l2, l3, l4], [.int i0], h) Q = Tr sc d 33 (34, [l0, l1, cl2 l2, some (.int i0), l4], [], h) Q := t_istore_n k_33_33 (Nat.le_of_ble_eq_true rfl)
theorem k_33_34 : lk 33 34 = some (.iload_n 3, 35, 3, 0, .null) := by decide +kernel
theorem x_33_34 : Tr sc d 33 (34, [l0, l1, l2, some (.int x), l4], [], h) Q = Tr sc d 33 (35, [l0, l1, l2, some (.int x), l4], [.int x], h) Q := t_iload_n k_33_34 rfl
theorem k_33_35 : lk 33 35 = some (.aload_n 0, 36, 0, 0, .null) := by decide +kernel
theorem x_33_35 : Tr sc d 33 (35, [some (.ref xk), l1, l2, l3, l4], [.int i0], h) Q = Tr sc d 33 (36, [some (.ref xk), l1, l2, l3, l4], [.ref xk, .int i0], h) Q := t_aload_n k_33_35 rfl
theorem k_33_36 : lk 33 36 = some (.getfield 21, 39, 3, 3, .int 0) := by decide +kernel
theorem x_33_36 : Tr sc d 33 (36, [l0, l1, l2, l3, l4], [.ref k1, .int i0], h) Q = (okp h k1 3 = true ∧ Tr sc d 33 (39, [l0, l1, l2, l3, l4], [.int (hI h k1 3), .int i0], h) Q) := t_gd k_33_36 rfl
theorem k_33_39 : lk 33 39 = some (.irem, 40, 0, 0, .null) := by decide +kernel
theorem x_33_39 : Tr sc d 33 (39, [l0, l1, l2, l3, l4], [.int i1, .int i0], h) Q = (¬ i1 = 0 ∧ Tr sc d 33 (40, [l0, l1, l2, l3, l4], [.int (i0 - i0 / i1 * i1)], h) Q) := t_ng k_33_39 rfl
theorem k_33_40 : lk 33 40 = some (.istore 4, 42, 4, 0, .null) := by decide +kernel
theorem x_33_40 : Tr sc d 33 (40, [l0, l1, l2, l3, l4], [.int i0], h) Q = Tr sc d 33 (42, [l0, l1, l2, cl2 l3, some (.int i0)], [], h) Q := t_istore k_33_40 (Nat.le_of_ble_eq_true rfl)
theorem k_33_42 : lk 33 42 = some (.iload 4, 44, 4, 0, .null) := by decide +kernel
theorem x_33_42 : Tr sc d 33 (42, [l0, l1, l2, l3, some (.int x)], [], h) Q = Tr sc d 33 (44, [l0, l1, l2, l3, some (.int x)], [.int x], h) Q := t_iload k_33_42 rfl
theorem k_33_44 : lk 33 44 = some (.ifCond .le 10, 47, 54, 0, .null) := by decide +kernel
theorem x_33_44 : Tr sc d 33 (44, [l0, l1, l2, l3, l4], [.int i0], h) Q = if i0 ≤ 0 then Tr sc d 33 (54, [l0, l1, l2, l3, l4], [], h) Q else Tr sc d 33 (47, [l0, l1, l2, l3, l4], [], h) Q := t_if k_33_44 rfl
theorem k_33_47 : lk 33 47 = some (.aload_n 0, 48, 0, 0, .null) := by decide +kernel
theorem x_33_47 : Tr sc d 33 (47, [some (.ref xk), l1, l2, l3, l4], [], h) Q = Tr sc d 33 (48, [some (.ref xk), l1, l2, l3, l4], [.ref xk], h) Q := t_aload_n k_33_47 rfl
theorem k_33_48 : lk 33 48 = some (.iload_n 3, 49, 3, 0, .null) := by decide +kernel
theorem x_33_48 : Tr sc d 33 (48, [l0, l1, l2, some (.int x), l4], [.ref k0], h) Q = Tr sc d 33 (49, [l0, l1, l2, some (.int x), l4], [.int x, .ref k0], h) Q := t_iload_n k_33_48 rfl
theorem k_33_49 : lk 33 49 = some (.iconst 1, 50, 0, 0, .int 1) := by decide +kernel
theorem x_33_49 : Tr sc d 33 (49, [l0, l1, l2, l3, l4], [.int i1, .ref k0], h) Q = Tr sc d 33 (50, [l0, l1, l2, l3, l4], [.int 1, .int i1, .ref k0], h) Q := t_go k_33_49 rfl
theorem k_33_50 : lk 33 50 = some (.isub, 51, 0, 0, .null) := by decide +kernel
theorem x_33_50 : Tr sc d 33 (50, [l0, l1, l2, l3, l4], [.int i2, .int i1, .ref k0], h) Q = Tr sc d 33 (51, [l0, l1, l2, l3, l4], [.int (i1 - i2), .ref k0], h) Q := t_go k_33_50 rfl
theorem k_33_51 : lk 33 51 = some (.invokevirtual 55, 54, 34, 1, .null) := by decide +kernel
theorem x_33_51 : Tr sc (d + 1) 33 (51, [l0, l1, l2, l3, l4], [.int i1, .ref k0], h) Q = (okp h k0 3 = true ∧ Tr sc d 34 (ent0 34 [.ref k0, .int i1] h) (fun z => Tr sc (d + 1) 33 (54, [l0, l1, l2, l3, l4], z.1.toList ++ [], z.2) Q)) := t_cv (as := [.int i1]) (r := []) k_33_51 rfl rfl (Nat.le_of_ble_eq_true rfl) (Nat.le_of_ble_eq_true rfl) (Nat.le_of_ble_eq_true rfl)
theorem k_33_54 : lk 33 54 = some (.iload 4, 56, 4, 0, .null) := by decide +kernel
theorem x_33_54 : Tr sc d 33 (54, [l0, l1, l2, l3, some (.int x)], [], h) Q = Tr sc d 33 (56, [l0, l1, l2, l3, some (.int x)], [.int x], h) Q := t_iload k_33_54 rfl
theorem k_33_56 : lk 33 56 = some (.aload_n 0, 57, 0, 0, .null) := by decide +kernel
theorem x_33_56 : Tr sc d 33 (56, [some (.ref xk), l1, l2, l3, l4], [.int i0], h) Q = Tr sc d 33 (57, [some (.ref xk), l1, l2, l3, l4], [.ref xk, .int i0], h) Q := t_aload_n k_33_56 rfl
theorem k_33_57 : lk 33 57 = some (.getfield 21, 60, 3, 3, .int 0) := by decide +kernel
theorem x_33_57 : Tr sc d 33 (57, [l0, l1, l2, l3, l4], [.ref k1, .int i0], h) Q = (okp h k1 3 = true ∧ Tr sc d 33 (60, [l0, l1, l2, l3, l4], [.int (hI h k1 3), .int i0], h) Q) := t_gd k_33_57 rfl
theorem k_33_60 : lk 33 60 = some (.iconst 1, 61, 0, 0, .int 1) := by decide +kernel
theorem x_33_60 : Tr sc d 33 (60, [l0, l1, l2, l3, l4], [.int i1, .int i0], h) Q = Tr sc d 33 (61, [l0, l1, l2, l3, l4], [.int 1, .int i1, .int i0], h) Q := t_go k_33_60 rfl
theorem k_33_61 : lk 33 61 = some (.isub, 62, 0, 0, .null) := by decide +kernel
theorem x_33_61 : Tr sc d 33 (61, [l0, l1, l2, l3, l4], [.int i2, .int i1, .int i0], h) Q = Tr sc d 33 (62, [l0, l1, l2, l3, l4], [.int (i1 - i2), .int i0], h) Q := t_go k_33_61 rfl
theorem k_33_62 : lk 33 62 = some (.if_icmp .ge 10, 65, 72, 0, .null) := by decide +kernel
theorem x_33_62 : Tr sc d 33 (62, [l0, l1, l2, l3, l4], [.int i1, .int i0], h) Q = if i1 ≤ i0 then Tr sc d 33 (72, [l0, l1, l2, l3, l4], [], h) Q else Tr sc d 33 (65, [l0, l1, l2, l3, l4], [], h) Q := t_if k_33_62 rfl
theorem k_33_65 : lk 33 65 = some (.aload_n 0, 66, 0, 0, .null) := by decide +kernel
theorem x_33_65 : Tr sc d 33 (65, [some (.ref xk), l1, l2, l3, l4], [], h) Q = Tr sc d 33 (66, [some (.ref xk), l1, l2, l3, l4], [.ref xk], h) Q := t_aload_n k_33_65 rfl
theorem k_33_66 : lk 33 66 = some (.iload_n 3, 67, 3, 0, .null) := by decide +kernel
theorem x_33_66 : Tr sc d 33 (66, [l0, l1, l2, some (.int x), l4], [.ref k0], h) Q = Tr sc d 33 (67, [l0, l1, l2, some (.int x), l4], [.int x, .ref k0], h) Q := t_iload_n k_33_66 rfl
theorem k_33_67 : lk 33 67 = some (.iconst 1, 68, 0, 0, .int 1) := by decide +kernel
theorem x_33_67 : Tr sc d 33 (67, [l0, l1, l2, l3, l4], [.int i1, .ref k0], h) Q = Tr sc d 33 (68, [l0, l1, l2, l3, l4], [.int 1, .int i1, .ref k0], h) Q := t_go k_33_67 rfl
theorem k_33_68 : lk 33 68 = some (.iadd, 69, 0, 0, .null) := by decide +kernel
theorem x_33_68 : Tr sc d 33 (68, [l0, l1, l2, l3, l4], [.int i2, .int i1, .ref k0], h) Q = Tr sc d 33 (69, [l0, l1, l2, l3, l4], [.int (i1 + i2), .ref k0], h) Q := t_go k_33_68 rfl
theorem k_33_69 : lk 33 69 = some (.invokevirtual 55, 72, 34, 1, .null) := by decide +kernel
theorem x_33_69 : Tr sc (d + 1) 33 (69, [l0, l1, l2, l3, l4], [.int i1, .ref k0], h) Q = (okp h k0 3 = true ∧ Tr sc d 34 (ent0 34 [.ref k0, .int i1] h) (fun z => Tr sc (d + 1) 33 (72, [l0, l1, l2, l3, l4], z.1.toList ++ [], z.2) Q)) := t_cv (as := [.int i1]) (r := []) k_33_69 rfl rfl (Nat.le_of_ble_eq_true rfl) (Nat.le_of_ble_eq_true rfl) (Nat.le_of_ble_eq_true rfl)
theorem k_33_72 : lk 33 72 = some (.aload_n 0, 73, 0, 0, .null) := by decide +kernel
theorem x_33_72 : Tr sc d 33 (72, [some (.ref xk), l1, l2, l3, l4], [], h) Q = Tr sc d 33 (73, [some (.ref xk), l1, l2, l3, l4], [.ref xk], h) Q := t_aload_n k_33_72 rfl
theorem k_33_73 : lk 33 73 = some (.iload_n 3, 74, 3, 0, .null) := by decide +kernel
theorem x_33_73 : Tr sc d 33 (73, [l0, l1, l2, some (.int x), l4], [.ref k0], h) Q = Tr sc d 33 (74, [l0, l1, l2, some (.int x), l4], [.int x, .ref k0], h) Q := t_iload_n k_33_73 rfl
theorem k_33_74 : lk 33 74 = some (.aload_n 0, 75, 0, 0, .null) := by decide +kernel
theorem x_33_74 : Tr sc d 33 (74, [some (.ref xk), l1, l2, l3, l4], [.int i1, .ref k0], h) Q = Tr sc d 33 (75, [some (.ref xk), l1, l2, l3, l4], [.ref xk, .int i1, .ref k0], h) Q := t_aload_n k_33_74 rfl
theorem k_33_75 : lk 33 75 = some (.getfield 21, 78, 3, 3, .int 0) := by decide +kernel
theorem x_33_75 : Tr sc d 33 (75, [l0, l1, l2, l3, l4], [.ref k2, .int i1, .ref k0], h) Q = (okp h k2 3 = true ∧ Tr sc d 33 (78, [l0, l1, l2, l3, l4], [.int (hI h k2 3), .int i1, .ref k0], h) Q) := t_gd k_33_75 rfl
theorem k_33_78 : lk 33 78 = some (.isub, 79, 0, 0, .null) := by decide +kernel
theorem x_33_78 : Tr sc d 33 (78, [l0, l1, l2, l3, l4], [.int i2, .int i1, .ref k0], h) Q = Tr sc d 33 (79, [l0, l1, l2, l3, l4], [.int (i1 - i2), .ref k0], h) Q := t_go k_33_78 rfl
theorem k_33_79 : lk 33 79 = some (.invokevirtual 55, 82, 34, 1, .null) := by decide +kernel
theorem x_33_79 : Tr sc (d + 1) 33 (79, [l0, l1, l2, l3, l4], [.int i1, .ref k0], h) Q = (okp h k0 3 = true ∧ Tr sc d 34 (ent0 34 [.ref k0, .int i1] h) (fun z => Tr sc (d + 1) 33 (82, [l0, l1, l2, l3, l4], z.1.toList ++ [], z.2) Q)) := t_cv (as := [.int i1]) (r := []) k_33_79 rfl rfl (Nat.le_of_ble_eq_true rfl) (Nat.le_of_ble_eq_true rfl) (Nat.le_of_ble_eq_true rfl)
theorem k_33_82 : lk 33 82 = some (.aload_n 0, 83, 0, 0, .null) := by decide +kernel
theorem x_33_82 : Tr sc d 33 (82, [some (.ref xk), l1, l2, l3, l4], [], h) Q = Tr sc d 33 (83, [some (.ref xk), l1, l2, l3, l4], [.ref xk], h) Q := t_aload_n k_33_82 rfl
theorem k_33_83 : lk 33 83 = some (.iload_n 3, 84, 3, 0, .null) := by decide +kernel
theorem x_33_83 : Tr sc d 33 (83, [l0, l1, l2, some (.int x), l4], [.ref k0], h) Q = Tr sc d 33 (84, [l0, l1, l2, some (.int x), l4], [.int x, .ref k0], h) Q := t_iload_n k_33_83 rfl
theorem k_33_84 : lk 33 84 = some (.aload_n 0, 85, 0, 0, .null) := by decide +kernel
theorem x_33_84 : Tr sc d 33 (84, [some (.ref xk), l1, l2, l3, l4], [.int i1, .ref k0], h) Q = Tr sc d 33 (85, [some (.ref xk), l1, l2, l3, l4], [.ref xk, .int i1, .ref k0], h) Q := t_aload_n k_33_84 rfl
theorem k_33_85 : lk 33 85 = some (.getfield 21, 88, 3, 3, .int 0) := by decide +kernel
theorem x_33_85 : Tr sc d 33 (85, [l0, l1, l2, l3, l4], [.ref k2, .int i1, .ref k0], h) Q = (okp h k2 3 = true ∧ Tr sc d 33 (88, [l0, l1, l2, l3, l4], [.int (hI h k2 3), .int i1, .ref k0], h) Q) := t_gd k_33_85 rfl
theorem k_33_88 : lk 33 88 = some (.iadd, 89, 0, 0, .null) := by decide +kernel
theorem x_33_88 : Tr sc d 33 (88, [l0, l1, l2, l3, l4], [.int i2, .int i1, .ref k0], h) Q = Tr sc d 33 (89, [l0, l1, l2, l3, l4], [.int (i1 + i2), .ref k0], h) Q := t_go k_33_88 rfl
theorem k_33_89 : lk 33 89 = some (.invokevirtual 55, 92, 34, 1, .null) := by decide +kernel
theorem x_33_89 : Tr sc (d + 1) 33 (89, [l0, l1, l2, l3, l4], [.int i1, .ref k0], h) Q = (okp h k0 3 = true ∧ Tr sc d 34 (ent0 34 [.ref k0, .int i1] h) (fun z => Tr sc (d + 1) 33 (92, [l0, l1, l2, l3, l4], z.1.toList ++ [], z.2) Q)) := t_cv (as := [.int i1]) (r := []) k_33_89 rfl rfl (Nat.le_of_ble_eq_true rfl) (Nat.le_of_ble_eq_true rfl) (Nat.le_of_ble_eq_true rfl)
theorem k_33_92 : lk 33 92 = some (.iinc 2 1, 95, 2, 0, .int 1) := by decide +kernel
theorem x_33_92 : Tr sc d 33 (92, [l0, l1, some (.int x), l3, l4], [], h) Q = Tr sc d 33 (95, [l0, cl2 l1, some (.int (x + 1)), l3, l4], [], h) Q := t_inc k_33_92 rfl (Nat.le_of_ble_eq_true rfl)
theorem k_33_95 : lk 33 95 = some (.goto (-83), 98, 12, 0, .null) := by decide +kernel
theorem x_33_95 : Tr sc d 33 (95, [l0, l1, l2, l3, l4], [], h) Q = Tr sc d 33 (12, [l0, l1, l2, l3, l4], [], h) Q := t_go k_33_95 rfl
theorem k_33_98 : lk 33 98 = some (.return_, 99, 0, 0, .null) := by decide +kernel
theorem x_33_98 : Tr sc d 33 (98, [l0, l1, l2, l3, l4], [], h) Q = Q (none, h) := t_ret k_33_98 (by rw [r_33]; rfl)
theorem e_33 : Tr sc d 33 (ent0 33 [.ref k0, .int i1] h) Q = Tr sc d 33 (0, [some (.ref k0), some (.int i1), none, none, none], [], h) Q := by
  have e : mL 33 = 5 := by decide +kernel
  unfold ent0
  rw [e]
  rfl
theorem r_34 : mR 34 = none := by decide +kernel
theorem k_34_0 : lk 34 0 = some (.iload_n 1, 1, 1, 0, .null) := by decide +kernel
theorem x_34_0 : Tr sc d 34 (0, [l0, some (.int x)], [], h) Q = Tr sc d 34 (1, [l0, some (.int x)], [.int x], h) Q := t_iload_n k_34_0 rfl
theorem k_34_1 : lk 34 1 = some (.ifCond .lt 47, 4, 48, 0, .null) := by decide +kernel
theorem x_34_1 : Tr sc d 34 (1, [l0, l1], [.int i0], h) Q = if i0 < 0 then Tr sc d 34 (48, [l0, l1], [], h) Q else Tr sc d 34 (4, [l0, l1], [], h) Q := t_if k_34_1 rfl
theorem k_34_4 : lk 34 4 = some (.iload_n 1, 5, 1, 0, .null) := by decide +kernel
theorem x_34_4 : Tr sc d 34 (4, [l0, some (.int x)], [], h) Q = Tr sc d 34 (5, [l0, some (.int x)], [.int x], h) Q := t_iload_n k_34_4 rfl
theorem k_34_5 : lk 34 5 = some (.aload_n 0, 6, 0, 0, .null) := by decide +kernel
theorem x_34_5 : Tr sc d 34 (5, [some (.ref xk), l1], [.int i0], h) Q = Tr sc d 34 (6, [some (.ref xk), l1], [.ref xk, .int i0], h) Q := t_aload_n k_34_5 rfl
theorem k_34_6 : lk 34 6 = some (.getfield 24, 9, 3, 4, .int 0) := by decide +kernel
theorem x_34_6 : Tr sc d 34 (6, [l0, l1], [.ref k1, .int i0], h) Q = (okp h k1 3 = true ∧ Tr sc d 34 (9, [l0, l1], [.int (hI h k1 4), .int i0], h) Q) := t_gd k_34_6 rfl
theorem k_34_9 : lk 34 9 = some (.if_icmp .ge 39, 12, 48, 0, .null) := by decide +kernel
theorem x_34_9 : Tr sc d 34 (9, [l0, l1], [.int i1, .int i0], h) Q = if i1 ≤ i0 then Tr sc d 34 (48, [l0, l1], [], h) Q else Tr sc d 34 (12, [l0, l1], [], h) Q := t_if k_34_9 rfl
theorem k_34_12 : lk 34 12 = some (.aload_n 0, 13, 0, 0, .null) := by decide +kernel
theorem x_34_12 : Tr sc d 34 (12, [some (.ref xk), l1], [], h) Q = Tr sc d 34 (13, [some (.ref xk), l1], [.ref xk], h) Q := t_aload_n k_34_12 rfl
theorem k_34_13 : lk 34 13 = some (.getfield 9, 16, 3, 0, .null) := by decide +kernel
theorem x_34_13 : Tr sc d 34 (13, [l0, l1], [.ref k0], h) Q = (okp h k0 3 = true ∧ ∃ q, hR h k0 0 = some q ∧ Tr sc d 34 (16, [l0, l1], [.ref q], h) Q) := t_getr k_34_13
theorem k_34_16 : lk 34 16 = some (.iload_n 1, 17, 1, 0, .null) := by decide +kernel
theorem x_34_16 : Tr sc d 34 (16, [l0, some (.int x)], [.ref k0], h) Q = Tr sc d 34 (17, [l0, some (.int x)], [.int x, .ref k0], h) Q := t_iload_n k_34_16 rfl
theorem k_34_17 : lk 34 17 = some (.baload, 18, 0, 0, .null) := by decide +kernel
theorem x_34_17 : Tr sc d 34 (17, [l0, l1], [.int i1, .ref k0], h) Q = ((okp h k0 13 && inb i1 (LN k0)) = true ∧ Tr sc d 34 (18, [l0, l1], [.int (hI h k0 i1.toNatClampNeg)], h) Q) := t_gd k_34_17 rfl
theorem k_34_18 : lk 34 18 = some (.ifCond .ne 30, 21, 48, 0, .null) := by decide +kernel
theorem x_34_18 : Tr sc d 34 (18, [l0, l1], [.int i0], h) Q = if i0 = 0 then Tr sc d 34 (21, [l0, l1], [], h) Q else Tr sc d 34 (48, [l0, l1], [], h) Q := t_if k_34_18 rfl
theorem k_34_21 : lk 34 21 = some (.aload_n 0, 22, 0, 0, .null) := by decide +kernel
theorem x_34_21 : Tr sc d 34 (21, [some (.ref xk), l1], [], h) Q = Tr sc d 34 (22, [some (.ref xk), l1], [.ref xk], h) Q := t_aload_n k_34_21 rfl
theorem k_34_22 : lk 34 22 = some (.getfield 9, 25, 3, 0, .null) := by decide +kernel
theorem x_34_22 : Tr sc d 34 (22, [l0, l1], [.ref k0], h) Q = (okp h k0 3 = true ∧ ∃ q, hR h k0 0 = some q ∧ Tr sc d 34 (25, [l0, l1], [.ref q], h) Q) := t_getr k_34_22
theorem k_34_25 : lk 34 25 = some (.iload_n 1, 26, 1, 0, .null) := by decide +kernel
theorem x_34_25 : Tr sc d 34 (25, [l0, some (.int x)], [.ref k0], h) Q = Tr sc d 34 (26, [l0, some (.int x)], [.int x, .ref k0], h) Q := t_iload_n k_34_25 rfl
theorem k_34_26 : lk 34 26 = some (.iconst 1, 27, 0, 0, .int 1) := by decide +kernel
theorem x_34_26 : Tr sc d 34 (26, [l0, l1], [.int i1, .ref k0], h) Q = Tr sc d 34 (27, [l0, l1], [.int 1, .int i1, .ref k0], h) Q := t_go k_34_26 rfl
theorem k_34_27 : lk 34 27 = some (.bastore, 28, 0, 0, .null) := by decide +kernel
theorem x_34_27 : Tr sc d 34 (27, [l0, l1], [.int i2, .int i1, .ref k0], h) Q = ((okp h k0 13 && inb i1 (LN k0)) = true ∧ Tr sc d 34 (28, [l0, l1], [], (sI h k0 i1.toNatClampNeg (vp_nar .boolean i2))) Q) := t_gd k_34_27 rfl
theorem k_34_28 : lk 34 28 = some (.aload_n 0, 29, 0, 0, .null) := by decide +kernel
theorem x_34_28 : Tr sc d 34 (28, [some (.ref xk), l1], [], h) Q = Tr sc d 34 (29, [some (.ref xk), l1], [.ref xk], h) Q := t_aload_n k_34_28 rfl
theorem k_34_29 : lk 34 29 = some (.getfield 13, 32, 3, 1, .null) := by decide +kernel
theorem x_34_29 : Tr sc d 34 (29, [l0, l1], [.ref k0], h) Q = (okp h k0 3 = true ∧ ∃ q, hR h k0 1 = some q ∧ Tr sc d 34 (32, [l0, l1], [.ref q], h) Q) := t_getr k_34_29
theorem k_34_32 : lk 34 32 = some (.aload_n 0, 33, 0, 0, .null) := by decide +kernel
theorem x_34_32 : Tr sc d 34 (32, [some (.ref xk), l1], [.ref k0], h) Q = Tr sc d 34 (33, [some (.ref xk), l1], [.ref xk, .ref k0], h) Q := t_aload_n k_34_32 rfl
theorem k_34_33 : lk 34 33 = some (.getfield 17, 36, 3, 2, .int 0) := by decide +kernel
theorem x_34_33 : Tr sc d 34 (33, [l0, l1], [.ref k1, .ref k0], h) Q = (okp h k1 3 = true ∧ Tr sc d 34 (36, [l0, l1], [.int (hI h k1 2), .ref k0], h) Q) := t_gd k_34_33 rfl
theorem k_34_36 : lk 34 36 = some (.iload_n 1, 37, 1, 0, .null) := by decide +kernel
theorem x_34_36 : Tr sc d 34 (36, [l0, some (.int x)], [.int i1, .ref k0], h) Q = Tr sc d 34 (37, [l0, some (.int x)], [.int x, .int i1, .ref k0], h) Q := t_iload_n k_34_36 rfl
theorem k_34_37 : lk 34 37 = some (.iastore, 38, 0, 0, .null) := by decide +kernel
theorem x_34_37 : Tr sc d 34 (37, [l0, l1], [.int i2, .int i1, .ref k0], h) Q = ((okp h k0 11 && inb i1 (LN k0)) = true ∧ Tr sc d 34 (38, [l0, l1], [], (sI h k0 i1.toNatClampNeg i2)) Q) := t_gd k_34_37 rfl
theorem k_34_38 : lk 34 38 = some (.aload_n 0, 39, 0, 0, .null) := by decide +kernel
theorem x_34_38 : Tr sc d 34 (38, [some (.ref xk), l1], [], h) Q = Tr sc d 34 (39, [some (.ref xk), l1], [.ref xk], h) Q := t_aload_n k_34_38 rfl
theorem k_34_39 : lk 34 39 = some (.dup, 40, 0, 0, .null) := by decide +kernel
theorem x_34_39 : Tr sc d 34 (39, [l0, l1], [.ref k0], h) Q = Tr sc d 34 (40, [l0, l1], [.ref k0, .ref k0], h) Q := t_go k_34_39 rfl
theorem k_34_40 : lk 34 40 = some (.getfield 17, 43, 3, 2, .int 0) := by decide +kernel
theorem x_34_40 : Tr sc d 34 (40, [l0, l1], [.ref k1, .ref k0], h) Q = (okp h k1 3 = true ∧ Tr sc d 34 (43, [l0, l1], [.int (hI h k1 2), .ref k0], h) Q) := t_gd k_34_40 rfl
theorem k_34_43 : lk 34 43 = some (.iconst 1, 44, 0, 0, .int 1) := by decide +kernel
theorem x_34_43 : Tr sc d 34 (43, [l0, l1], [.int i1, .ref k0], h) Q = Tr sc d 34 (44, [l0, l1], [.int 1, .int i1, .ref k0], h) Q := t_go k_34_43 rfl
theorem k_34_44 : lk 34 44 = some (.iadd, 45, 0, 0, .null) := by decide +kernel
theorem x_34_44 : Tr sc d 34 (44, [l0, l1], [.int i2, .int i1, .ref k0], h) Q = Tr sc d 34 (45, [l0, l1], [.int (i1 + i2), .ref k0], h) Q := t_go k_34_44 rfl
theorem k_34_45 : lk 34 45 = some (.putfield 17, 48, 3, 2, .int 0) := by decide +kernel
theorem x_34_45 : Tr sc d 34 (45, [l0, l1], [.int i1, .ref k0], h) Q = (okp h k0 3 = true ∧ Tr sc d 34 (48, [l0, l1], [], (sI h k0 2 i1)) Q) := t_gd k_34_45 rfl
theorem k_34_48 : lk 34 48 = some (.return_, 49, 0, 0, .null) := by decide +kernel
theorem x_34_48 : Tr sc d 34 (48, [l0, l1], [], h) Q = Q (none, h) := t_ret k_34_48 (by rw [r_34]; rfl)
theorem e_34 : Tr sc d 34 (ent0 34 [.ref k0, .int i1] h) Q = Tr sc d 34 (0, [some (.ref k0), some (.int i1)], [], h) Q := by
  have e : mL 34 = 2 := by decide +kernel
  unfold ent0
  rw [e]
  rfl
theorem r_35 : mR 35 = none := by decide +kernel
theorem k_35_0 : lk 35 0 = some (.aload_n 0, 1, 0, 0, .null) := by decide +kernel
theorem x_35_0 : Tr sc d 35 (0, [some (.ref xk)], [], h) Q = Tr sc d 35 (1, [some (.ref xk)], [.ref xk], h) Q := t_aload_n k_35_0 rfl
theorem k_35_1 : lk 35 1 = some (.invokespecial 3, 4, 9000, 0, .null) := by decide +kernel
theorem x_35_1 : Tr sc d 35 (1, [l0], [.ref k0], h) Q = Tr sc d 35 (4, [l0], [], h) Q := t_go k_35_1 rfl
theorem k_35_4 : lk 35 4 = some (.aload_n 0, 5, 0, 0, .null) := by decide +kernel
theorem x_35_4 : Tr sc d 35 (4, [some (.ref xk)], [], h) Q = Tr sc d 35 (5, [some (.ref xk)], [.ref xk], h) Q := t_aload_n k_35_4 rfl
theorem k_35_5 : lk 35 5 = some (.new 9, 8, 5, 173, .null) := by decide +kernel
theorem x_35_5 : Tr sc d 35 (5, [l0], [.ref k0], h) Q = ((hN h < 1000 ∧ TG (hN h) = 5 ∧ 5 < 11) ∧ Tr sc d 35 (8, [l0], [.ref (hN h), .ref k0], nH h) Q) := t_gd k_35_5 rfl
theorem k_35_8 : lk 35 8 = some (.dup, 9, 0, 0, .null) := by decide +kernel
theorem x_35_8 : Tr sc d 35 (8, [l0], [.ref k1, .ref k0], h) Q = Tr sc d 35 (9, [l0], [.ref k1, .ref k1, .ref k0], h) Q := t_go k_35_8 rfl
theorem k_35_9 : lk 35 9 = some (.iconst 0, 10, 0, 0, .int 0) := by decide +kernel
theorem x_35_9 : Tr sc d 35 (9, [l0], [.ref k2, .ref k1, .ref k0], h) Q = Tr sc d 35 (10, [l0], [.int 0, .ref k2, .ref k1, .ref k0], h) Q := t_go k_35_9 rfl
theorem k_35_10 : lk 35 10 = some (.invokespecial 11, 13, 40, 1, .null) := by decide +kernel
theorem x_35_10 : Tr sc (d + 1) 35 (10, [l0], [.int i3, .ref k2, .ref k1, .ref k0], h) Q = (okp h k2 5 = true ∧ Tr sc d 40 (ent0 40 [.ref k2, .int i3] h) (fun z => Tr sc (d + 1) 35 (13, [l0], z.1.toList ++ [.ref k1, .ref k0], z.2) Q)) := t_cp (as := [.int i3]) (r := [.ref k1, .ref k0]) k_35_10 (by decide) rfl rfl (Nat.le_of_ble_eq_true rfl) (Nat.le_of_ble_eq_true rfl) (Nat.le_of_ble_eq_true rfl)
theorem k_35_13 : lk 35 13 = some (.putfield 14, 16, 4, 0, .null) := by decide +kernel
theorem x_35_13 : Tr sc d 35 (13, [l0], [.ref k1, .ref k0], h) Q = (okp h k0 4 = true ∧ Tr sc d 35 (16, [l0], [], (sR h k0 0 (some k1))) Q) := t_gd k_35_13 rfl
theorem k_35_16 : lk 35 16 = some (.aload_n 0, 17, 0, 0, .null) := by decide +kernel
theorem x_35_16 : Tr sc d 35 (16, [some (.ref xk)], [], h) Q = Tr sc d 35 (17, [some (.ref xk)], [.ref xk], h) Q := t_aload_n k_35_16 rfl
theorem k_35_17 : lk 35 17 = some (.iconst 0, 18, 0, 0, .int 0) := by decide +kernel
theorem x_35_17 : Tr sc d 35 (17, [l0], [.ref k0], h) Q = Tr sc d 35 (18, [l0], [.int 0, .ref k0], h) Q := t_go k_35_17 rfl
theorem k_35_18 : lk 35 18 = some (.putfield 20, 21, 4, 1, .int 0) := by decide +kernel
theorem x_35_18 : Tr sc d 35 (18, [l0], [.int i1, .ref k0], h) Q = (okp h k0 4 = true ∧ Tr sc d 35 (21, [l0], [], (sI h k0 1 i1)) Q) := t_gd k_35_18 rfl
theorem k_35_21 : lk 35 21 = some (.aload_n 0, 22, 0, 0, .null) := by decide +kernel
theorem x_35_21 : Tr sc d 35 (21, [some (.ref xk)], [], h) Q = Tr sc d 35 (22, [some (.ref xk)], [.ref xk], h) Q := t_aload_n k_35_21 rfl
theorem k_35_22 : lk 35 22 = some (.iconst 0, 23, 0, 0, .int 0) := by decide +kernel
theorem x_35_22 : Tr sc d 35 (22, [l0], [.ref k0], h) Q = Tr sc d 35 (23, [l0], [.int 0, .ref k0], h) Q := t_go k_35_22 rfl
theorem k_35_23 : lk 35 23 = some (.putfield 24, 26, 4, 2, .int 0) := by decide +kernel
theorem x_35_23 : Tr sc d 35 (23, [l0], [.int i1, .ref k0], h) Q = (okp h k0 4 = true ∧ Tr sc d 35 (26, [l0], [], (sI h k0 2 i1)) Q) := t_gd k_35_23 rfl
theorem k_35_26 : lk 35 26 = some (.return_, 27, 0, 0, .null) := by decide +kernel
theorem x_35_26 : Tr sc d 35 (26, [l0], [], h) Q = Q (none, h) := t_ret k_35_26 (by rw [r_35]; rfl)
theorem e_35 : Tr sc d 35 (ent0 35 [.ref k0] h) Q = Tr sc d 35 (0, [some (.ref k0)], [], h) Q := by
  have e : mL 35 = 1 := by decide +kernel
  unfold ent0
  rw [e]
  rfl
theorem r_36 : mR 36 = some .int := by decide +kernel
theorem k_36_0 : lk 36 0 = some (.aload_n 0, 1, 0, 0, .null) := by decide +kernel
theorem x_36_0 : Tr sc d 36 (0, [some (.ref xk), l1, l2, l3], [], h) Q = Tr sc d 36 (1, [some (.ref xk), l1, l2, l3], [.ref xk], h) Q := t_aload_n k_36_0 rfl
theorem k_36_1 : lk 36 1 = some (.aload_n 1, 2, 1, 0, .null) := by decide +kernel
theorem x_36_1 : Tr sc d 36 (1, [l0, some (.ref xk), l2, l3], [.ref k0], h) Q = Tr sc d 36 (2, [l0, some (.ref xk), l2, l3], [.ref xk, .ref k0], h) Q := t_aload_n k_36_1 rfl
theorem k_36_2 : lk 36 2 = some (.putfield 14, 5, 4, 0, .null) := by decide +kernel
theorem x_36_2 : Tr sc d 36 (2, [l0, l1, l2, l3], [.ref k1, .ref k0], h) Q = (okp h k0 4 = true ∧ Tr sc d 36 (5, [l0, l1, l2, l3], [], (sR h k0 0 (some k1))) Q) := t_gd k_36_2 rfl
theorem k_36_5 : lk 36 5 = some (.aload_n 0, 6, 0, 0, .null) := by decide +kernel
theorem x_36_5 : Tr sc d 36 (5, [some (.ref xk), l1, l2, l3], [], h) Q = Tr sc d 36 (6, [some (.ref xk), l1, l2, l3], [.ref xk], h) Q := t_aload_n k_36_5 rfl
theorem k_36_6 : lk 36 6 = some (.iconst 0, 7, 0, 0, .int 0) := by decide +kernel
theorem x_36_6 : Tr sc d 36 (6, [l0, l1, l2, l3], [.ref k0], h) Q = Tr sc d 36 (7, [l0, l1, l2, l3], [.int 0, .ref k0], h) Q := t_go k_36_6 rfl
theorem k_36_7 : lk 36 7 = some (.putfield 20, 10, 4, 1, .int 0) := by decide +kernel
theorem x_36_7 : Tr sc d 36 (7, [l0, l1, l2, l3], [.int i1, .ref k0], h) Q = (okp h k0 4 = true ∧ Tr sc d 36 (10, [l0, l1, l2, l3], [], (sI h k0 1 i1)) Q) := t_gd k_36_7 rfl
theorem k_36_10 : lk 36 10 = some (.aload_n 0, 11, 0, 0, .null) := by decide +kernel
theorem x_36_10 : Tr sc d 36 (10, [some (.ref xk), l1, l2, l3], [], h) Q = Tr sc d 36 (11, [some (.ref xk), l1, l2, l3], [.ref xk], h) Q := t_aload_n k_36_10 rfl
theorem k_36_11 : lk 36 11 = some (.bipush 50, 13, 0, 0, .int 50) := by decide +kernel
theorem x_36_11 : Tr sc d 36 (11, [l0, l1, l2, l3], [.ref k0], h) Q = Tr sc d 36 (13, [l0, l1, l2, l3], [.int 50, .ref k0], h) Q := t_go k_36_11 rfl
theorem k_36_13 : lk 36 13 = some (.bipush 52, 15, 0, 0, .int 52) := by decide +kernel
theorem x_36_13 : Tr sc d 36 (13, [l0, l1, l2, l3], [.int i1, .ref k0], h) Q = Tr sc d 36 (15, [l0, l1, l2, l3], [.int 52, .int i1, .ref k0], h) Q := t_go k_36_13 rfl
theorem k_36_15 : lk 36 15 = some (.invokevirtual 27, 18, 39, 2, .null) := by decide +kernel
theorem x_36_15 : Tr sc (d + 1) 36 (15, [l0, l1, l2, l3], [.int i2, .int i1, .ref k0], h) Q = (okp h k0 4 = true ∧ Tr sc d 39 (ent0 39 [.ref k0, .int i1, .int i2] h) (fun z => Tr sc (d + 1) 36 (18, [l0, l1, l2, l3], z.1.toList ++ [], z.2) Q)) := t_cv (as := [.int i1, .int i2]) (r := []) k_36_15 rfl rfl (Nat.le_of_ble_eq_true rfl) (Nat.le_of_ble_eq_true rfl) (Nat.le_of_ble_eq_true rfl)
theorem k_36_18 : lk 36 18 = some (.ifCond .ne 8, 21, 26, 0, .null) := by decide +kernel
theorem x_36_18 : Tr sc d 36 (18, [l0, l1, l2, l3], [.int i0], h) Q = if i0 = 0 then Tr sc d 36 (21, [l0, l1, l2, l3], [], h) Q else Tr sc d 36 (26, [l0, l1, l2, l3], [], h) Q := t_if k_36_18 rfl
theorem k_36_21 : lk 36 21 = some (.aload_n 0, 22, 0, 0, .null) := by decide +kernel
theorem x_36_21 : Tr sc d 36 (21, [some (.ref xk), l1, l2, l3], [], h) Q = Tr sc d 36 (22, [some (.ref xk), l1, l2, l3], [.ref xk], h) Q := t_aload_n k_36_21 rfl
theorem k_36_22 : lk 36 22 = some (.getfield 20, 25, 4, 1, .int 0) := by decide +kernel
theorem x_36_22 : Tr sc d 36 (22, [l0, l1, l2, l3], [.ref k0], h) Q = (okp h k0 4 = true ∧ Tr sc d 36 (25, [l0, l1, l2, l3], [.int (hI h k0 1)], h) Q) := t_gd k_36_22 rfl
theorem k_36_25 : lk 36 25 = some (.ireturn, 26, 0, 0, .null) := by decide +kernel
theorem x_36_25 : Tr sc d 36 (25, [l0, l1, l2, l3], [.int i0], h) Q = Q (some (.int i0), h) := t_ret k_36_25 (by rw [r_36]; rfl)
theorem k_36_26 : lk 36 26 = some (.aload_n 2, 27, 2, 0, .null) := by decide +kernel
theorem x_36_26 : Tr sc d 36 (26, [l0, l1, some (.ref xk), l3], [], h) Q = Tr sc d 36 (27, [l0, l1, some (.ref xk), l3], [.ref xk], h) Q := t_aload_n k_36_26 rfl
theorem k_36_27 : lk 36 27 = some (.aload_n 0, 28, 0, 0, .null) := by decide +kernel
theorem x_36_27 : Tr sc d 36 (27, [some (.ref xk), l1, l2, l3], [.ref k0], h) Q = Tr sc d 36 (28, [some (.ref xk), l1, l2, l3], [.ref xk, .ref k0], h) Q := t_aload_n k_36_27 rfl
theorem k_36_28 : lk 36 28 = some (.getfield 14, 31, 4, 0, .null) := by decide +kernel
theorem x_36_28 : Tr sc d 36 (28, [l0, l1, l2, l3], [.ref k1, .ref k0], h) Q = (okp h k1 4 = true ∧ ∃ q, hR h k1 0 = some q ∧ Tr sc d 36 (31, [l0, l1, l2, l3], [.ref q, .ref k0], h) Q) := t_getr k_36_28
theorem k_36_31 : lk 36 31 = some (.getfield 31, 34, 5, 0, .null) := by decide +kernel
theorem x_36_31 : Tr sc d 36 (31, [l0, l1, l2, l3], [.ref k1, .ref k0], h) Q = (okp h k1 5 = true ∧ ∃ q, hR h k1 0 = some q ∧ Tr sc d 36 (34, [l0, l1, l2, l3], [.ref q, .ref k0], h) Q) := t_getr k_36_31
theorem k_36_34 : lk 36 34 = some (.iconst 0, 35, 0, 0, .int 0) := by decide +kernel
theorem x_36_34 : Tr sc d 36 (34, [l0, l1, l2, l3], [.ref k1, .ref k0], h) Q = Tr sc d 36 (35, [l0, l1, l2, l3], [.int 0, .ref k1, .ref k0], h) Q := t_go k_36_34 rfl
theorem k_36_35 : lk 36 35 = some (.iaload, 36, 0, 0, .null) := by decide +kernel
theorem x_36_35 : Tr sc d 36 (35, [l0, l1, l2, l3], [.int i2, .ref k1, .ref k0], h) Q = (iOk sc h k1 i2 ∧ Tr sc d 36 (36, [l0, l1, l2, l3], [.int (iRd sc h k1 i2), .ref k0], h) Q) := t_iald k_36_35
theorem k_36_36 : lk 36 36 = some (.bipush 48, 38, 0, 0, .int 48) := by decide +kernel
theorem x_36_36 : Tr sc d 36 (36, [l0, l1, l2, l3], [.int i1, .ref k0], h) Q = Tr sc d 36 (38, [l0, l1, l2, l3], [.int 48, .int i1, .ref k0], h) Q := t_go k_36_36 rfl
theorem k_36_38 : lk 36 38 = some (.isub, 39, 0, 0, .null) := by decide +kernel
theorem x_36_38 : Tr sc d 36 (38, [l0, l1, l2, l3], [.int i2, .int i1, .ref k0], h) Q = Tr sc d 36 (39, [l0, l1, l2, l3], [.int (i1 - i2), .ref k0], h) Q := t_go k_36_38 rfl
theorem k_36_39 : lk 36 39 = some (.invokevirtual 35, 42, 51, 1, .null) := by decide +kernel
theorem x_36_39 : Tr sc (d + 1) 36 (39, [l0, l1, l2, l3], [.int i1, .ref k0], h) Q = (okp h k0 6 = true ∧ Tr sc d 51 (ent0 51 [.ref k0, .int i1] h) (fun z => Tr sc (d + 1) 36 (42, [l0, l1, l2, l3], z.1.toList ++ [], z.2) Q)) := t_cv (as := [.int i1]) (r := []) k_36_39 rfl rfl (Nat.le_of_ble_eq_true rfl) (Nat.le_of_ble_eq_true rfl) (Nat.le_of_ble_eq_true rfl)
theorem k_36_42 : lk 36 42 = some (.iconst 0, 43, 0, 0, .int 0) := by decide +kernel
theorem x_36_42 : Tr sc d 36 (42, [l0, l1, l2, l3], [], h) Q = Tr sc d 36 (43, [l0, l1, l2, l3], [.int 0], h) Q := t_go k_36_42 rfl
theorem k_36_43 : lk 36 43 = some (.istore_n 3, 44, 3, 0, .null) := by decide +kernel
theorem x_36_43 : Tr sc d 36 (43, [l0, l1, l2, l3], [.int i0], h) Q = Tr sc d 36 (44, [l0, l1, cl2 l2, some (.int i0)], [], h) Q := t_istore_n k_36_43 (Nat.le_of_ble_eq_true rfl)
theorem k_36_44 : lk 36 44 = some (.iload_n 3, 45, 3, 0, .null) := by decide +kernel
theorem x_36_44 : Tr sc d 36 (44, [l0, l1, l2, some (.int x)], [], h) Q = Tr sc d 36 (45, [l0, l1, l2, some (.int x)], [.int x], h) Q := t_iload_n k_36_44 rfl
theorem k_36_45 : lk 36 45 = some (.bipush 6, 47, 0, 0, .int 6) := by decide +kernel
theorem x_36_45 : Tr sc d 36 (45, [l0, l1, l2, l3], [.int i0], h) Q = Tr sc d 36 (47, [l0, l1, l2, l3], [.int 6, .int i0], h) Q := t_go k_36_45 rfl
theorem k_36_47 : lk 36 47 = some (.if_icmp .gt 49, 50, 96, 0, .null) := by decide +kernel
theorem x_36_47 : Tr sc d 36 (47, [l0, l1, l2, l3], [.int i1, .int i0], h) Q = if i1 < i0 then Tr sc d 36 (96, [l0, l1, l2, l3], [], h) Q else Tr sc d 36 (50, [l0, l1, l2, l3], [], h) Q := t_if k_36_47 rfl
theorem k_36_50 : lk 36 50 = some (.iload_n 3, 51, 3, 0, .null) := by decide +kernel
theorem x_36_50 : Tr sc d 36 (50, [l0, l1, l2, some (.int x)], [], h) Q = Tr sc d 36 (51, [l0, l1, l2, some (.int x)], [.int x], h) Q := t_iload_n k_36_50 rfl
theorem k_36_51 : lk 36 51 = some (.ifCond .le 20, 54, 71, 0, .null) := by decide +kernel
theorem x_36_51 : Tr sc d 36 (51, [l0, l1, l2, l3], [.int i0], h) Q = if i0 ≤ 0 then Tr sc d 36 (71, [l0, l1, l2, l3], [], h) Q else Tr sc d 36 (54, [l0, l1, l2, l3], [], h) Q := t_if k_36_51 rfl
theorem k_36_54 : lk 36 54 = some (.aload_n 0, 55, 0, 0, .null) := by decide +kernel
theorem x_36_54 : Tr sc d 36 (54, [some (.ref xk), l1, l2, l3], [], h) Q = Tr sc d 36 (55, [some (.ref xk), l1, l2, l3], [.ref xk], h) Q := t_aload_n k_36_54 rfl
theorem k_36_55 : lk 36 55 = some (.getfield 20, 58, 4, 1, .int 0) := by decide +kernel
theorem x_36_55 : Tr sc d 36 (55, [l0, l1, l2, l3], [.ref k0], h) Q = (okp h k0 4 = true ∧ Tr sc d 36 (58, [l0, l1, l2, l3], [.int (hI h k0 1)], h) Q) := t_gd k_36_55 rfl
theorem k_36_58 : lk 36 58 = some (.aload_n 0, 59, 0, 0, .null) := by decide +kernel
theorem x_36_58 : Tr sc d 36 (58, [some (.ref xk), l1, l2, l3], [.int i0], h) Q = Tr sc d 36 (59, [some (.ref xk), l1, l2, l3], [.ref xk, .int i0], h) Q := t_aload_n k_36_58 rfl
theorem k_36_59 : lk 36 59 = some (.getfield 14, 62, 4, 0, .null) := by decide +kernel
theorem x_36_59 : Tr sc d 36 (59, [l0, l1, l2, l3], [.ref k1, .int i0], h) Q = (okp h k1 4 = true ∧ ∃ q, hR h k1 0 = some q ∧ Tr sc d 36 (62, [l0, l1, l2, l3], [.ref q, .int i0], h) Q) := t_getr k_36_59
theorem k_36_62 : lk 36 62 = some (.getfield 40, 65, 5, 1, .int 0) := by decide +kernel
theorem x_36_62 : Tr sc d 36 (62, [l0, l1, l2, l3], [.ref k1, .int i0], h) Q = (okp h k1 5 = true ∧ Tr sc d 36 (65, [l0, l1, l2, l3], [.int (hI h k1 1), .int i0], h) Q) := t_gd k_36_62 rfl
theorem k_36_65 : lk 36 65 = some (.if_icmp .lt 6, 68, 71, 0, .null) := by decide +kernel
theorem x_36_65 : Tr sc d 36 (65, [l0, l1, l2, l3], [.int i1, .int i0], h) Q = if i0 < i1 then Tr sc d 36 (71, [l0, l1, l2, l3], [], h) Q else Tr sc d 36 (68, [l0, l1, l2, l3], [], h) Q := t_if k_36_65 rfl
theorem k_36_68 : lk 36 68 = some (.bipush (-9), 70, 0, 0, .int (-9)) := by decide +kernel
theorem x_36_68 : Tr sc d 36 (68, [l0, l1, l2, l3], [], h) Q = Tr sc d 36 (70, [l0, l1, l2, l3], [.int (-9)], h) Q := t_go k_36_68 rfl
theorem k_36_70 : lk 36 70 = some (.ireturn, 71, 0, 0, .null) := by decide +kernel
theorem x_36_70 : Tr sc d 36 (70, [l0, l1, l2, l3], [.int i0], h) Q = Q (some (.int i0), h) := t_ret k_36_70 (by rw [r_36]; rfl)
theorem k_36_71 : lk 36 71 = some (.iload_n 3, 72, 3, 0, .null) := by decide +kernel
theorem x_36_71 : Tr sc d 36 (71, [l0, l1, l2, some (.int x)], [], h) Q = Tr sc d 36 (72, [l0, l1, l2, some (.int x)], [.int x], h) Q := t_iload_n k_36_71 rfl
theorem k_36_72 : lk 36 72 = some (.bipush 6, 74, 0, 0, .int 6) := by decide +kernel
theorem x_36_72 : Tr sc d 36 (72, [l0, l1, l2, l3], [.int i0], h) Q = Tr sc d 36 (74, [l0, l1, l2, l3], [.int 6, .int i0], h) Q := t_go k_36_72 rfl
theorem k_36_74 : lk 36 74 = some (.if_icmp .eq 11, 77, 85, 0, .null) := by decide +kernel
theorem x_36_74 : Tr sc d 36 (74, [l0, l1, l2, l3], [.int i1, .int i0], h) Q = if i0 = i1 then Tr sc d 36 (85, [l0, l1, l2, l3], [], h) Q else Tr sc d 36 (77, [l0, l1, l2, l3], [], h) Q := t_if k_36_74 rfl
theorem k_36_77 : lk 36 77 = some (.aload_n 0, 78, 0, 0, .null) := by decide +kernel
theorem x_36_77 : Tr sc d 36 (77, [some (.ref xk), l1, l2, l3], [], h) Q = Tr sc d 36 (78, [some (.ref xk), l1, l2, l3], [.ref xk], h) Q := t_aload_n k_36_77 rfl
theorem k_36_78 : lk 36 78 = some (.aload_n 2, 79, 2, 0, .null) := by decide +kernel
theorem x_36_78 : Tr sc d 36 (78, [l0, l1, some (.ref xk), l3], [.ref k0], h) Q = Tr sc d 36 (79, [l0, l1, some (.ref xk), l3], [.ref xk, .ref k0], h) Q := t_aload_n k_36_78 rfl
theorem k_36_79 : lk 36 79 = some (.invokevirtual 43, 82, 37, 1, .null) := by decide +kernel
theorem x_36_79 : Tr sc (d + 1) 36 (79, [l0, l1, l2, l3], [.ref k1, .ref k0], h) Q = (okp h k0 4 = true ∧ Tr sc d 37 (ent0 37 [.ref k0, .ref k1] h) (fun z => Tr sc (d + 1) 36 (82, [l0, l1, l2, l3], z.1.toList ++ [], z.2) Q)) := t_cv (as := [.ref k1]) (r := []) k_36_79 rfl rfl (Nat.le_of_ble_eq_true rfl) (Nat.le_of_ble_eq_true rfl) (Nat.le_of_ble_eq_true rfl)
theorem k_36_82 : lk 36 82 = some (.ifCond .ne 8, 85, 90, 0, .null) := by decide +kernel
theorem x_36_82 : Tr sc d 36 (82, [l0, l1, l2, l3], [.int i0], h) Q = if i0 = 0 then Tr sc d 36 (85, [l0, l1, l2, l3], [], h) Q else Tr sc d 36 (90, [l0, l1, l2, l3], [], h) Q := t_if k_36_82 rfl
theorem k_36_85 : lk 36 85 = some (.aload_n 0, 86, 0, 0, .null) := by decide +kernel
theorem x_36_85 : Tr sc d 36 (85, [some (.ref xk), l1, l2, l3], [], h) Q = Tr sc d 36 (86, [some (.ref xk), l1, l2, l3], [.ref xk], h) Q := t_aload_n k_36_85 rfl
theorem k_36_86 : lk 36 86 = some (.getfield 20, 89, 4, 1, .int 0) := by decide +kernel
theorem x_36_86 : Tr sc d 36 (86, [l0, l1, l2, l3], [.ref k0], h) Q = (okp h k0 4 = true ∧ Tr sc d 36 (89, [l0, l1, l2, l3], [.int (hI h k0 1)], h) Q) := t_gd k_36_86 rfl
theorem k_36_89 : lk 36 89 = some (.ireturn, 90, 0, 0, .null) := by decide +kernel
theorem x_36_89 : Tr sc d 36 (89, [l0, l1, l2, l3], [.int i0], h) Q = Q (some (.int i0), h) := t_ret k_36_89 (by rw [r_36]; rfl)
theorem k_36_90 : lk 36 90 = some (.iinc 3 1, 93, 3, 0, .int 1) := by decide +kernel
theorem x_36_90 : Tr sc d 36 (90, [l0, l1, l2, some (.int x)], [], h) Q = Tr sc d 36 (93, [l0, l1, cl2 l2, some (.int (x + 1))], [], h) Q := t_inc k_36_90 rfl (Nat.le_of_ble_eq_true rfl)
theorem k_36_93 : lk 36 93 = some (.goto (-49), 96, 44, 0, .null) := by decide +kernel
theorem x_36_93 : Tr sc d 36 (93, [l0, l1, l2, l3], [], h) Q = Tr sc d 36 (44, [l0, l1, l2, l3], [], h) Q := t_go k_36_93 rfl
theorem k_36_96 : lk 36 96 = some (.aload_n 0, 97, 0, 0, .null) := by decide +kernel
theorem x_36_96 : Tr sc d 36 (96, [some (.ref xk), l1, l2, l3], [], h) Q = Tr sc d 36 (97, [some (.ref xk), l1, l2, l3], [.ref xk], h) Q := t_aload_n k_36_96 rfl
theorem k_36_97 : lk 36 97 = some (.getfield 20, 100, 4, 1, .int 0) := by decide +kernel
theorem x_36_97 : Tr sc d 36 (97, [l0, l1, l2, l3], [.ref k0], h) Q = (okp h k0 4 = true ∧ Tr sc d 36 (100, [l0, l1, l2, l3], [.int (hI h k0 1)], h) Q) := t_gd k_36_97 rfl
theorem k_36_100 : lk 36 100 = some (.ireturn, 101, 0, 0, .null) := by decide +kernel
theorem x_36_100 : Tr sc d 36 (100, [l0, l1, l2, l3], [.int i0], h) Q = Q (some (.int i0), h) := t_ret k_36_100 (by rw [r_36]; rfl)
theorem e_36 : Tr sc d 36 (ent0 36 [.ref k0, .ref k1, .ref k2] h) Q = Tr sc d 36 (0, [some (.ref k0), some (.ref k1), some (.ref k2), none], [], h) Q := by
  have e : mL 36 = 4 := by decide +kernel
  unfold ent0
  rw [e]
  rfl
theorem r_37 : mR 37 = some .boolean := by decide +kernel
theorem k_37_0 : lk 37 0 = some (.aload_n 0, 1, 0, 0, .null) := by decide +kernel
theorem x_37_0 : Tr sc d 37 (0, [some (.ref xk), l1, l2, l3], [], h) Q = Tr sc d 37 (1, [some (.ref xk), l1, l2, l3], [.ref xk], h) Q := t_aload_n k_37_0 rfl
theorem k_37_1 : lk 37 1 = some (.bipush 47, 3, 0, 0, .int 47) := by decide +kernel
theorem x_37_1 : Tr sc d 37 (1, [l0, l1, l2, l3], [.ref k0], h) Q = Tr sc d 37 (3, [l0, l1, l2, l3], [.int 47, .ref k0], h) Q := t_go k_37_1 rfl
theorem k_37_3 : lk 37 3 = some (.bipush 47, 5, 0, 0, .int 47) := by decide +kernel
theorem x_37_3 : Tr sc d 37 (3, [l0, l1, l2, l3], [.int i1, .ref k0], h) Q = Tr sc d 37 (5, [l0, l1, l2, l3], [.int 47, .int i1, .ref k0], h) Q := t_go k_37_3 rfl
theorem k_37_5 : lk 37 5 = some (.invokevirtual 27, 8, 39, 2, .null) := by decide +kernel
theorem x_37_5 : Tr sc (d + 1) 37 (5, [l0, l1, l2, l3], [.int i2, .int i1, .ref k0], h) Q = (okp h k0 4 = true ∧ Tr sc d 39 (ent0 39 [.ref k0, .int i1, .int i2] h) (fun z => Tr sc (d + 1) 37 (8, [l0, l1, l2, l3], z.1.toList ++ [], z.2) Q)) := t_cv (as := [.int i1, .int i2]) (r := []) k_37_5 rfl rfl (Nat.le_of_ble_eq_true rfl) (Nat.le_of_ble_eq_true rfl) (Nat.le_of_ble_eq_true rfl)
theorem k_37_8 : lk 37 8 = some (.ifCond .eq 14, 11, 22, 0, .null) := by decide +kernel
theorem x_37_8 : Tr sc d 37 (8, [l0, l1, l2, l3], [.int i0], h) Q = if i0 = 0 then Tr sc d 37 (22, [l0, l1, l2, l3], [], h) Q else Tr sc d 37 (11, [l0, l1, l2, l3], [], h) Q := t_if k_37_8 rfl
theorem k_37_11 : lk 37 11 = some (.aload_n 0, 12, 0, 0, .null) := by decide +kernel
theorem x_37_11 : Tr sc d 37 (11, [some (.ref xk), l1, l2, l3], [], h) Q = Tr sc d 37 (12, [some (.ref xk), l1, l2, l3], [.ref xk], h) Q := t_aload_n k_37_11 rfl
theorem k_37_12 : lk 37 12 = some (.bipush 97, 14, 0, 0, .int 97) := by decide +kernel
theorem x_37_12 : Tr sc d 37 (12, [l0, l1, l2, l3], [.ref k0], h) Q = Tr sc d 37 (14, [l0, l1, l2, l3], [.int 97, .ref k0], h) Q := t_go k_37_12 rfl
theorem k_37_14 : lk 37 14 = some (.bipush 104, 16, 0, 0, .int 104) := by decide +kernel
theorem x_37_14 : Tr sc d 37 (14, [l0, l1, l2, l3], [.int i1, .ref k0], h) Q = Tr sc d 37 (16, [l0, l1, l2, l3], [.int 104, .int i1, .ref k0], h) Q := t_go k_37_14 rfl
theorem k_37_16 : lk 37 16 = some (.invokevirtual 27, 19, 39, 2, .null) := by decide +kernel
theorem x_37_16 : Tr sc (d + 1) 37 (16, [l0, l1, l2, l3], [.int i2, .int i1, .ref k0], h) Q = (okp h k0 4 = true ∧ Tr sc d 39 (ent0 39 [.ref k0, .int i1, .int i2] h) (fun z => Tr sc (d + 1) 37 (19, [l0, l1, l2, l3], z.1.toList ++ [], z.2) Q)) := t_cv (as := [.int i1, .int i2]) (r := []) k_37_16 rfl rfl (Nat.le_of_ble_eq_true rfl) (Nat.le_of_ble_eq_true rfl) (Nat.le_of_ble_eq_true rfl)
theorem k_37_19 : lk 37 19 = some (.ifCond .ne 5, 22, 24, 0, .null) := by decide +kernel
theorem x_37_19 : Tr sc d 37 (19, [l0, l1, l2, l3], [.int i0], h) Q = if i0 = 0 then Tr sc d 37 (22, [l0, l1, l2, l3], [], h) Q else Tr sc d 37 (24, [l0, l1, l2, l3], [], h) Q := t_if k_37_19 rfl
theorem k_37_22 : lk 37 22 = some (.iconst 0, 23, 0, 0, .int 0) := by decide +kernel
theorem x_37_22 : Tr sc d 37 (22, [l0, l1, l2, l3], [], h) Q = Tr sc d 37 (23, [l0, l1, l2, l3], [.int 0], h) Q := t_go k_37_22 rfl
theorem k_37_23 : lk 37 23 = some (.ireturn, 24, 0, 0, .null) := by decide +kernel
theorem x_37_23 : Tr sc d 37 (23, [l0, l1, l2, l3], [.int i0], h) Q = (vp_nar .boolean i0 = i0 ∧ Q (some (.int i0), h)) := t_zret k_37_23 r_37
theorem k_37_24 : lk 37 24 = some (.aload_n 0, 25, 0, 0, .null) := by decide +kernel
theorem x_37_24 : Tr sc d 37 (24, [some (.ref xk), l1, l2, l3], [], h) Q = Tr sc d 37 (25, [some (.ref xk), l1, l2, l3], [.ref xk], h) Q := t_aload_n k_37_24 rfl
theorem k_37_25 : lk 37 25 = some (.getfield 14, 28, 4, 0, .null) := by decide +kernel
theorem x_37_25 : Tr sc d 37 (25, [l0, l1, l2, l3], [.ref k0], h) Q = (okp h k0 4 = true ∧ ∃ q, hR h k0 0 = some q ∧ Tr sc d 37 (28, [l0, l1, l2, l3], [.ref q], h) Q) := t_getr k_37_25
theorem k_37_28 : lk 37 28 = some (.getfield 31, 31, 5, 0, .null) := by decide +kernel
theorem x_37_28 : Tr sc d 37 (28, [l0, l1, l2, l3], [.ref k0], h) Q = (okp h k0 5 = true ∧ ∃ q, hR h k0 0 = some q ∧ Tr sc d 37 (31, [l0, l1, l2, l3], [.ref q], h) Q) := t_getr k_37_28
theorem k_37_31 : lk 37 31 = some (.aload_n 0, 32, 0, 0, .null) := by decide +kernel
theorem x_37_31 : Tr sc d 37 (31, [some (.ref xk), l1, l2, l3], [.ref k0], h) Q = Tr sc d 37 (32, [some (.ref xk), l1, l2, l3], [.ref xk, .ref k0], h) Q := t_aload_n k_37_31 rfl
theorem k_37_32 : lk 37 32 = some (.getfield 20, 35, 4, 1, .int 0) := by decide +kernel
theorem x_37_32 : Tr sc d 37 (32, [l0, l1, l2, l3], [.ref k1, .ref k0], h) Q = (okp h k1 4 = true ∧ Tr sc d 37 (35, [l0, l1, l2, l3], [.int (hI h k1 1), .ref k0], h) Q) := t_gd k_37_32 rfl
theorem k_37_35 : lk 37 35 = some (.iconst 1, 36, 0, 0, .int 1) := by decide +kernel
theorem x_37_35 : Tr sc d 37 (35, [l0, l1, l2, l3], [.int i1, .ref k0], h) Q = Tr sc d 37 (36, [l0, l1, l2, l3], [.int 1, .int i1, .ref k0], h) Q := t_go k_37_35 rfl
theorem k_37_36 : lk 37 36 = some (.isub, 37, 0, 0, .null) := by decide +kernel
theorem x_37_36 : Tr sc d 37 (36, [l0, l1, l2, l3], [.int i2, .int i1, .ref k0], h) Q = Tr sc d 37 (37, [l0, l1, l2, l3], [.int (i1 - i2), .ref k0], h) Q := t_go k_37_36 rfl
theorem k_37_37 : lk 37 37 = some (.iaload, 38, 0, 0, .null) := by decide +kernel
theorem x_37_37 : Tr sc d 37 (37, [l0, l1, l2, l3], [.int i1, .ref k0], h) Q = (iOk sc h k0 i1 ∧ Tr sc d 37 (38, [l0, l1, l2, l3], [.int (iRd sc h k0 i1)], h) Q) := t_iald k_37_37
theorem k_37_38 : lk 37 38 = some (.bipush 97, 40, 0, 0, .int 97) := by decide +kernel
theorem x_37_38 : Tr sc d 37 (38, [l0, l1, l2, l3], [.int i0], h) Q = Tr sc d 37 (40, [l0, l1, l2, l3], [.int 97, .int i0], h) Q := t_go k_37_38 rfl
theorem k_37_40 : lk 37 40 = some (.isub, 41, 0, 0, .null) := by decide +kernel
theorem x_37_40 : Tr sc d 37 (40, [l0, l1, l2, l3], [.int i1, .int i0], h) Q = Tr sc d 37 (41, [l0, l1, l2, l3], [.int (i0 - i1)], h) Q := t_go k_37_40 rfl
theorem k_37_41 : lk 37 41 = some (.istore_n 2, 42, 2, 0, .null) := by decide +kernel
theorem x_37_41 : Tr sc d 37 (41, [l0, l1, l2, l3], [.int i0], h) Q = Tr sc d 37 (42, [l0, cl2 l1, some (.int i0), l3], [], h) Q := t_istore_n k_37_41 (Nat.le_of_ble_eq_true rfl)
theorem k_37_42 : lk 37 42 = some (.aload_n 0, 43, 0, 0, .null) := by decide +kernel
theorem x_37_42 : Tr sc d 37 (42, [some (.ref xk), l1, l2, l3], [], h) Q = Tr sc d 37 (43, [some (.ref xk), l1, l2, l3], [.ref xk], h) Q := t_aload_n k_37_42 rfl
theorem k_37_43 : lk 37 43 = some (.invokevirtual 47, 46, 38, 0, .null) := by decide +kernel
theorem x_37_43 : Tr sc (d + 1) 37 (43, [l0, l1, l2, l3], [.ref k0], h) Q = (okp h k0 4 = true ∧ Tr sc d 38 (ent0 38 [.ref k0] h) (fun z => Tr sc (d + 1) 37 (46, [l0, l1, l2, l3], z.1.toList ++ [], z.2) Q)) := t_cv (as := []) (r := []) k_37_43 rfl rfl (Nat.le_of_ble_eq_true rfl) (Nat.le_of_ble_eq_true rfl) (Nat.le_of_ble_eq_true rfl)
theorem k_37_46 : lk 37 46 = some (.ifCond .ne 5, 49, 51, 0, .null) := by decide +kernel
theorem x_37_46 : Tr sc d 37 (46, [l0, l1, l2, l3], [.int i0], h) Q = if i0 = 0 then Tr sc d 37 (49, [l0, l1, l2, l3], [], h) Q else Tr sc d 37 (51, [l0, l1, l2, l3], [], h) Q := t_if k_37_46 rfl
theorem k_37_49 : lk 37 49 = some (.iconst 0, 50, 0, 0, .int 0) := by decide +kernel
theorem x_37_49 : Tr sc d 37 (49, [l0, l1, l2, l3], [], h) Q = Tr sc d 37 (50, [l0, l1, l2, l3], [.int 0], h) Q := t_go k_37_49 rfl
theorem k_37_50 : lk 37 50 = some (.ireturn, 51, 0, 0, .null) := by decide +kernel
theorem x_37_50 : Tr sc d 37 (50, [l0, l1, l2, l3], [.int i0], h) Q = (vp_nar .boolean i0 = i0 ∧ Q (some (.int i0), h)) := t_zret k_37_50 r_37
theorem k_37_51 : lk 37 51 = some (.aload_n 0, 52, 0, 0, .null) := by decide +kernel
theorem x_37_51 : Tr sc d 37 (51, [some (.ref xk), l1, l2, l3], [], h) Q = Tr sc d 37 (52, [some (.ref xk), l1, l2, l3], [.ref xk], h) Q := t_aload_n k_37_51 rfl
theorem k_37_52 : lk 37 52 = some (.getfield 24, 55, 4, 2, .int 0) := by decide +kernel
theorem x_37_52 : Tr sc d 37 (52, [l0, l1, l2, l3], [.ref k0], h) Q = (okp h k0 4 = true ∧ Tr sc d 37 (55, [l0, l1, l2, l3], [.int (hI h k0 2)], h) Q) := t_gd k_37_52 rfl
theorem k_37_55 : lk 37 55 = some (.istore_n 3, 56, 3, 0, .null) := by decide +kernel
theorem x_37_55 : Tr sc d 37 (55, [l0, l1, l2, l3], [.int i0], h) Q = Tr sc d 37 (56, [l0, l1, cl2 l2, some (.int i0)], [], h) Q := t_istore_n k_37_55 (Nat.le_of_ble_eq_true rfl)
theorem k_37_56 : lk 37 56 = some (.aload_n 0, 57, 0, 0, .null) := by decide +kernel
theorem x_37_56 : Tr sc d 37 (56, [some (.ref xk), l1, l2, l3], [], h) Q = Tr sc d 37 (57, [some (.ref xk), l1, l2, l3], [.ref xk], h) Q := t_aload_n k_37_56 rfl
theorem k_37_57 : lk 37 57 = some (.invokevirtual 47, 60, 38, 0, .null) := by decide +kernel
theorem x_37_57 : Tr sc (d + 1) 37 (57, [l0, l1, l2, l3], [.ref k0], h) Q = (okp h k0 4 = true ∧ Tr sc d 38 (ent0 38 [.ref k0] h) (fun z => Tr sc (d + 1) 37 (60, [l0, l1, l2, l3], z.1.toList ++ [], z.2) Q)) := t_cv (as := []) (r := []) k_37_57 rfl rfl (Nat.le_of_ble_eq_true rfl) (Nat.le_of_ble_eq_true rfl) (Nat.le_of_ble_eq_true rfl)
theorem k_37_60 : lk 37 60 = some (.ifCond .ne 5, 63, 65, 0, .null) := by decide +kernel
theorem x_37_60 : Tr sc d 37 (60, [l0, l1, l2, l3], [.int i0], h) Q = if i0 = 0 then Tr sc d 37 (63, [l0, l1, l2, l3], [], h) Q else Tr sc d 37 (65, [l0, l1, l2, l3], [], h) Q := t_if k_37_60 rfl
theorem k_37_63 : lk 37 63 = some (.iconst 0, 64, 0, 0, .int 0) := by decide +kernel
theorem x_37_63 : Tr sc d 37 (63, [l0, l1, l2, l3], [], h) Q = Tr sc d 37 (64, [l0, l1, l2, l3], [.int 0], h) Q := t_go k_37_63 rfl
theorem k_37_64 : lk 37 64 = some (.ireturn, 65, 0, 0, .null) := by decide +kernel
theorem x_37_64 : Tr sc d 37 (64, [l0, l1, l2, l3], [.int i0], h) Q = (vp_nar .boolean i0 = i0 ∧ Q (some (.int i0), h)) := t_zret k_37_64 r_37
theorem k_37_65 : lk 37 65 = some (.aload_n 1, 66, 1, 0, .null) := by decide +kernel
theorem x_37_65 : Tr sc d 37 (65, [l0, some (.ref xk), l2, l3], [], h) Q = Tr sc d 37 (66, [l0, some (.ref xk), l2, l3], [.ref xk], h) Q := t_aload_n k_37_65 rfl
theorem k_37_66 : lk 37 66 = some (.iload_n 2, 67, 2, 0, .null) := by decide +kernel
theorem x_37_66 : Tr sc d 37 (66, [l0, l1, some (.int x), l3], [.ref k0], h) Q = Tr sc d 37 (67, [l0, l1, some (.int x), l3], [.int x, .ref k0], h) Q := t_iload_n k_37_66 rfl
theorem k_37_67 : lk 37 67 = some (.iload_n 3, 68, 3, 0, .null) := by decide +kernel
theorem x_37_67 : Tr sc d 37 (67, [l0, l1, l2, some (.int x)], [.int i1, .ref k0], h) Q = Tr sc d 37 (68, [l0, l1, l2, some (.int x)], [.int x, .int i1, .ref k0], h) Q := t_iload_n k_37_67 rfl
theorem k_37_68 : lk 37 68 = some (.aload_n 0, 69, 0, 0, .null) := by decide +kernel
theorem x_37_68 : Tr sc d 37 (68, [some (.ref xk), l1, l2, l3], [.int i2, .int i1, .ref k0], h) Q = Tr sc d 37 (69, [some (.ref xk), l1, l2, l3], [.ref xk, .int i2, .int i1, .ref k0], h) Q := t_aload_n k_37_68 rfl
theorem k_37_69 : lk 37 69 = some (.getfield 24, 72, 4, 2, .int 0) := by decide +kernel
theorem x_37_69 : Tr sc d 37 (69, [l0, l1, l2, l3], [.ref k3, .int i2, .int i1, .ref k0], h) Q = (okp h k3 4 = true ∧ Tr sc d 37 (72, [l0, l1, l2, l3], [.int (hI h k3 2), .int i2, .int i1, .ref k0], h) Q) := t_gd k_37_69 rfl
theorem k_37_72 : lk 37 72 = some (.invokevirtual 51, 75, 52, 3, .null) := by decide +kernel
theorem x_37_72 : Tr sc (d + 1) 37 (72, [l0, l1, l2, l3], [.int i3, .int i2, .int i1, .ref k0], h) Q = (okp h k0 6 = true ∧ Tr sc d 52 (ent0 52 [.ref k0, .int i1, .int i2, .int i3] h) (fun z => Tr sc (d + 1) 37 (75, [l0, l1, l2, l3], z.1.toList ++ [], z.2) Q)) := t_cv (as := [.int i1, .int i2, .int i3]) (r := []) k_37_72 rfl rfl (Nat.le_of_ble_eq_true rfl) (Nat.le_of_ble_eq_true rfl) (Nat.le_of_ble_eq_true rfl)
theorem k_37_75 : lk 37 75 = some (.iconst 1, 76, 0, 0, .int 1) := by decide +kernel
theorem x_37_75 : Tr sc d 37 (75, [l0, l1, l2, l3], [], h) Q = Tr sc d 37 (76, [l0, l1, l2, l3], [.int 1], h) Q := t_go k_37_75 rfl
theorem k_37_76 : lk 37 76 = some (.ireturn, 77, 0, 0, .null) := by decide +kernel
theorem x_37_76 : Tr sc d 37 (76, [l0, l1, l2, l3], [.int i0], h) Q = (vp_nar .boolean i0 = i0 ∧ Q (some (.int i0), h)) := t_zret k_37_76 r_37
theorem e_37 : Tr sc d 37 (ent0 37 [.ref k0, .ref k1] h) Q = Tr sc d 37 (0, [some (.ref k0), some (.ref k1), none, none], [], h) Q := by
  have e : mL 37 = 4 := by decide +kernel
  unfold ent0
  rw [e]
  rfl
theorem r_38 : mR 38 = some .boolean := by decide +kernel
theorem k_38_0 : lk 38 0 = some (.aload_n 0, 1, 0, 0, .null) := by decide +kernel
theorem x_38_0 : Tr sc d 38 (0, [some (.ref xk), l1, l2], [], h) Q = Tr sc d 38 (1, [some (.ref xk), l1, l2], [.ref xk], h) Q := t_aload_n k_38_0 rfl
theorem k_38_1 : lk 38 1 = some (.bipush 45, 3, 0, 0, .int 45) := by decide +kernel
theorem x_38_1 : Tr sc d 38 (1, [l0, l1, l2], [.ref k0], h) Q = Tr sc d 38 (3, [l0, l1, l2], [.int 45, .ref k0], h) Q := t_go k_38_1 rfl
theorem k_38_3 : lk 38 3 = some (.bipush 45, 5, 0, 0, .int 45) := by decide +kernel
theorem x_38_3 : Tr sc d 38 (3, [l0, l1, l2], [.int i1, .ref k0], h) Q = Tr sc d 38 (5, [l0, l1, l2], [.int 45, .int i1, .ref k0], h) Q := t_go k_38_3 rfl
theorem k_38_5 : lk 38 5 = some (.invokevirtual 27, 8, 39, 2, .null) := by decide +kernel
theorem x_38_5 : Tr sc (d + 1) 38 (5, [l0, l1, l2], [.int i2, .int i1, .ref k0], h) Q = (okp h k0 4 = true ∧ Tr sc d 39 (ent0 39 [.ref k0, .int i1, .int i2] h) (fun z => Tr sc (d + 1) 38 (8, [l0, l1, l2], z.1.toList ++ [], z.2) Q)) := t_cv (as := [.int i1, .int i2]) (r := []) k_38_5 rfl rfl (Nat.le_of_ble_eq_true rfl) (Nat.le_of_ble_eq_true rfl) (Nat.le_of_ble_eq_true rfl)
theorem k_38_8 : lk 38 8 = some (.istore_n 1, 9, 1, 0, .null) := by decide +kernel
theorem x_38_8 : Tr sc d 38 (8, [l0, l1, l2], [.int i0], h) Q = Tr sc d 38 (9, [cl2 l0, some (.int i0), l2], [], h) Q := t_istore_n k_38_8 (Nat.le_of_ble_eq_true rfl)
theorem k_38_9 : lk 38 9 = some (.aload_n 0, 10, 0, 0, .null) := by decide +kernel
theorem x_38_9 : Tr sc d 38 (9, [some (.ref xk), l1, l2], [], h) Q = Tr sc d 38 (10, [some (.ref xk), l1, l2], [.ref xk], h) Q := t_aload_n k_38_9 rfl
theorem k_38_10 : lk 38 10 = some (.bipush 48, 12, 0, 0, .int 48) := by decide +kernel
theorem x_38_10 : Tr sc d 38 (10, [l0, l1, l2], [.ref k0], h) Q = Tr sc d 38 (12, [l0, l1, l2], [.int 48, .ref k0], h) Q := t_go k_38_10 rfl
theorem k_38_12 : lk 38 12 = some (.bipush 57, 14, 0, 0, .int 57) := by decide +kernel
theorem x_38_12 : Tr sc d 38 (12, [l0, l1, l2], [.int i1, .ref k0], h) Q = Tr sc d 38 (14, [l0, l1, l2], [.int 57, .int i1, .ref k0], h) Q := t_go k_38_12 rfl
theorem k_38_14 : lk 38 14 = some (.invokevirtual 27, 17, 39, 2, .null) := by decide +kernel
theorem x_38_14 : Tr sc (d + 1) 38 (14, [l0, l1, l2], [.int i2, .int i1, .ref k0], h) Q = (okp h k0 4 = true ∧ Tr sc d 39 (ent0 39 [.ref k0, .int i1, .int i2] h) (fun z => Tr sc (d + 1) 38 (17, [l0, l1, l2], z.1.toList ++ [], z.2) Q)) := t_cv (as := [.int i1, .int i2]) (r := []) k_38_14 rfl rfl (Nat.le_of_ble_eq_true rfl) (Nat.le_of_ble_eq_true rfl) (Nat.le_of_ble_eq_true rfl)
theorem k_38_17 : lk 38 17 = some (.ifCond .ne 5, 20, 22, 0, .null) := by decide +kernel
theorem x_38_17 : Tr sc d 38 (17, [l0, l1, l2], [.int i0], h) Q = if i0 = 0 then Tr sc d 38 (20, [l0, l1, l2], [], h) Q else Tr sc d 38 (22, [l0, l1, l2], [], h) Q := t_if k_38_17 rfl
theorem k_38_20 : lk 38 20 = some (.iconst 0, 21, 0, 0, .int 0) := by decide +kernel
theorem x_38_20 : Tr sc d 38 (20, [l0, l1, l2], [], h) Q = Tr sc d 38 (21, [l0, l1, l2], [.int 0], h) Q := t_go k_38_20 rfl
theorem k_38_21 : lk 38 21 = some (.ireturn, 22, 0, 0, .null) := by decide +kernel
theorem x_38_21 : Tr sc d 38 (21, [l0, l1, l2], [.int i0], h) Q = (vp_nar .boolean i0 = i0 ∧ Q (some (.int i0), h)) := t_zret k_38_21 r_38
theorem k_38_22 : lk 38 22 = some (.aload_n 0, 23, 0, 0, .null) := by decide +kernel
theorem x_38_22 : Tr sc d 38 (22, [some (.ref xk), l1, l2], [], h) Q = Tr sc d 38 (23, [some (.ref xk), l1, l2], [.ref xk], h) Q := t_aload_n k_38_22 rfl
theorem k_38_23 : lk 38 23 = some (.getfield 14, 26, 4, 0, .null) := by decide +kernel
theorem x_38_23 : Tr sc d 38 (23, [l0, l1, l2], [.ref k0], h) Q = (okp h k0 4 = true ∧ ∃ q, hR h k0 0 = some q ∧ Tr sc d 38 (26, [l0, l1, l2], [.ref q], h) Q) := t_getr k_38_23
theorem k_38_26 : lk 38 26 = some (.getfield 31, 29, 5, 0, .null) := by decide +kernel
theorem x_38_26 : Tr sc d 38 (26, [l0, l1, l2], [.ref k0], h) Q = (okp h k0 5 = true ∧ ∃ q, hR h k0 0 = some q ∧ Tr sc d 38 (29, [l0, l1, l2], [.ref q], h) Q) := t_getr k_38_26
theorem k_38_29 : lk 38 29 = some (.aload_n 0, 30, 0, 0, .null) := by decide +kernel
theorem x_38_29 : Tr sc d 38 (29, [some (.ref xk), l1, l2], [.ref k0], h) Q = Tr sc d 38 (30, [some (.ref xk), l1, l2], [.ref xk, .ref k0], h) Q := t_aload_n k_38_29 rfl
theorem k_38_30 : lk 38 30 = some (.getfield 20, 33, 4, 1, .int 0) := by decide +kernel
theorem x_38_30 : Tr sc d 38 (30, [l0, l1, l2], [.ref k1, .ref k0], h) Q = (okp h k1 4 = true ∧ Tr sc d 38 (33, [l0, l1, l2], [.int (hI h k1 1), .ref k0], h) Q) := t_gd k_38_30 rfl
theorem k_38_33 : lk 38 33 = some (.iconst 1, 34, 0, 0, .int 1) := by decide +kernel
theorem x_38_33 : Tr sc d 38 (33, [l0, l1, l2], [.int i1, .ref k0], h) Q = Tr sc d 38 (34, [l0, l1, l2], [.int 1, .int i1, .ref k0], h) Q := t_go k_38_33 rfl
theorem k_38_34 : lk 38 34 = some (.isub, 35, 0, 0, .null) := by decide +kernel
theorem x_38_34 : Tr sc d 38 (34, [l0, l1, l2], [.int i2, .int i1, .ref k0], h) Q = Tr sc d 38 (35, [l0, l1, l2], [.int (i1 - i2), .ref k0], h) Q := t_go k_38_34 rfl
theorem k_38_35 : lk 38 35 = some (.iaload, 36, 0, 0, .null) := by decide +kernel
theorem x_38_35 : Tr sc d 38 (35, [l0, l1, l2], [.int i1, .ref k0], h) Q = (iOk sc h k0 i1 ∧ Tr sc d 38 (36, [l0, l1, l2], [.int (iRd sc h k0 i1)], h) Q) := t_iald k_38_35
theorem k_38_36 : lk 38 36 = some (.bipush 48, 38, 0, 0, .int 48) := by decide +kernel
theorem x_38_36 : Tr sc d 38 (36, [l0, l1, l2], [.int i0], h) Q = Tr sc d 38 (38, [l0, l1, l2], [.int 48, .int i0], h) Q := t_go k_38_36 rfl
theorem k_38_38 : lk 38 38 = some (.isub, 39, 0, 0, .null) := by decide +kernel
theorem x_38_38 : Tr sc d 38 (38, [l0, l1, l2], [.int i1, .int i0], h) Q = Tr sc d 38 (39, [l0, l1, l2], [.int (i0 - i1)], h) Q := t_go k_38_38 rfl
theorem k_38_39 : lk 38 39 = some (.istore_n 2, 40, 2, 0, .null) := by decide +kernel
theorem x_38_39 : Tr sc d 38 (39, [l0, l1, l2], [.int i0], h) Q = Tr sc d 38 (40, [l0, cl2 l1, some (.int i0)], [], h) Q := t_istore_n k_38_39 (Nat.le_of_ble_eq_true rfl)
theorem k_38_40 : lk 38 40 = some (.aload_n 0, 41, 0, 0, .null) := by decide +kernel
theorem x_38_40 : Tr sc d 38 (40, [some (.ref xk), l1, l2], [], h) Q = Tr sc d 38 (41, [some (.ref xk), l1, l2], [.ref xk], h) Q := t_aload_n k_38_40 rfl
theorem k_38_41 : lk 38 41 = some (.iload_n 1, 42, 1, 0, .null) := by decide +kernel
theorem x_38_41 : Tr sc d 38 (41, [l0, some (.int x), l2], [.ref k0], h) Q = Tr sc d 38 (42, [l0, some (.int x), l2], [.int x, .ref k0], h) Q := t_iload_n k_38_41 rfl
theorem k_38_42 : lk 38 42 = some (.ifCond .eq 8, 45, 50, 0, .null) := by decide +kernel
theorem x_38_42 : Tr sc d 38 (42, [l0, l1, l2], [.int i1, .ref k0], h) Q = if i1 = 0 then Tr sc d 38 (50, [l0, l1, l2], [.ref k0], h) Q else Tr sc d 38 (45, [l0, l1, l2], [.ref k0], h) Q := t_if k_38_42 rfl
theorem k_38_45 : lk 38 45 = some (.iload_n 2, 46, 2, 0, .null) := by decide +kernel
theorem x_38_45 : Tr sc d 38 (45, [l0, l1, some (.int x)], [.ref k0], h) Q = Tr sc d 38 (46, [l0, l1, some (.int x)], [.int x, .ref k0], h) Q := t_iload_n k_38_45 rfl
theorem k_38_46 : lk 38 46 = some (.ineg, 47, 0, 0, .null) := by decide +kernel
theorem x_38_46 : Tr sc d 38 (46, [l0, l1, l2], [.int i1, .ref k0], h) Q = Tr sc d 38 (47, [l0, l1, l2], [.int (-i1), .ref k0], h) Q := t_go k_38_46 rfl
theorem k_38_47 : lk 38 47 = some (.goto 4, 50, 51, 0, .null) := by decide +kernel
theorem x_38_47 : Tr sc d 38 (47, [l0, l1, l2], [.int i1, .ref k0], h) Q = Tr sc d 38 (51, [l0, l1, l2], [.int i1, .ref k0], h) Q := t_go k_38_47 rfl
theorem k_38_50 : lk 38 50 = some (.iload_n 2, 51, 2, 0, .null) := by decide +kernel
theorem x_38_50 : Tr sc d 38 (50, [l0, l1, some (.int x)], [.ref k0], h) Q = Tr sc d 38 (51, [l0, l1, some (.int x)], [.int x, .ref k0], h) Q := t_iload_n k_38_50 rfl
theorem k_38_51 : lk 38 51 = some (.putfield 24, 54, 4, 2, .int 0) := by decide +kernel
theorem x_38_51 : Tr sc d 38 (51, [l0, l1, l2], [.int i1, .ref k0], h) Q = (okp h k0 4 = true ∧ Tr sc d 38 (54, [l0, l1, l2], [], (sI h k0 2 i1)) Q) := t_gd k_38_51 rfl
theorem k_38_54 : lk 38 54 = some (.iconst 1, 55, 0, 0, .int 1) := by decide +kernel
theorem x_38_54 : Tr sc d 38 (54, [l0, l1, l2], [], h) Q = Tr sc d 38 (55, [l0, l1, l2], [.int 1], h) Q := t_go k_38_54 rfl
theorem k_38_55 : lk 38 55 = some (.ireturn, 56, 0, 0, .null) := by decide +kernel
theorem x_38_55 : Tr sc d 38 (55, [l0, l1, l2], [.int i0], h) Q = (vp_nar .boolean i0 = i0 ∧ Q (some (.int i0), h)) := t_zret k_38_55 r_38
theorem e_38 : Tr sc d 38 (ent0 38 [.ref k0] h) Q = Tr sc d 38 (0, [some (.ref k0), none, none], [], h) Q := by
  have e : mL 38 = 3 := by decide +kernel
  unfold ent0
  rw [e]
  rfl
theorem r_39 : mR 39 = some .boolean := by decide +kernel
theorem k_39_0 : lk 39 0 = some (.aload_n 0, 1, 0, 0, .null) := by decide +kernel
theorem x_39_0 : Tr sc d 39 (0, [some (.ref xk), l1, l2], [], h) Q = Tr sc d 39 (1, [some (.ref xk), l1, l2], [.ref xk], h) Q := t_aload_n k_39_0 rfl
theorem k_39_1 : lk 39 1 = some (.getfield 14, 4, 4, 0, .null) := by decide +kernel
theorem x_39_1 : Tr sc d 39 (1, [l0, l1, l2], [.ref k0], h) Q = (okp h k0 4 = true ∧ ∃ q, hR h k0 0 = some q ∧ Tr sc d 39 (4, [l0, l1, l2], [.ref q], h) Q) := t_getr k_39_1
theorem k_39_4 : lk 39 4 = some (.aload_n 0, 5, 0, 0, .null) := by decide +kernel
theorem x_39_4 : Tr sc d 39 (4, [some (.ref xk), l1, l2], [.ref k0], h) Q = Tr sc d 39 (5, [some (.ref xk), l1, l2], [.ref xk, .ref k0], h) Q := t_aload_n k_39_4 rfl
theorem k_39_5 : lk 39 5 = some (.getfield 20, 8, 4, 1, .int 0) := by decide +kernel
theorem x_39_5 : Tr sc d 39 (5, [l0, l1, l2], [.ref k1, .ref k0], h) Q = (okp h k1 4 = true ∧ Tr sc d 39 (8, [l0, l1, l2], [.int (hI h k1 1), .ref k0], h) Q) := t_gd k_39_5 rfl
theorem k_39_8 : lk 39 8 = some (.invokevirtual 55, 11, 43, 1, .null) := by decide +kernel
theorem x_39_8 : Tr sc (d + 1) 39 (8, [l0, l1, l2], [.int i1, .ref k0], h) Q = (okp h k0 5 = true ∧ Tr sc d 43 (ent0 43 [.ref k0, .int i1] h) (fun z => Tr sc (d + 1) 39 (11, [l0, l1, l2], z.1.toList ++ [], z.2) Q)) := t_cv (as := [.int i1]) (r := []) k_39_8 rfl rfl (Nat.le_of_ble_eq_true rfl) (Nat.le_of_ble_eq_true rfl) (Nat.le_of_ble_eq_true rfl)
theorem k_39_11 : lk 39 11 = some (.ifCond .eq 35, 14, 46, 0, .null) := by decide +kernel
theorem x_39_11 : Tr sc d 39 (11, [l0, l1, l2], [.int i0], h) Q = if i0 = 0 then Tr sc d 39 (46, [l0, l1, l2], [], h) Q else Tr sc d 39 (14, [l0, l1, l2], [], h) Q := t_if k_39_11 rfl
theorem k_39_14 : lk 39 14 = some (.aload_n 0, 15, 0, 0, .null) := by decide +kernel
theorem x_39_14 : Tr sc d 39 (14, [some (.ref xk), l1, l2], [], h) Q = Tr sc d 39 (15, [some (.ref xk), l1, l2], [.ref xk], h) Q := t_aload_n k_39_14 rfl
theorem k_39_15 : lk 39 15 = some (.getfield 14, 18, 4, 0, .null) := by decide +kernel
theorem x_39_15 : Tr sc d 39 (15, [l0, l1, l2], [.ref k0], h) Q = (okp h k0 4 = true ∧ ∃ q, hR h k0 0 = some q ∧ Tr sc d 39 (18, [l0, l1, l2], [.ref q], h) Q) := t_getr k_39_15
theorem k_39_18 : lk 39 18 = some (.getfield 31, 21, 5, 0, .null) := by decide +kernel
theorem x_39_18 : Tr sc d 39 (18, [l0, l1, l2], [.ref k0], h) Q = (okp h k0 5 = true ∧ ∃ q, hR h k0 0 = some q ∧ Tr sc d 39 (21, [l0, l1, l2], [.ref q], h) Q) := t_getr k_39_18
theorem k_39_21 : lk 39 21 = some (.aload_n 0, 22, 0, 0, .null) := by decide +kernel
theorem x_39_21 : Tr sc d 39 (21, [some (.ref xk), l1, l2], [.ref k0], h) Q = Tr sc d 39 (22, [some (.ref xk), l1, l2], [.ref xk, .ref k0], h) Q := t_aload_n k_39_21 rfl
theorem k_39_22 : lk 39 22 = some (.getfield 20, 25, 4, 1, .int 0) := by decide +kernel
theorem x_39_22 : Tr sc d 39 (22, [l0, l1, l2], [.ref k1, .ref k0], h) Q = (okp h k1 4 = true ∧ Tr sc d 39 (25, [l0, l1, l2], [.int (hI h k1 1), .ref k0], h) Q) := t_gd k_39_22 rfl
theorem k_39_25 : lk 39 25 = some (.iaload, 26, 0, 0, .null) := by decide +kernel
theorem x_39_25 : Tr sc d 39 (25, [l0, l1, l2], [.int i1, .ref k0], h) Q = (iOk sc h k0 i1 ∧ Tr sc d 39 (26, [l0, l1, l2], [.int (iRd sc h k0 i1)], h) Q) := t_iald k_39_25
theorem k_39_26 : lk 39 26 = some (.iload_n 1, 27, 1, 0, .null) := by decide +kernel
theorem x_39_26 : Tr sc d 39 (26, [l0, some (.int x), l2], [.int i0], h) Q = Tr sc d 39 (27, [l0, some (.int x), l2], [.int x, .int i0], h) Q := t_iload_n k_39_26 rfl
theorem k_39_27 : lk 39 27 = some (.if_icmp .lt 19, 30, 46, 0, .null) := by decide +kernel
theorem x_39_27 : Tr sc d 39 (27, [l0, l1, l2], [.int i1, .int i0], h) Q = if i0 < i1 then Tr sc d 39 (46, [l0, l1, l2], [], h) Q else Tr sc d 39 (30, [l0, l1, l2], [], h) Q := t_if k_39_27 rfl
theorem k_39_30 : lk 39 30 = some (.aload_n 0, 31, 0, 0, .null) := by decide +kernel
theorem x_39_30 : Tr sc d 39 (30, [some (.ref xk), l1, l2], [], h) Q = Tr sc d 39 (31, [some (.ref xk), l1, l2], [.ref xk], h) Q := t_aload_n k_39_30 rfl
theorem k_39_31 : lk 39 31 = some (.getfield 14, 34, 4, 0, .null) := by decide +kernel
theorem x_39_31 : Tr sc d 39 (31, [l0, l1, l2], [.ref k0], h) Q = (okp h k0 4 = true ∧ ∃ q, hR h k0 0 = some q ∧ Tr sc d 39 (34, [l0, l1, l2], [.ref q], h) Q) := t_getr k_39_31
theorem k_39_34 : lk 39 34 = some (.getfield 31, 37, 5, 0, .null) := by decide +kernel
theorem x_39_34 : Tr sc d 39 (34, [l0, l1, l2], [.ref k0], h) Q = (okp h k0 5 = true ∧ ∃ q, hR h k0 0 = some q ∧ Tr sc d 39 (37, [l0, l1, l2], [.ref q], h) Q) := t_getr k_39_34
theorem k_39_37 : lk 39 37 = some (.aload_n 0, 38, 0, 0, .null) := by decide +kernel
theorem x_39_37 : Tr sc d 39 (37, [some (.ref xk), l1, l2], [.ref k0], h) Q = Tr sc d 39 (38, [some (.ref xk), l1, l2], [.ref xk, .ref k0], h) Q := t_aload_n k_39_37 rfl
theorem k_39_38 : lk 39 38 = some (.getfield 20, 41, 4, 1, .int 0) := by decide +kernel
theorem x_39_38 : Tr sc d 39 (38, [l0, l1, l2], [.ref k1, .ref k0], h) Q = (okp h k1 4 = true ∧ Tr sc d 39 (41, [l0, l1, l2], [.int (hI h k1 1), .ref k0], h) Q) := t_gd k_39_38 rfl
theorem k_39_41 : lk 39 41 = some (.iaload, 42, 0, 0, .null) := by decide +kernel
theorem x_39_41 : Tr sc d 39 (41, [l0, l1, l2], [.int i1, .ref k0], h) Q = (iOk sc h k0 i1 ∧ Tr sc d 39 (42, [l0, l1, l2], [.int (iRd sc h k0 i1)], h) Q) := t_iald k_39_41
theorem k_39_42 : lk 39 42 = some (.iload_n 2, 43, 2, 0, .null) := by decide +kernel
theorem x_39_42 : Tr sc d 39 (42, [l0, l1, some (.int x)], [.int i0], h) Q = Tr sc d 39 (43, [l0, l1, some (.int x)], [.int x, .int i0], h) Q := t_iload_n k_39_42 rfl
theorem k_39_43 : lk 39 43 = some (.if_icmp .le 5, 46, 48, 0, .null) := by decide +kernel
theorem x_39_43 : Tr sc d 39 (43, [l0, l1, l2], [.int i1, .int i0], h) Q = if i0 ≤ i1 then Tr sc d 39 (48, [l0, l1, l2], [], h) Q else Tr sc d 39 (46, [l0, l1, l2], [], h) Q := t_if k_39_43 rfl
theorem k_39_46 : lk 39 46 = some (.iconst 0, 47, 0, 0, .int 0) := by decide +kernel
theorem x_39_46 : Tr sc d 39 (46, [l0, l1, l2], [], h) Q = Tr sc d 39 (47, [l0, l1, l2], [.int 0], h) Q := t_go k_39_46 rfl
theorem k_39_47 : lk 39 47 = some (.ireturn, 48, 0, 0, .null) := by decide +kernel
theorem x_39_47 : Tr sc d 39 (47, [l0, l1, l2], [.int i0], h) Q = (vp_nar .boolean i0 = i0 ∧ Q (some (.int i0), h)) := t_zret k_39_47 r_39
theorem k_39_48 : lk 39 48 = some (.aload_n 0, 49, 0, 0, .null) := by decide +kernel
theorem x_39_48 : Tr sc d 39 (48, [some (.ref xk), l1, l2], [], h) Q = Tr sc d 39 (49, [some (.ref xk), l1, l2], [.ref xk], h) Q := t_aload_n k_39_48 rfl
theorem k_39_49 : lk 39 49 = some (.dup, 50, 0, 0, .null) := by decide +kernel
theorem x_39_49 : Tr sc d 39 (49, [l0, l1, l2], [.ref k0], h) Q = Tr sc d 39 (50, [l0, l1, l2], [.ref k0, .ref k0], h) Q := t_go k_39_49 rfl
theorem k_39_50 : lk 39 50 = some (.getfield 20, 53, 4, 1, .int 0) := by decide +kernel
theorem x_39_50 : Tr sc d 39 (50, [l0, l1, l2], [.ref k1, .ref k0], h) Q = (okp h k1 4 = true ∧ Tr sc d 39 (53, [l0, l1, l2], [.int (hI h k1 1), .ref k0], h) Q) := t_gd k_39_50 rfl
theorem k_39_53 : lk 39 53 = some (.iconst 1, 54, 0, 0, .int 1) := by decide +kernel
theorem x_39_53 : Tr sc d 39 (53, [l0, l1, l2], [.int i1, .ref k0], h) Q = Tr sc d 39 (54, [l0, l1, l2], [.int 1, .int i1, .ref k0], h) Q := t_go k_39_53 rfl
theorem k_39_54 : lk 39 54 = some (.iadd, 55, 0, 0, .null) := by decide +kernel
theorem x_39_54 : Tr sc d 39 (54, [l0, l1, l2], [.int i2, .int i1, .ref k0], h) Q = Tr sc d 39 (55, [l0, l1, l2], [.int (i1 + i2), .ref k0], h) Q := t_go k_39_54 rfl
theorem k_39_55 : lk 39 55 = some (.putfield 20, 58, 4, 1, .int 0) := by decide +kernel
theorem x_39_55 : Tr sc d 39 (55, [l0, l1, l2], [.int i1, .ref k0], h) Q = (okp h k0 4 = true ∧ Tr sc d 39 (58, [l0, l1, l2], [], (sI h k0 1 i1)) Q) := t_gd k_39_55 rfl
theorem k_39_58 : lk 39 58 = some (.iconst 1, 59, 0, 0, .int 1) := by decide +kernel
theorem x_39_58 : Tr sc d 39 (58, [l0, l1, l2], [], h) Q = Tr sc d 39 (59, [l0, l1, l2], [.int 1], h) Q := t_go k_39_58 rfl
theorem k_39_59 : lk 39 59 = some (.ireturn, 60, 0, 0, .null) := by decide +kernel
theorem x_39_59 : Tr sc d 39 (59, [l0, l1, l2], [.int i0], h) Q = (vp_nar .boolean i0 = i0 ∧ Q (some (.int i0), h)) := t_zret k_39_59 r_39
theorem e_39 : Tr sc d 39 (ent0 39 [.ref k0, .int i1, .int i2] h) Q = Tr sc d 39 (0, [some (.ref k0), some (.int i1), some (.int i2)], [], h) Q := by
  have e : mL 39 = 3 := by decide +kernel
  unfold ent0
  rw [e]
  rfl
theorem r_40 : mR 40 = none := by decide +kernel
theorem k_40_0 : lk 40 0 = some (.aload_n 0, 1, 0, 0, .null) := by decide +kernel
theorem x_40_0 : Tr sc d 40 (0, [some (.ref xk), l1], [], h) Q = Tr sc d 40 (1, [some (.ref xk), l1], [.ref xk], h) Q := t_aload_n k_40_0 rfl
theorem k_40_1 : lk 40 1 = some (.invokespecial 3, 4, 9000, 0, .null) := by decide +kernel
theorem x_40_1 : Tr sc d 40 (1, [l0, l1], [.ref k0], h) Q = Tr sc d 40 (4, [l0, l1], [], h) Q := t_go k_40_1 rfl
theorem k_40_4 : lk 40 4 = some (.aload_n 0, 5, 0, 0, .null) := by decide +kernel
theorem x_40_4 : Tr sc d 40 (4, [some (.ref xk), l1], [], h) Q = Tr sc d 40 (5, [some (.ref xk), l1], [.ref xk], h) Q := t_aload_n k_40_4 rfl
theorem k_40_5 : lk 40 5 = some (.iconst (-1), 6, 0, 0, .int (-1)) := by decide +kernel
theorem x_40_5 : Tr sc d 40 (5, [l0, l1], [.ref k0], h) Q = Tr sc d 40 (6, [l0, l1], [.int (-1), .ref k0], h) Q := t_go k_40_5 rfl
theorem k_40_6 : lk 40 6 = some (.putfield 9, 9, 5, 1, .int 0) := by decide +kernel
theorem x_40_6 : Tr sc d 40 (6, [l0, l1], [.int i1, .ref k0], h) Q = (okp h k0 5 = true ∧ Tr sc d 40 (9, [l0, l1], [], (sI h k0 1 i1)) Q) := t_gd k_40_6 rfl
theorem k_40_9 : lk 40 9 = some (.aload_n 0, 10, 0, 0, .null) := by decide +kernel
theorem x_40_9 : Tr sc d 40 (9, [some (.ref xk), l1], [], h) Q = Tr sc d 40 (10, [some (.ref xk), l1], [.ref xk], h) Q := t_aload_n k_40_9 rfl
theorem k_40_10 : lk 40 10 = some (.iload_n 1, 11, 1, 0, .null) := by decide +kernel
theorem x_40_10 : Tr sc d 40 (10, [l0, some (.int x)], [.ref k0], h) Q = Tr sc d 40 (11, [l0, some (.int x)], [.int x, .ref k0], h) Q := t_iload_n k_40_10 rfl
theorem k_40_11 : lk 40 11 = some (.newarray .int, 13, 11, 0, .null) := by decide +kernel
theorem x_40_11 : Tr sc d 40 (11, [l0, l1], [.int i1, .ref k0], h) Q = ((hN h < 1000 ∧ TG (hN h) = 11 ∧ (¬ i1 < 0) ∧ LN (hN h) = i1.toNatClampNeg ∧ LN (hN h) ≤ 60000) ∧ Tr sc d 40 (13, [l0, l1], [.ref (hN h), .ref k0], nH h) Q) := t_gd k_40_11 rfl
theorem k_40_13 : lk 40 13 = some (.putfield 15, 16, 5, 0, .null) := by decide +kernel
theorem x_40_13 : Tr sc d 40 (13, [l0, l1], [.ref k1, .ref k0], h) Q = (okp h k0 5 = true ∧ Tr sc d 40 (16, [l0, l1], [], (sR h k0 0 (some k1))) Q) := t_gd k_40_13 rfl
theorem k_40_16 : lk 40 16 = some (.return_, 17, 0, 0, .null) := by decide +kernel
theorem x_40_16 : Tr sc d 40 (16, [l0, l1], [], h) Q = Q (none, h) := t_ret k_40_16 (by rw [r_40]; rfl)
theorem e_40 : Tr sc d 40 (ent0 40 [.ref k0, .int i1] h) Q = Tr sc d 40 (0, [some (.ref k0), some (.int i1)], [], h) Q := by
  have e : mL 40 = 2 := by decide +kernel
  unfold ent0
  rw [e]
  rfl
theorem r_41 : mR 41 = none := by decide +kernel
theorem k_41_0 : lk 41 0 = some (.aload_n 0, 1, 0, 0, .null) := by decide +kernel
theorem x_41_0 : Tr sc d 41 (0, [some (.ref xk), l1, l2], [], h) Q = Tr sc d 41 (1, [some (.ref xk), l1, l2], [.ref xk], h) Q := t_aload_n k_41_0 rfl
theorem k_41_1 : lk 41 1 = some (.getfield 15, 4, 5, 0, .null) := by decide +kernel
theorem x_41_1 : Tr sc d 41 (1, [l0, l1, l2], [.ref k0], h) Q = (okp h k0 5 = true ∧ ∃ q, hR h k0 0 = some q ∧ Tr sc d 41 (4, [l0, l1, l2], [.ref q], h) Q) := t_getr k_41_1
theorem k_41_4 : lk 41 4 = some (.iload_n 2, 5, 2, 0, .null) := by decide +kernel
theorem x_41_4 : Tr sc d 41 (4, [l0, l1, some (.int x)], [.ref k0], h) Q = Tr sc d 41 (5, [l0, l1, some (.int x)], [.int x, .ref k0], h) Q := t_iload_n k_41_4 rfl
theorem k_41_5 : lk 41 5 = some (.invokestatic 19, 8, 257, 2, .null) := by decide +kernel
theorem x_41_5 : Tr sc (d + 1) 41 (5, [l0, l1, l2], [.int i1, .ref k0], h) Q = Tr sc d 257 (ent0 257 [.ref k0, .int i1] h) (fun z => Tr sc (d + 1) 41 (8, [l0, l1, l2], z.1.toList ++ [], z.2) Q) := t_cs (as := [.ref k0, .int i1]) (r := []) k_41_5 (by decide) rfl rfl (Nat.le_of_ble_eq_true rfl) (Nat.le_of_ble_eq_true rfl)
theorem k_41_8 : lk 41 8 = some (.aload_n 0, 9, 0, 0, .null) := by decide +kernel
theorem x_41_8 : Tr sc d 41 (8, [some (.ref xk), l1, l2], [], h) Q = Tr sc d 41 (9, [some (.ref xk), l1, l2], [.ref xk], h) Q := t_aload_n k_41_8 rfl
theorem k_41_9 : lk 41 9 = some (.iload_n 1, 10, 1, 0, .null) := by decide +kernel
theorem x_41_9 : Tr sc d 41 (9, [l0, some (.int x), l2], [.ref k0], h) Q = Tr sc d 41 (10, [l0, some (.int x), l2], [.int x, .ref k0], h) Q := t_iload_n k_41_9 rfl
theorem k_41_10 : lk 41 10 = some (.putfield 9, 13, 5, 1, .int 0) := by decide +kernel
theorem x_41_10 : Tr sc d 41 (10, [l0, l1, l2], [.int i1, .ref k0], h) Q = (okp h k0 5 = true ∧ Tr sc d 41 (13, [l0, l1, l2], [], (sI h k0 1 i1)) Q) := t_gd k_41_10 rfl
theorem k_41_13 : lk 41 13 = some (.return_, 14, 0, 0, .null) := by decide +kernel
theorem x_41_13 : Tr sc d 41 (13, [l0, l1, l2], [], h) Q = Q (none, h) := t_ret k_41_13 (by rw [r_41]; rfl)
theorem e_41 : Tr sc d 41 (ent0 41 [.ref k0, .int i1, .int i2] h) Q = Tr sc d 41 (0, [some (.ref k0), some (.int i1), some (.int i2)], [], h) Q := by
  have e : mL 41 = 3 := by decide +kernel
  unfold ent0
  rw [e]
  rfl
theorem r_42 : mR 42 = some .boolean := by decide +kernel
theorem k_42_0 : lk 42 0 = some (.aload_n 0, 1, 0, 0, .null) := by decide +kernel
theorem x_42_0 : Tr sc d 42 (0, [some (.ref xk)], [], h) Q = Tr sc d 42 (1, [some (.ref xk)], [.ref xk], h) Q := t_aload_n k_42_0 rfl
theorem k_42_1 : lk 42 1 = some (.getfield 9, 4, 5, 1, .int 0) := by decide +kernel
theorem x_42_1 : Tr sc d 42 (1, [l0], [.ref k0], h) Q = (okp h k0 5 = true ∧ Tr sc d 42 (4, [l0], [.int (hI h k0 1)], h) Q) := t_gd k_42_1 rfl
theorem k_42_4 : lk 42 4 = some (.ifCond .ge 7, 7, 11, 0, .null) := by decide +kernel
theorem x_42_4 : Tr sc d 42 (4, [l0], [.int i0], h) Q = if 0 ≤ i0 then Tr sc d 42 (11, [l0], [], h) Q else Tr sc d 42 (7, [l0], [], h) Q := t_if k_42_4 rfl
theorem k_42_7 : lk 42 7 = some (.iconst 1, 8, 0, 0, .int 1) := by decide +kernel
theorem x_42_7 : Tr sc d 42 (7, [l0], [], h) Q = Tr sc d 42 (8, [l0], [.int 1], h) Q := t_go k_42_7 rfl
theorem k_42_8 : lk 42 8 = some (.goto 4, 11, 12, 0, .null) := by decide +kernel
theorem x_42_8 : Tr sc d 42 (8, [l0], [.int i0], h) Q = Tr sc d 42 (12, [l0], [.int i0], h) Q := t_go k_42_8 rfl
theorem k_42_11 : lk 42 11 = some (.iconst 0, 12, 0, 0, .int 0) := by decide +kernel
theorem x_42_11 : Tr sc d 42 (11, [l0], [], h) Q = Tr sc d 42 (12, [l0], [.int 0], h) Q := t_go k_42_11 rfl
theorem k_42_12 : lk 42 12 = some (.ireturn, 13, 0, 0, .null) := by decide +kernel
theorem x_42_12 : Tr sc d 42 (12, [l0], [.int i0], h) Q = (vp_nar .boolean i0 = i0 ∧ Q (some (.int i0), h)) := t_zret k_42_12 r_42
theorem e_42 : Tr sc d 42 (ent0 42 [.ref k0] h) Q = Tr sc d 42 (0, [some (.ref k0)], [], h) Q := by
  have e : mL 42 = 1 := by decide +kernel
  unfold ent0
  rw [e]
  rfl
theorem r_43 : mR 43 = some .boolean := by decide +kernel
theorem k_43_0 : lk 43 0 = some (.iload_n 1, 1, 1, 0, .null) := by decide +kernel
theorem x_43_0 : Tr sc d 43 (0, [l0, some (.int x)], [], h) Q = Tr sc d 43 (1, [l0, some (.int x)], [.int x], h) Q := t_iload_n k_43_0 rfl
theorem k_43_1 : lk 43 1 = some (.ifCond .lt 15, 4, 16, 0, .null) := by decide +kernel
theorem x_43_1 : Tr sc d 43 (1, [l0, l1], [.int i0], h) Q = if i0 < 0 then Tr sc d 43 (16, [l0, l1], [], h) Q else Tr sc d 43 (4, [l0, l1], [], h) Q := t_if k_43_1 rfl
theorem k_43_4 : lk 43 4 = some (.iload_n 1, 5, 1, 0, .null) := by decide +kernel
theorem x_43_4 : Tr sc d 43 (4, [l0, some (.int x)], [], h) Q = Tr sc d 43 (5, [l0, some (.int x)], [.int x], h) Q := t_iload_n k_43_4 rfl
theorem k_43_5 : lk 43 5 = some (.aload_n 0, 6, 0, 0, .null) := by decide +kernel
theorem x_43_5 : Tr sc d 43 (5, [some (.ref xk), l1], [.int i0], h) Q = Tr sc d 43 (6, [some (.ref xk), l1], [.ref xk, .int i0], h) Q := t_aload_n k_43_5 rfl
theorem k_43_6 : lk 43 6 = some (.getfield 9, 9, 5, 1, .int 0) := by decide +kernel
theorem x_43_6 : Tr sc d 43 (6, [l0, l1], [.ref k1, .int i0], h) Q = (okp h k1 5 = true ∧ Tr sc d 43 (9, [l0, l1], [.int (hI h k1 1), .int i0], h) Q) := t_gd k_43_6 rfl
theorem k_43_9 : lk 43 9 = some (.if_icmp .ge 7, 12, 16, 0, .null) := by decide +kernel
theorem x_43_9 : Tr sc d 43 (9, [l0, l1], [.int i1, .int i0], h) Q = if i1 ≤ i0 then Tr sc d 43 (16, [l0, l1], [], h) Q else Tr sc d 43 (12, [l0, l1], [], h) Q := t_if k_43_9 rfl
theorem k_43_12 : lk 43 12 = some (.iconst 1, 13, 0, 0, .int 1) := by decide +kernel
theorem x_43_12 : Tr sc d 43 (12, [l0, l1], [], h) Q = Tr sc d 43 (13, [l0, l1], [.int 1], h) Q := t_go k_43_12 rfl
theorem k_43_13 : lk 43 13 = some (.goto 4, 16, 17, 0, .null) := by decide +kernel
theorem x_43_13 : Tr sc d 43 (13, [l0, l1], [.int i0], h) Q = Tr sc d 43 (17, [l0, l1], [.int i0], h) Q := t_go k_43_13 rfl
theorem k_43_16 : lk 43 16 = some (.iconst 0, 17, 0, 0, .int 0) := by decide +kernel
theorem x_43_16 : Tr sc d 43 (16, [l0, l1], [], h) Q = Tr sc d 43 (17, [l0, l1], [.int 0], h) Q := t_go k_43_16 rfl
theorem k_43_17 : lk 43 17 = some (.ireturn, 18, 0, 0, .null) := by decide +kernel
theorem x_43_17 : Tr sc d 43 (17, [l0, l1], [.int i0], h) Q = (vp_nar .boolean i0 = i0 ∧ Q (some (.int i0), h)) := t_zret k_43_17 r_43
theorem e_43 : Tr sc d 43 (ent0 43 [.ref k0, .int i1] h) Q = Tr sc d 43 (0, [some (.ref k0), some (.int i1)], [], h) Q := by
  have e : mL 43 = 2 := by decide +kernel
  unfold ent0
  rw [e]
  rfl
theorem r_44 : mR 44 = some .boolean := by decide +kernel
theorem k_44_0 : lk 44 0 = some (.iload_n 1, 1, 1, 0, .null) := by decide +kernel
theorem x_44_0 : Tr sc d 44 (0, [l0, some (.int x), l2], [], h) Q = Tr sc d 44 (1, [l0, some (.int x), l2], [.int x], h) Q := t_iload_n k_44_0 rfl
theorem k_44_1 : lk 44 1 = some (.ifCond .lt 25, 4, 26, 0, .null) := by decide +kernel
theorem x_44_1 : Tr sc d 44 (1, [l0, l1, l2], [.int i0], h) Q = if i0 < 0 then Tr sc d 44 (26, [l0, l1, l2], [], h) Q else Tr sc d 44 (4, [l0, l1, l2], [], h) Q := t_if k_44_1 rfl
theorem k_44_4 : lk 44 4 = some (.iload_n 1, 5, 1, 0, .null) := by decide +kernel
theorem x_44_4 : Tr sc d 44 (4, [l0, some (.int x), l2], [], h) Q = Tr sc d 44 (5, [l0, some (.int x), l2], [.int x], h) Q := t_iload_n k_44_4 rfl
theorem k_44_5 : lk 44 5 = some (.aload_n 0, 6, 0, 0, .null) := by decide +kernel
theorem x_44_5 : Tr sc d 44 (5, [some (.ref xk), l1, l2], [.int i0], h) Q = Tr sc d 44 (6, [some (.ref xk), l1, l2], [.ref xk, .int i0], h) Q := t_aload_n k_44_5 rfl
theorem k_44_6 : lk 44 6 = some (.getfield 9, 9, 5, 1, .int 0) := by decide +kernel
theorem x_44_6 : Tr sc d 44 (6, [l0, l1, l2], [.ref k1, .int i0], h) Q = (okp h k1 5 = true ∧ Tr sc d 44 (9, [l0, l1, l2], [.int (hI h k1 1), .int i0], h) Q) := t_gd k_44_6 rfl
theorem k_44_9 : lk 44 9 = some (.if_icmp .gt 17, 12, 26, 0, .null) := by decide +kernel
theorem x_44_9 : Tr sc d 44 (9, [l0, l1, l2], [.int i1, .int i0], h) Q = if i1 < i0 then Tr sc d 44 (26, [l0, l1, l2], [], h) Q else Tr sc d 44 (12, [l0, l1, l2], [], h) Q := t_if k_44_9 rfl
theorem k_44_12 : lk 44 12 = some (.iload_n 2, 13, 2, 0, .null) := by decide +kernel
theorem x_44_12 : Tr sc d 44 (12, [l0, l1, some (.int x)], [], h) Q = Tr sc d 44 (13, [l0, l1, some (.int x)], [.int x], h) Q := t_iload_n k_44_12 rfl
theorem k_44_13 : lk 44 13 = some (.aload_n 0, 14, 0, 0, .null) := by decide +kernel
theorem x_44_13 : Tr sc d 44 (13, [some (.ref xk), l1, l2], [.int i0], h) Q = Tr sc d 44 (14, [some (.ref xk), l1, l2], [.ref xk, .int i0], h) Q := t_aload_n k_44_13 rfl
theorem k_44_14 : lk 44 14 = some (.getfield 9, 17, 5, 1, .int 0) := by decide +kernel
theorem x_44_14 : Tr sc d 44 (14, [l0, l1, l2], [.ref k1, .int i0], h) Q = (okp h k1 5 = true ∧ Tr sc d 44 (17, [l0, l1, l2], [.int (hI h k1 1), .int i0], h) Q) := t_gd k_44_14 rfl
theorem k_44_17 : lk 44 17 = some (.iload_n 1, 18, 1, 0, .null) := by decide +kernel
theorem x_44_17 : Tr sc d 44 (17, [l0, some (.int x), l2], [.int i1, .int i0], h) Q = Tr sc d 44 (18, [l0, some (.int x), l2], [.int x, .int i1, .int i0], h) Q := t_iload_n k_44_17 rfl
theorem k_44_18 : lk 44 18 = some (.isub, 19, 0, 0, .null) := by decide +kernel
theorem x_44_18 : Tr sc d 44 (18, [l0, l1, l2], [.int i2, .int i1, .int i0], h) Q = Tr sc d 44 (19, [l0, l1, l2], [.int (i1 - i2), .int i0], h) Q := t_go k_44_18 rfl
theorem k_44_19 : lk 44 19 = some (.if_icmp .gt 7, 22, 26, 0, .null) := by decide +kernel
theorem x_44_19 : Tr sc d 44 (19, [l0, l1, l2], [.int i1, .int i0], h) Q = if i1 < i0 then Tr sc d 44 (26, [l0, l1, l2], [], h) Q else Tr sc d 44 (22, [l0, l1, l2], [], h) Q := t_if k_44_19 rfl
theorem k_44_22 : lk 44 22 = some (.iconst 1, 23, 0, 0, .int 1) := by decide +kernel
theorem x_44_22 : Tr sc d 44 (22, [l0, l1, l2], [], h) Q = Tr sc d 44 (23, [l0, l1, l2], [.int 1], h) Q := t_go k_44_22 rfl
theorem k_44_23 : lk 44 23 = some (.goto 4, 26, 27, 0, .null) := by decide +kernel
theorem x_44_23 : Tr sc d 44 (23, [l0, l1, l2], [.int i0], h) Q = Tr sc d 44 (27, [l0, l1, l2], [.int i0], h) Q := t_go k_44_23 rfl
theorem k_44_26 : lk 44 26 = some (.iconst 0, 27, 0, 0, .int 0) := by decide +kernel
theorem x_44_26 : Tr sc d 44 (26, [l0, l1, l2], [], h) Q = Tr sc d 44 (27, [l0, l1, l2], [.int 0], h) Q := t_go k_44_26 rfl
theorem k_44_27 : lk 44 27 = some (.ireturn, 28, 0, 0, .null) := by decide +kernel
theorem x_44_27 : Tr sc d 44 (27, [l0, l1, l2], [.int i0], h) Q = (vp_nar .boolean i0 = i0 ∧ Q (some (.int i0), h)) := t_zret k_44_27 r_44
theorem e_44 : Tr sc d 44 (ent0 44 [.ref k0, .int i1, .int i2] h) Q = Tr sc d 44 (0, [some (.ref k0), some (.int i1), some (.int i2)], [], h) Q := by
  have e : mL 44 = 3 := by decide +kernel
  unfold ent0
  rw [e]
  rfl
theorem r_45 : mR 45 = some .long := by decide +kernel
theorem k_45_0 : lk 45 0 = some (.lconst 0, 1, 0, 0, .long 0) := by decide +kernel
theorem x_45_0 : Tr sc d 45 (0, [l0, l1, l2, l3], [], h) Q = Tr sc d 45 (1, [l0, l1, l2, l3], [.long 0], h) Q := t_go k_45_0 rfl
theorem k_45_1 : lk 45 1 = some (.lstore_n 1, 2, 1, 0, .null) := by decide +kernel
theorem x_45_1 : Tr sc d 45 (1, [l0, l1, l2, l3], [.long j0], h) Q = Tr sc d 45 (2, [cl2 l0, some (.long j0), none, l3], [], h) Q := t_lstore_n k_45_1 (Nat.le_of_ble_eq_true rfl)
theorem k_45_2 : lk 45 2 = some (.iconst 0, 3, 0, 0, .int 0) := by decide +kernel
theorem x_45_2 : Tr sc d 45 (2, [l0, l1, l2, l3], [], h) Q = Tr sc d 45 (3, [l0, l1, l2, l3], [.int 0], h) Q := t_go k_45_2 rfl
theorem k_45_3 : lk 45 3 = some (.istore_n 3, 4, 3, 0, .null) := by decide +kernel
theorem x_45_3 : Tr sc d 45 (3, [l0, l1, l2, l3], [.int i0], h) Q = Tr sc d 45 (4, [l0, l1, cl2 l2, some (.int i0)], [], h) Q := t_istore_n k_45_3 (Nat.le_of_ble_eq_true rfl)
theorem k_45_4 : lk 45 4 = some (.iload_n 3, 5, 3, 0, .null) := by decide +kernel
theorem x_45_4 : Tr sc d 45 (4, [l0, l1, l2, some (.int x)], [], h) Q = Tr sc d 45 (5, [l0, l1, l2, some (.int x)], [.int x], h) Q := t_iload_n k_45_4 rfl
theorem k_45_5 : lk 45 5 = some (.aload_n 0, 6, 0, 0, .null) := by decide +kernel
theorem x_45_5 : Tr sc d 45 (5, [some (.ref xk), l1, l2, l3], [.int i0], h) Q = Tr sc d 45 (6, [some (.ref xk), l1, l2, l3], [.ref xk, .int i0], h) Q := t_aload_n k_45_5 rfl
theorem k_45_6 : lk 45 6 = some (.getfield 9, 9, 5, 1, .int 0) := by decide +kernel
theorem x_45_6 : Tr sc d 45 (6, [l0, l1, l2, l3], [.ref k1, .int i0], h) Q = (okp h k1 5 = true ∧ Tr sc d 45 (9, [l0, l1, l2, l3], [.int (hI h k1 1), .int i0], h) Q) := t_gd k_45_6 rfl
theorem k_45_9 : lk 45 9 = some (.if_icmp .ge 19, 12, 28, 0, .null) := by decide +kernel
theorem x_45_9 : Tr sc d 45 (9, [l0, l1, l2, l3], [.int i1, .int i0], h) Q = if i1 ≤ i0 then Tr sc d 45 (28, [l0, l1, l2, l3], [], h) Q else Tr sc d 45 (12, [l0, l1, l2, l3], [], h) Q := t_if k_45_9 rfl
theorem k_45_12 : lk 45 12 = some (.lload_n 1, 13, 1, 0, .null) := by decide +kernel
theorem x_45_12 : Tr sc d 45 (12, [l0, some (.long xl), l2, l3], [], h) Q = Tr sc d 45 (13, [l0, some (.long xl), l2, l3], [.long xl], h) Q := t_lload_n k_45_12 rfl
theorem k_45_13 : lk 45 13 = some (.aload_n 0, 14, 0, 0, .null) := by decide +kernel
theorem x_45_13 : Tr sc d 45 (13, [some (.ref xk), l1, l2, l3], [.long j0], h) Q = Tr sc d 45 (14, [some (.ref xk), l1, l2, l3], [.ref xk, .long j0], h) Q := t_aload_n k_45_13 rfl
theorem k_45_14 : lk 45 14 = some (.getfield 15, 17, 5, 0, .null) := by decide +kernel
theorem x_45_14 : Tr sc d 45 (14, [l0, l1, l2, l3], [.ref k1, .long j0], h) Q = (okp h k1 5 = true ∧ ∃ q, hR h k1 0 = some q ∧ Tr sc d 45 (17, [l0, l1, l2, l3], [.ref q, .long j0], h) Q) := t_getr k_45_14
theorem k_45_17 : lk 45 17 = some (.iload_n 3, 18, 3, 0, .null) := by decide +kernel
theorem x_45_17 : Tr sc d 45 (17, [l0, l1, l2, some (.int x)], [.ref k1, .long j0], h) Q = Tr sc d 45 (18, [l0, l1, l2, some (.int x)], [.int x, .ref k1, .long j0], h) Q := t_iload_n k_45_17 rfl
theorem k_45_18 : lk 45 18 = some (.iaload, 19, 0, 0, .null) := by decide +kernel
theorem x_45_18 : Tr sc d 45 (18, [l0, l1, l2, l3], [.int i2, .ref k1, .long j0], h) Q = (iOk sc h k1 i2 ∧ Tr sc d 45 (19, [l0, l1, l2, l3], [.int (iRd sc h k1 i2), .long j0], h) Q) := t_iald k_45_18
theorem k_45_19 : lk 45 19 = some (.i2l, 20, 0, 0, .null) := by decide +kernel
theorem x_45_19 : Tr sc d 45 (19, [l0, l1, l2, l3], [.int i1, .long j0], h) Q = Tr sc d 45 (20, [l0, l1, l2, l3], [.long i1.toInt64, .long j0], h) Q := t_go k_45_19 rfl
theorem k_45_20 : lk 45 20 = some (.ladd, 21, 0, 0, .null) := by decide +kernel
theorem x_45_20 : Tr sc d 45 (20, [l0, l1, l2, l3], [.long j1, .long j0], h) Q = Tr sc d 45 (21, [l0, l1, l2, l3], [.long (j0 + j1)], h) Q := t_go k_45_20 rfl
theorem k_45_21 : lk 45 21 = some (.lstore_n 1, 22, 1, 0, .null) := by decide +kernel
theorem x_45_21 : Tr sc d 45 (21, [l0, l1, l2, l3], [.long j0], h) Q = Tr sc d 45 (22, [cl2 l0, some (.long j0), none, l3], [], h) Q := t_lstore_n k_45_21 (Nat.le_of_ble_eq_true rfl)
theorem k_45_22 : lk 45 22 = some (.iinc 3 1, 25, 3, 0, .int 1) := by decide +kernel
theorem x_45_22 : Tr sc d 45 (22, [l0, l1, l2, some (.int x)], [], h) Q = Tr sc d 45 (25, [l0, l1, cl2 l2, some (.int (x + 1))], [], h) Q := t_inc k_45_22 rfl (Nat.le_of_ble_eq_true rfl)
theorem k_45_25 : lk 45 25 = some (.goto (-21), 28, 4, 0, .null) := by decide +kernel
theorem x_45_25 : Tr sc d 45 (25, [l0, l1, l2, l3], [], h) Q = Tr sc d 45 (4, [l0, l1, l2, l3], [], h) Q := t_go k_45_25 rfl
theorem k_45_28 : lk 45 28 = some (.lload_n 1, 29, 1, 0, .null) := by decide +kernel
theorem x_45_28 : Tr sc d 45 (28, [l0, some (.long xl), l2, l3], [], h) Q = Tr sc d 45 (29, [l0, some (.long xl), l2, l3], [.long xl], h) Q := t_lload_n k_45_28 rfl
theorem k_45_29 : lk 45 29 = some (.lreturn, 30, 0, 0, .null) := by decide +kernel
theorem x_45_29 : Tr sc d 45 (29, [l0, l1, l2, l3], [.long j0], h) Q = Q (some (.long j0), h) := t_ret k_45_29 (by rw [r_45]; rfl)
theorem e_45 : Tr sc d 45 (ent0 45 [.ref k0] h) Q = Tr sc d 45 (0, [some (.ref k0), none, none, none], [], h) Q := by
  have e : mL 45 = 4 := by decide +kernel
  unfold ent0
  rw [e]
  rfl
theorem r_46 : mR 46 = some .long := by decide +kernel
theorem k_46_0 : lk 46 0 = some (.ldc2_w 25, 3, 0, 1172, .long 31) := by decide +kernel
theorem x_46_0 : Tr sc d 46 (0, [l0, l1, l2, l3], [], h) Q = Tr sc d 46 (3, [l0, l1, l2, l3], [.long 31], h) Q := t_go k_46_0 rfl
theorem k_46_3 : lk 46 3 = some (.lload_n 1, 4, 1, 0, .null) := by decide +kernel
theorem x_46_3 : Tr sc d 46 (3, [l0, some (.long xl), l2, l3], [.long j0], h) Q = Tr sc d 46 (4, [l0, some (.long xl), l2, l3], [.long xl, .long j0], h) Q := t_lload_n k_46_3 rfl
theorem k_46_4 : lk 46 4 = some (.lmul, 5, 0, 0, .null) := by decide +kernel
theorem x_46_4 : Tr sc d 46 (4, [l0, l1, l2, l3], [.long j1, .long j0], h) Q = Tr sc d 46 (5, [l0, l1, l2, l3], [.long (j0 * j1)], h) Q := t_go k_46_4 rfl
theorem k_46_5 : lk 46 5 = some (.aload_n 0, 6, 0, 0, .null) := by decide +kernel
theorem x_46_5 : Tr sc d 46 (5, [some (.ref xk), l1, l2, l3], [.long j0], h) Q = Tr sc d 46 (6, [some (.ref xk), l1, l2, l3], [.ref xk, .long j0], h) Q := t_aload_n k_46_5 rfl
theorem k_46_6 : lk 46 6 = some (.getfield 9, 9, 5, 1, .int 0) := by decide +kernel
theorem x_46_6 : Tr sc d 46 (6, [l0, l1, l2, l3], [.ref k1, .long j0], h) Q = (okp h k1 5 = true ∧ Tr sc d 46 (9, [l0, l1, l2, l3], [.int (hI h k1 1), .long j0], h) Q) := t_gd k_46_6 rfl
theorem k_46_9 : lk 46 9 = some (.i2l, 10, 0, 0, .null) := by decide +kernel
theorem x_46_9 : Tr sc d 46 (9, [l0, l1, l2, l3], [.int i1, .long j0], h) Q = Tr sc d 46 (10, [l0, l1, l2, l3], [.long i1.toInt64, .long j0], h) Q := t_go k_46_9 rfl
theorem k_46_10 : lk 46 10 = some (.ladd, 11, 0, 0, .null) := by decide +kernel
theorem x_46_10 : Tr sc d 46 (10, [l0, l1, l2, l3], [.long j1, .long j0], h) Q = Tr sc d 46 (11, [l0, l1, l2, l3], [.long (j0 + j1)], h) Q := t_go k_46_10 rfl
theorem k_46_11 : lk 46 11 = some (.lstore_n 1, 12, 1, 0, .null) := by decide +kernel
theorem x_46_11 : Tr sc d 46 (11, [l0, l1, l2, l3], [.long j0], h) Q = Tr sc d 46 (12, [cl2 l0, some (.long j0), none, l3], [], h) Q := t_lstore_n k_46_11 (Nat.le_of_ble_eq_true rfl)
theorem k_46_12 : lk 46 12 = some (.iconst 0, 13, 0, 0, .int 0) := by decide +kernel
theorem x_46_12 : Tr sc d 46 (12, [l0, l1, l2, l3], [], h) Q = Tr sc d 46 (13, [l0, l1, l2, l3], [.int 0], h) Q := t_go k_46_12 rfl
theorem k_46_13 : lk 46 13 = some (.istore_n 3, 14, 3, 0, .null) := by decide +kernel
theorem x_46_13 : Tr sc d 46 (13, [l0, l1, l2, l3], [.int i0], h) Q = Tr sc d 46 (14, [l0, l1, cl2 l2, some (.int i0)], [], h) Q := t_istore_n k_46_13 (Nat.le_of_ble_eq_true rfl)
theorem k_46_14 : lk 46 14 = some (.iload_n 3, 15, 3, 0, .null) := by decide +kernel
theorem x_46_14 : Tr sc d 46 (14, [l0, l1, l2, some (.int x)], [], h) Q = Tr sc d 46 (15, [l0, l1, l2, some (.int x)], [.int x], h) Q := t_iload_n k_46_14 rfl
theorem k_46_15 : lk 46 15 = some (.aload_n 0, 16, 0, 0, .null) := by decide +kernel
theorem x_46_15 : Tr sc d 46 (15, [some (.ref xk), l1, l2, l3], [.int i0], h) Q = Tr sc d 46 (16, [some (.ref xk), l1, l2, l3], [.ref xk, .int i0], h) Q := t_aload_n k_46_15 rfl
theorem k_46_16 : lk 46 16 = some (.getfield 9, 19, 5, 1, .int 0) := by decide +kernel
theorem x_46_16 : Tr sc d 46 (16, [l0, l1, l2, l3], [.ref k1, .int i0], h) Q = (okp h k1 5 = true ∧ Tr sc d 46 (19, [l0, l1, l2, l3], [.int (hI h k1 1), .int i0], h) Q) := t_gd k_46_16 rfl
theorem k_46_19 : lk 46 19 = some (.if_icmp .ge 23, 22, 42, 0, .null) := by decide +kernel
theorem x_46_19 : Tr sc d 46 (19, [l0, l1, l2, l3], [.int i1, .int i0], h) Q = if i1 ≤ i0 then Tr sc d 46 (42, [l0, l1, l2, l3], [], h) Q else Tr sc d 46 (22, [l0, l1, l2, l3], [], h) Q := t_if k_46_19 rfl
theorem k_46_22 : lk 46 22 = some (.ldc2_w 25, 25, 0, 1172, .long 31) := by decide +kernel
theorem x_46_22 : Tr sc d 46 (22, [l0, l1, l2, l3], [], h) Q = Tr sc d 46 (25, [l0, l1, l2, l3], [.long 31], h) Q := t_go k_46_22 rfl
theorem k_46_25 : lk 46 25 = some (.lload_n 1, 26, 1, 0, .null) := by decide +kernel
theorem x_46_25 : Tr sc d 46 (25, [l0, some (.long xl), l2, l3], [.long j0], h) Q = Tr sc d 46 (26, [l0, some (.long xl), l2, l3], [.long xl, .long j0], h) Q := t_lload_n k_46_25 rfl
theorem k_46_26 : lk 46 26 = some (.lmul, 27, 0, 0, .null) := by decide +kernel
theorem x_46_26 : Tr sc d 46 (26, [l0, l1, l2, l3], [.long j1, .long j0], h) Q = Tr sc d 46 (27, [l0, l1, l2, l3], [.long (j0 * j1)], h) Q := t_go k_46_26 rfl
theorem k_46_27 : lk 46 27 = some (.aload_n 0, 28, 0, 0, .null) := by decide +kernel
theorem x_46_27 : Tr sc d 46 (27, [some (.ref xk), l1, l2, l3], [.long j0], h) Q = Tr sc d 46 (28, [some (.ref xk), l1, l2, l3], [.ref xk, .long j0], h) Q := t_aload_n k_46_27 rfl
theorem k_46_28 : lk 46 28 = some (.getfield 15, 31, 5, 0, .null) := by decide +kernel
theorem x_46_28 : Tr sc d 46 (28, [l0, l1, l2, l3], [.ref k1, .long j0], h) Q = (okp h k1 5 = true ∧ ∃ q, hR h k1 0 = some q ∧ Tr sc d 46 (31, [l0, l1, l2, l3], [.ref q, .long j0], h) Q) := t_getr k_46_28
theorem k_46_31 : lk 46 31 = some (.iload_n 3, 32, 3, 0, .null) := by decide +kernel
theorem x_46_31 : Tr sc d 46 (31, [l0, l1, l2, some (.int x)], [.ref k1, .long j0], h) Q = Tr sc d 46 (32, [l0, l1, l2, some (.int x)], [.int x, .ref k1, .long j0], h) Q := t_iload_n k_46_31 rfl
theorem k_46_32 : lk 46 32 = some (.iaload, 33, 0, 0, .null) := by decide +kernel
theorem x_46_32 : Tr sc d 46 (32, [l0, l1, l2, l3], [.int i2, .ref k1, .long j0], h) Q = (iOk sc h k1 i2 ∧ Tr sc d 46 (33, [l0, l1, l2, l3], [.int (iRd sc h k1 i2), .long j0], h) Q) := t_iald k_46_32
theorem k_46_33 : lk 46 33 = some (.i2l, 34, 0, 0, .null) := by decide +kernel
theorem x_46_33 : Tr sc d 46 (33, [l0, l1, l2, l3], [.int i1, .long j0], h) Q = Tr sc d 46 (34, [l0, l1, l2, l3], [.long i1.toInt64, .long j0], h) Q := t_go k_46_33 rfl
theorem k_46_34 : lk 46 34 = some (.ladd, 35, 0, 0, .null) := by decide +kernel
theorem x_46_34 : Tr sc d 46 (34, [l0, l1, l2, l3], [.long j1, .long j0], h) Q = Tr sc d 46 (35, [l0, l1, l2, l3], [.long (j0 + j1)], h) Q := t_go k_46_34 rfl
theorem k_46_35 : lk 46 35 = some (.lstore_n 1, 36, 1, 0, .null) := by decide +kernel
theorem x_46_35 : Tr sc d 46 (35, [l0, l1, l2, l3], [.long j0], h) Q = Tr sc d 46 (36, [cl2 l0, some (.long j0), none, l3], [], h) Q := t_lstore_n k_46_35 (Nat.le_of_ble_eq_true rfl)
theorem k_46_36 : lk 46 36 = some (.iinc 3 1, 39, 3, 0, .int 1) := by decide +kernel
theorem x_46_36 : Tr sc d 46 (36, [l0, l1, l2, some (.int x)], [], h) Q = Tr sc d 46 (39, [l0, l1, cl2 l2, some (.int (x + 1))], [], h) Q := t_inc k_46_36 rfl (Nat.le_of_ble_eq_true rfl)
theorem k_46_39 : lk 46 39 = some (.goto (-25), 42, 14, 0, .null) := by decide +kernel
theorem x_46_39 : Tr sc d 46 (39, [l0, l1, l2, l3], [], h) Q = Tr sc d 46 (14, [l0, l1, l2, l3], [], h) Q := t_go k_46_39 rfl
theorem k_46_42 : lk 46 42 = some (.lload_n 1, 43, 1, 0, .null) := by decide +kernel
theorem x_46_42 : Tr sc d 46 (42, [l0, some (.long xl), l2, l3], [], h) Q = Tr sc d 46 (43, [l0, some (.long xl), l2, l3], [.long xl], h) Q := t_lload_n k_46_42 rfl
theorem k_46_43 : lk 46 43 = some (.lreturn, 44, 0, 0, .null) := by decide +kernel
theorem x_46_43 : Tr sc d 46 (43, [l0, l1, l2, l3], [.long j0], h) Q = Q (some (.long j0), h) := t_ret k_46_43 (by rw [r_46]; rfl)
theorem e_46 : Tr sc d 46 (ent0 46 [.ref k0, .long j1] h) Q = Tr sc d 46 (0, [some (.ref k0), some (.long j1), none, none], [], h) Q := by
  have e : mL 46 = 4 := by decide +kernel
  unfold ent0
  rw [e]
  rfl
theorem r_47 : mR 47 = none := by decide +kernel
theorem k_47_0 : lk 47 0 = some (.aload_n 0, 1, 0, 0, .null) := by decide +kernel
theorem x_47_0 : Tr sc d 47 (0, [some (.ref xk)], [], h) Q = Tr sc d 47 (1, [some (.ref xk)], [.ref xk], h) Q := t_aload_n k_47_0 rfl
theorem k_47_1 : lk 47 1 = some (.invokespecial 3, 4, 9000, 0, .null) := by decide +kernel
theorem x_47_1 : Tr sc d 47 (1, [l0], [.ref k0], h) Q = Tr sc d 47 (4, [l0], [], h) Q := t_go k_47_1 rfl
theorem k_47_4 : lk 47 4 = some (.aload_n 0, 5, 0, 0, .null) := by decide +kernel
theorem x_47_4 : Tr sc d 47 (4, [some (.ref xk)], [], h) Q = Tr sc d 47 (5, [some (.ref xk)], [.ref xk], h) Q := t_aload_n k_47_4 rfl
theorem k_47_5 : lk 47 5 = some (.bipush 6, 7, 0, 0, .int 6) := by decide +kernel
theorem x_47_5 : Tr sc d 47 (5, [l0], [.ref k0], h) Q = Tr sc d 47 (7, [l0], [.int 6, .ref k0], h) Q := t_go k_47_5 rfl
theorem k_47_7 : lk 47 7 = some (.newarray .int, 9, 11, 0, .null) := by decide +kernel
theorem x_47_7 : Tr sc d 47 (7, [l0], [.int i1, .ref k0], h) Q = ((hN h < 1000 ∧ TG (hN h) = 11 ∧ (¬ i1 < 0) ∧ LN (hN h) = i1.toNatClampNeg ∧ LN (hN h) ≤ 60000) ∧ Tr sc d 47 (9, [l0], [.ref (hN h), .ref k0], nH h) Q) := t_gd k_47_7 rfl
theorem k_47_9 : lk 47 9 = some (.putfield 9, 12, 6, 0, .null) := by decide +kernel
theorem x_47_9 : Tr sc d 47 (9, [l0], [.ref k1, .ref k0], h) Q = (okp h k0 6 = true ∧ Tr sc d 47 (12, [l0], [], (sR h k0 0 (some k1))) Q) := t_gd k_47_9 rfl
theorem k_47_12 : lk 47 12 = some (.aload_n 0, 13, 0, 0, .null) := by decide +kernel
theorem x_47_12 : Tr sc d 47 (12, [some (.ref xk)], [], h) Q = Tr sc d 47 (13, [some (.ref xk)], [.ref xk], h) Q := t_aload_n k_47_12 rfl
theorem k_47_13 : lk 47 13 = some (.bipush 6, 15, 0, 0, .int 6) := by decide +kernel
theorem x_47_13 : Tr sc d 47 (13, [l0], [.ref k0], h) Q = Tr sc d 47 (15, [l0], [.int 6, .ref k0], h) Q := t_go k_47_13 rfl
theorem k_47_15 : lk 47 15 = some (.newarray .int, 17, 11, 0, .null) := by decide +kernel
theorem x_47_15 : Tr sc d 47 (15, [l0], [.int i1, .ref k0], h) Q = ((hN h < 1000 ∧ TG (hN h) = 11 ∧ (¬ i1 < 0) ∧ LN (hN h) = i1.toNatClampNeg ∧ LN (hN h) ≤ 60000) ∧ Tr sc d 47 (17, [l0], [.ref (hN h), .ref k0], nH h) Q) := t_gd k_47_15 rfl
theorem k_47_17 : lk 47 17 = some (.putfield 15, 20, 6, 1, .null) := by decide +kernel
theorem x_47_17 : Tr sc d 47 (17, [l0], [.ref k1, .ref k0], h) Q = (okp h k0 6 = true ∧ Tr sc d 47 (20, [l0], [], (sR h k0 1 (some k1))) Q) := t_gd k_47_17 rfl
theorem k_47_20 : lk 47 20 = some (.aload_n 0, 21, 0, 0, .null) := by decide +kernel
theorem x_47_20 : Tr sc d 47 (20, [some (.ref xk)], [], h) Q = Tr sc d 47 (21, [some (.ref xk)], [.ref xk], h) Q := t_aload_n k_47_20 rfl
theorem k_47_21 : lk 47 21 = some (.bipush 6, 23, 0, 0, .int 6) := by decide +kernel
theorem x_47_21 : Tr sc d 47 (21, [l0], [.ref k0], h) Q = Tr sc d 47 (23, [l0], [.int 6, .ref k0], h) Q := t_go k_47_21 rfl
theorem k_47_23 : lk 47 23 = some (.newarray .int, 25, 11, 0, .null) := by decide +kernel
theorem x_47_23 : Tr sc d 47 (23, [l0], [.int i1, .ref k0], h) Q = ((hN h < 1000 ∧ TG (hN h) = 11 ∧ (¬ i1 < 0) ∧ LN (hN h) = i1.toNatClampNeg ∧ LN (hN h) ≤ 60000) ∧ Tr sc d 47 (25, [l0], [.ref (hN h), .ref k0], nH h) Q) := t_gd k_47_23 rfl
theorem k_47_25 : lk 47 25 = some (.putfield 18, 28, 6, 2, .null) := by decide +kernel
theorem x_47_25 : Tr sc d 47 (25, [l0], [.ref k1, .ref k0], h) Q = (okp h k0 6 = true ∧ Tr sc d 47 (28, [l0], [], (sR h k0 2 (some k1))) Q) := t_gd k_47_25 rfl
theorem k_47_28 : lk 47 28 = some (.aload_n 0, 29, 0, 0, .null) := by decide +kernel
theorem x_47_28 : Tr sc d 47 (28, [some (.ref xk)], [], h) Q = Tr sc d 47 (29, [some (.ref xk)], [.ref xk], h) Q := t_aload_n k_47_28 rfl
theorem k_47_29 : lk 47 29 = some (.bipush 6, 31, 0, 0, .int 6) := by decide +kernel
theorem x_47_29 : Tr sc d 47 (29, [l0], [.ref k0], h) Q = Tr sc d 47 (31, [l0], [.int 6, .ref k0], h) Q := t_go k_47_29 rfl
theorem k_47_31 : lk 47 31 = some (.newarray .int, 33, 11, 0, .null) := by decide +kernel
theorem x_47_31 : Tr sc d 47 (31, [l0], [.int i1, .ref k0], h) Q = ((hN h < 1000 ∧ TG (hN h) = 11 ∧ (¬ i1 < 0) ∧ LN (hN h) = i1.toNatClampNeg ∧ LN (hN h) ≤ 60000) ∧ Tr sc d 47 (33, [l0], [.ref (hN h), .ref k0], nH h) Q) := t_gd k_47_31 rfl
theorem k_47_33 : lk 47 33 = some (.putfield 21, 36, 6, 3, .null) := by decide +kernel
theorem x_47_33 : Tr sc d 47 (33, [l0], [.ref k1, .ref k0], h) Q = (okp h k0 6 = true ∧ Tr sc d 47 (36, [l0], [], (sR h k0 3 (some k1))) Q) := t_gd k_47_33 rfl
theorem k_47_36 : lk 47 36 = some (.aload_n 0, 37, 0, 0, .null) := by decide +kernel
theorem x_47_36 : Tr sc d 47 (36, [some (.ref xk)], [], h) Q = Tr sc d 47 (37, [some (.ref xk)], [.ref xk], h) Q := t_aload_n k_47_36 rfl
theorem k_47_37 : lk 47 37 = some (.bipush 6, 39, 0, 0, .int 6) := by decide +kernel
theorem x_47_37 : Tr sc d 47 (37, [l0], [.ref k0], h) Q = Tr sc d 47 (39, [l0], [.int 6, .ref k0], h) Q := t_go k_47_37 rfl
theorem k_47_39 : lk 47 39 = some (.newarray .long, 41, 12, 0, .null) := by decide +kernel
theorem x_47_39 : Tr sc d 47 (39, [l0], [.int i1, .ref k0], h) Q = ((hN h < 1000 ∧ TG (hN h) = 12 ∧ (¬ i1 < 0) ∧ LN (hN h) = i1.toNatClampNeg ∧ LN (hN h) ≤ 60000) ∧ Tr sc d 47 (41, [l0], [.ref (hN h), .ref k0], nH h) Q) := t_gd k_47_39 rfl
theorem k_47_41 : lk 47 41 = some (.putfield 24, 44, 6, 4, .null) := by decide +kernel
theorem x_47_41 : Tr sc d 47 (41, [l0], [.ref k1, .ref k0], h) Q = (okp h k0 6 = true ∧ Tr sc d 47 (44, [l0], [], (sR h k0 4 (some k1))) Q) := t_gd k_47_41 rfl
theorem k_47_44 : lk 47 44 = some (.aload_n 0, 45, 0, 0, .null) := by decide +kernel
theorem x_47_44 : Tr sc d 47 (44, [some (.ref xk)], [], h) Q = Tr sc d 47 (45, [some (.ref xk)], [.ref xk], h) Q := t_aload_n k_47_44 rfl
theorem k_47_45 : lk 47 45 = some (.bipush 6, 47, 0, 0, .int 6) := by decide +kernel
theorem x_47_45 : Tr sc d 47 (45, [l0], [.ref k0], h) Q = Tr sc d 47 (47, [l0], [.int 6, .ref k0], h) Q := t_go k_47_45 rfl
theorem k_47_47 : lk 47 47 = some (.newarray .long, 49, 12, 0, .null) := by decide +kernel
theorem x_47_47 : Tr sc d 47 (47, [l0], [.int i1, .ref k0], h) Q = ((hN h < 1000 ∧ TG (hN h) = 12 ∧ (¬ i1 < 0) ∧ LN (hN h) = i1.toNatClampNeg ∧ LN (hN h) ≤ 60000) ∧ Tr sc d 47 (49, [l0], [.ref (hN h), .ref k0], nH h) Q) := t_gd k_47_47 rfl
theorem k_47_49 : lk 47 49 = some (.putfield 28, 52, 6, 5, .null) := by decide +kernel
theorem x_47_49 : Tr sc d 47 (49, [l0], [.ref k1, .ref k0], h) Q = (okp h k0 6 = true ∧ Tr sc d 47 (52, [l0], [], (sR h k0 5 (some k1))) Q) := t_gd k_47_49 rfl
theorem k_47_52 : lk 47 52 = some (.aload_n 0, 53, 0, 0, .null) := by decide +kernel
theorem x_47_52 : Tr sc d 47 (52, [some (.ref xk)], [], h) Q = Tr sc d 47 (53, [some (.ref xk)], [.ref xk], h) Q := t_aload_n k_47_52 rfl
theorem k_47_53 : lk 47 53 = some (.iconst (-1), 54, 0, 0, .int (-1)) := by decide +kernel
theorem x_47_53 : Tr sc d 47 (53, [l0], [.ref k0], h) Q = Tr sc d 47 (54, [l0], [.int (-1), .ref k0], h) Q := t_go k_47_53 rfl
theorem k_47_54 : lk 47 54 = some (.putfield 31, 57, 6, 6, .int 0) := by decide +kernel
theorem x_47_54 : Tr sc d 47 (54, [l0], [.int i1, .ref k0], h) Q = (okp h k0 6 = true ∧ Tr sc d 47 (57, [l0], [], (sI h k0 6 i1)) Q) := t_gd k_47_54 rfl
theorem k_47_57 : lk 47 57 = some (.aload_n 0, 58, 0, 0, .null) := by decide +kernel
theorem x_47_57 : Tr sc d 47 (57, [some (.ref xk)], [], h) Q = Tr sc d 47 (58, [some (.ref xk)], [.ref xk], h) Q := t_aload_n k_47_57 rfl
theorem k_47_58 : lk 47 58 = some (.iconst 2, 59, 0, 0, .int 2) := by decide +kernel
theorem x_47_58 : Tr sc d 47 (58, [l0], [.ref k0], h) Q = Tr sc d 47 (59, [l0], [.int 2, .ref k0], h) Q := t_go k_47_58 rfl
theorem k_47_59 : lk 47 59 = some (.putfield 35, 62, 6, 7, .int 0) := by decide +kernel
theorem x_47_59 : Tr sc d 47 (59, [l0], [.int i1, .ref k0], h) Q = (okp h k0 6 = true ∧ Tr sc d 47 (62, [l0], [], (sI h k0 7 i1)) Q) := t_gd k_47_59 rfl
theorem k_47_62 : lk 47 62 = some (.aload_n 0, 63, 0, 0, .null) := by decide +kernel
theorem x_47_62 : Tr sc d 47 (62, [some (.ref xk)], [], h) Q = Tr sc d 47 (63, [some (.ref xk)], [.ref xk], h) Q := t_aload_n k_47_62 rfl
theorem k_47_63 : lk 47 63 = some (.iconst 0, 64, 0, 0, .int 0) := by decide +kernel
theorem x_47_63 : Tr sc d 47 (63, [l0], [.ref k0], h) Q = Tr sc d 47 (64, [l0], [.int 0, .ref k0], h) Q := t_go k_47_63 rfl
theorem k_47_64 : lk 47 64 = some (.putfield 38, 67, 6, 8, .int 0) := by decide +kernel
theorem x_47_64 : Tr sc d 47 (64, [l0], [.int i1, .ref k0], h) Q = (okp h k0 6 = true ∧ Tr sc d 47 (67, [l0], [], (sI h k0 8 i1)) Q) := t_gd k_47_64 rfl
theorem k_47_67 : lk 47 67 = some (.return_, 68, 0, 0, .null) := by decide +kernel
theorem x_47_67 : Tr sc d 47 (67, [l0], [], h) Q = Q (none, h) := t_ret k_47_67 (by rw [r_47]; rfl)
theorem e_47 : Tr sc d 47 (ent0 47 [.ref k0] h) Q = Tr sc d 47 (0, [some (.ref k0)], [], h) Q := by
  have e : mL 47 = 1 := by decide +kernel
  unfold ent0
  rw [e]
  rfl
theorem r_48 : mR 48 = some .boolean := by decide +kernel
theorem k_48_0 : lk 48 0 = some (.aload_n 0, 1, 0, 0, .null) := by decide +kernel
theorem x_48_0 : Tr sc d 48 (0, [some (.ref xk)], [], h) Q = Tr sc d 48 (1, [some (.ref xk)], [.ref xk], h) Q := t_aload_n k_48_0 rfl
theorem k_48_1 : lk 48 1 = some (.getfield 31, 4, 6, 6, .int 0) := by decide +kernel
theorem x_48_1 : Tr sc d 48 (1, [l0], [.ref k0], h) Q = (okp h k0 6 = true ∧ Tr sc d 48 (4, [l0], [.int (hI h k0 6)], h) Q) := t_gd k_48_1 rfl
theorem k_48_4 : lk 48 4 = some (.iconst (-1), 5, 0, 0, .int (-1)) := by decide +kernel
theorem x_48_4 : Tr sc d 48 (4, [l0], [.int i0], h) Q = Tr sc d 48 (5, [l0], [.int (-1), .int i0], h) Q := t_go k_48_4 rfl
theorem k_48_5 : lk 48 5 = some (.if_icmp .ne 7, 8, 12, 0, .null) := by decide +kernel
theorem x_48_5 : Tr sc d 48 (5, [l0], [.int i1, .int i0], h) Q = if i0 = i1 then Tr sc d 48 (8, [l0], [], h) Q else Tr sc d 48 (12, [l0], [], h) Q := t_if k_48_5 rfl
theorem k_48_8 : lk 48 8 = some (.iconst 1, 9, 0, 0, .int 1) := by decide +kernel
theorem x_48_8 : Tr sc d 48 (8, [l0], [], h) Q = Tr sc d 48 (9, [l0], [.int 1], h) Q := t_go k_48_8 rfl
theorem k_48_9 : lk 48 9 = some (.goto 4, 12, 13, 0, .null) := by decide +kernel
theorem x_48_9 : Tr sc d 48 (9, [l0], [.int i0], h) Q = Tr sc d 48 (13, [l0], [.int i0], h) Q := t_go k_48_9 rfl
theorem k_48_12 : lk 48 12 = some (.iconst 0, 13, 0, 0, .int 0) := by decide +kernel
theorem x_48_12 : Tr sc d 48 (12, [l0], [], h) Q = Tr sc d 48 (13, [l0], [.int 0], h) Q := t_go k_48_12 rfl
theorem k_48_13 : lk 48 13 = some (.ireturn, 14, 0, 0, .null) := by decide +kernel
theorem x_48_13 : Tr sc d 48 (13, [l0], [.int i0], h) Q = (vp_nar .boolean i0 = i0 ∧ Q (some (.int i0), h)) := t_zret k_48_13 r_48
theorem e_48 : Tr sc d 48 (ent0 48 [.ref k0] h) Q = Tr sc d 48 (0, [some (.ref k0)], [], h) Q := by
  have e : mL 48 = 1 := by decide +kernel
  unfold ent0
  rw [e]
  rfl
theorem r_49 : mR 49 = some .boolean := by decide +kernel
theorem k_49_0 : lk 49 0 = some (.aload_n 0, 1, 0, 0, .null) := by decide +kernel
theorem x_49_0 : Tr sc d 49 (0, [some (.ref xk)], [], h) Q = Tr sc d 49 (1, [some (.ref xk)], [.ref xk], h) Q := t_aload_n k_49_0 rfl
theorem k_49_1 : lk 49 1 = some (.getfield 31, 4, 6, 6, .int 0) := by decide +kernel
theorem x_49_1 : Tr sc d 49 (1, [l0], [.ref k0], h) Q = (okp h k0 6 = true ∧ Tr sc d 49 (4, [l0], [.int (hI h k0 6)], h) Q) := t_gd k_49_1 rfl
theorem k_49_4 : lk 49 4 = some (.iconst 1, 5, 0, 0, .int 1) := by decide +kernel
theorem x_49_4 : Tr sc d 49 (4, [l0], [.int i0], h) Q = Tr sc d 49 (5, [l0], [.int 1, .int i0], h) Q := t_go k_49_4 rfl
theorem k_49_5 : lk 49 5 = some (.if_icmp .eq 11, 8, 16, 0, .null) := by decide +kernel
theorem x_49_5 : Tr sc d 49 (5, [l0], [.int i1, .int i0], h) Q = if i0 = i1 then Tr sc d 49 (16, [l0], [], h) Q else Tr sc d 49 (8, [l0], [], h) Q := t_if k_49_5 rfl
theorem k_49_8 : lk 49 8 = some (.aload_n 0, 9, 0, 0, .null) := by decide +kernel
theorem x_49_8 : Tr sc d 49 (8, [some (.ref xk)], [], h) Q = Tr sc d 49 (9, [some (.ref xk)], [.ref xk], h) Q := t_aload_n k_49_8 rfl
theorem k_49_9 : lk 49 9 = some (.getfield 31, 12, 6, 6, .int 0) := by decide +kernel
theorem x_49_9 : Tr sc d 49 (9, [l0], [.ref k0], h) Q = (okp h k0 6 = true ∧ Tr sc d 49 (12, [l0], [.int (hI h k0 6)], h) Q) := t_gd k_49_9 rfl
theorem k_49_12 : lk 49 12 = some (.iconst 2, 13, 0, 0, .int 2) := by decide +kernel
theorem x_49_12 : Tr sc d 49 (12, [l0], [.int i0], h) Q = Tr sc d 49 (13, [l0], [.int 2, .int i0], h) Q := t_go k_49_12 rfl
theorem k_49_13 : lk 49 13 = some (.if_icmp .ne 7, 16, 20, 0, .null) := by decide +kernel
theorem x_49_13 : Tr sc d 49 (13, [l0], [.int i1, .int i0], h) Q = if i0 = i1 then Tr sc d 49 (16, [l0], [], h) Q else Tr sc d 49 (20, [l0], [], h) Q := t_if k_49_13 rfl
theorem k_49_16 : lk 49 16 = some (.iconst 1, 17, 0, 0, .int 1) := by decide +kernel
theorem x_49_16 : Tr sc d 49 (16, [l0], [], h) Q = Tr sc d 49 (17, [l0], [.int 1], h) Q := t_go k_49_16 rfl
theorem k_49_17 : lk 49 17 = some (.goto 4, 20, 21, 0, .null) := by decide +kernel
theorem x_49_17 : Tr sc d 49 (17, [l0], [.int i0], h) Q = Tr sc d 49 (21, [l0], [.int i0], h) Q := t_go k_49_17 rfl
theorem k_49_20 : lk 49 20 = some (.iconst 0, 21, 0, 0, .int 0) := by decide +kernel
theorem x_49_20 : Tr sc d 49 (20, [l0], [], h) Q = Tr sc d 49 (21, [l0], [.int 0], h) Q := t_go k_49_20 rfl
theorem k_49_21 : lk 49 21 = some (.ireturn, 22, 0, 0, .null) := by decide +kernel
theorem x_49_21 : Tr sc d 49 (21, [l0], [.int i0], h) Q = (vp_nar .boolean i0 = i0 ∧ Q (some (.int i0), h)) := t_zret k_49_21 r_49
theorem e_49 : Tr sc d 49 (ent0 49 [.ref k0] h) Q = Tr sc d 49 (0, [some (.ref k0)], [], h) Q := by
  have e : mL 49 = 1 := by decide +kernel
  unfold ent0
  rw [e]
  rfl
theorem r_50 : mR 50 = some .boolean := by decide +kernel
theorem k_50_0 : lk 50 0 = some (.iload_n 1, 1, 1, 0, .null) := by decide +kernel
theorem x_50_0 : Tr sc d 50 (0, [l0, some (.int x)], [], h) Q = Tr sc d 50 (1, [l0, some (.int x)], [.int x], h) Q := t_iload_n k_50_0 rfl
theorem k_50_1 : lk 50 1 = some (.ifCond .lt 15, 4, 16, 0, .null) := by decide +kernel
theorem x_50_1 : Tr sc d 50 (1, [l0, l1], [.int i0], h) Q = if i0 < 0 then Tr sc d 50 (16, [l0, l1], [], h) Q else Tr sc d 50 (4, [l0, l1], [], h) Q := t_if k_50_1 rfl
theorem k_50_4 : lk 50 4 = some (.iload_n 1, 5, 1, 0, .null) := by decide +kernel
theorem x_50_4 : Tr sc d 50 (4, [l0, some (.int x)], [], h) Q = Tr sc d 50 (5, [l0, some (.int x)], [.int x], h) Q := t_iload_n k_50_4 rfl
theorem k_50_5 : lk 50 5 = some (.aload_n 0, 6, 0, 0, .null) := by decide +kernel
theorem x_50_5 : Tr sc d 50 (5, [some (.ref xk), l1], [.int i0], h) Q = Tr sc d 50 (6, [some (.ref xk), l1], [.ref xk, .int i0], h) Q := t_aload_n k_50_5 rfl
theorem k_50_6 : lk 50 6 = some (.getfield 38, 9, 6, 8, .int 0) := by decide +kernel
theorem x_50_6 : Tr sc d 50 (6, [l0, l1], [.ref k1, .int i0], h) Q = (okp h k1 6 = true ∧ Tr sc d 50 (9, [l0, l1], [.int (hI h k1 8), .int i0], h) Q) := t_gd k_50_6 rfl
theorem k_50_9 : lk 50 9 = some (.if_icmp .ge 7, 12, 16, 0, .null) := by decide +kernel
theorem x_50_9 : Tr sc d 50 (9, [l0, l1], [.int i1, .int i0], h) Q = if i1 ≤ i0 then Tr sc d 50 (16, [l0, l1], [], h) Q else Tr sc d 50 (12, [l0, l1], [], h) Q := t_if k_50_9 rfl
theorem k_50_12 : lk 50 12 = some (.iconst 1, 13, 0, 0, .int 1) := by decide +kernel
theorem x_50_12 : Tr sc d 50 (12, [l0, l1], [], h) Q = Tr sc d 50 (13, [l0, l1], [.int 1], h) Q := t_go k_50_12 rfl
theorem k_50_13 : lk 50 13 = some (.goto 4, 16, 17, 0, .null) := by decide +kernel
theorem x_50_13 : Tr sc d 50 (13, [l0, l1], [.int i0], h) Q = Tr sc d 50 (17, [l0, l1], [.int i0], h) Q := t_go k_50_13 rfl
theorem k_50_16 : lk 50 16 = some (.iconst 0, 17, 0, 0, .int 0) := by decide +kernel
theorem x_50_16 : Tr sc d 50 (16, [l0, l1], [], h) Q = Tr sc d 50 (17, [l0, l1], [.int 0], h) Q := t_go k_50_16 rfl
theorem k_50_17 : lk 50 17 = some (.ireturn, 18, 0, 0, .null) := by decide +kernel
theorem x_50_17 : Tr sc d 50 (17, [l0, l1], [.int i0], h) Q = (vp_nar .boolean i0 = i0 ∧ Q (some (.int i0), h)) := t_zret k_50_17 r_50
theorem e_50 : Tr sc d 50 (ent0 50 [.ref k0, .int i1] h) Q = Tr sc d 50 (0, [some (.ref k0), some (.int i1)], [], h) Q := by
  have e : mL 50 = 2 := by decide +kernel
  unfold ent0
  rw [e]
  rfl
theorem r_51 : mR 51 = none := by decide +kernel
theorem k_51_0 : lk 51 0 = some (.aload_n 0, 1, 0, 0, .null) := by decide +kernel
theorem x_51_0 : Tr sc d 51 (0, [some (.ref xk), l1], [], h) Q = Tr sc d 51 (1, [some (.ref xk), l1], [.ref xk], h) Q := t_aload_n k_51_0 rfl
theorem k_51_1 : lk 51 1 = some (.iload_n 1, 2, 1, 0, .null) := by decide +kernel
theorem x_51_1 : Tr sc d 51 (1, [l0, some (.int x)], [.ref k0], h) Q = Tr sc d 51 (2, [l0, some (.int x)], [.int x, .ref k0], h) Q := t_iload_n k_51_1 rfl
theorem k_51_2 : lk 51 2 = some (.putfield 35, 5, 6, 7, .int 0) := by decide +kernel
theorem x_51_2 : Tr sc d 51 (2, [l0, l1], [.int i1, .ref k0], h) Q = (okp h k0 6 = true ∧ Tr sc d 51 (5, [l0, l1], [], (sI h k0 7 i1)) Q) := t_gd k_51_2 rfl
theorem k_51_5 : lk 51 5 = some (.aload_n 0, 6, 0, 0, .null) := by decide +kernel
theorem x_51_5 : Tr sc d 51 (5, [some (.ref xk), l1], [], h) Q = Tr sc d 51 (6, [some (.ref xk), l1], [.ref xk], h) Q := t_aload_n k_51_5 rfl
theorem k_51_6 : lk 51 6 = some (.iconst 0, 7, 0, 0, .int 0) := by decide +kernel
theorem x_51_6 : Tr sc d 51 (6, [l0, l1], [.ref k0], h) Q = Tr sc d 51 (7, [l0, l1], [.int 0, .ref k0], h) Q := t_go k_51_6 rfl
theorem k_51_7 : lk 51 7 = some (.putfield 38, 10, 6, 8, .int 0) := by decide +kernel
theorem x_51_7 : Tr sc d 51 (7, [l0, l1], [.int i1, .ref k0], h) Q = (okp h k0 6 = true ∧ Tr sc d 51 (10, [l0, l1], [], (sI h k0 8 i1)) Q) := t_gd k_51_7 rfl
theorem k_51_10 : lk 51 10 = some (.return_, 11, 0, 0, .null) := by decide +kernel
theorem x_51_10 : Tr sc d 51 (10, [l0, l1], [], h) Q = Q (none, h) := t_ret k_51_10 (by rw [r_51]; rfl)
theorem e_51 : Tr sc d 51 (ent0 51 [.ref k0, .int i1] h) Q = Tr sc d 51 (0, [some (.ref k0), some (.int i1)], [], h) Q := by
  have e : mL 51 = 2 := by decide +kernel
  unfold ent0
  rw [e]
  rfl
theorem r_52 : mR 52 = none := by decide +kernel
theorem k_52_0 : lk 52 0 = some (.aload_n 0, 1, 0, 0, .null) := by decide +kernel
theorem x_52_0 : Tr sc d 52 (0, [some (.ref xk), l1, l2, l3], [], h) Q = Tr sc d 52 (1, [some (.ref xk), l1, l2, l3], [.ref xk], h) Q := t_aload_n k_52_0 rfl
theorem k_52_1 : lk 52 1 = some (.getfield 38, 4, 6, 8, .int 0) := by decide +kernel
theorem x_52_1 : Tr sc d 52 (1, [l0, l1, l2, l3], [.ref k0], h) Q = (okp h k0 6 = true ∧ Tr sc d 52 (4, [l0, l1, l2, l3], [.int (hI h k0 8)], h) Q) := t_gd k_52_1 rfl
theorem k_52_4 : lk 52 4 = some (.bipush 6, 6, 0, 0, .int 6) := by decide +kernel
theorem x_52_4 : Tr sc d 52 (4, [l0, l1, l2, l3], [.int i0], h) Q = Tr sc d 52 (6, [l0, l1, l2, l3], [.int 6, .int i0], h) Q := t_go k_52_4 rfl
theorem k_52_6 : lk 52 6 = some (.if_icmp .ge 46, 9, 52, 0, .null) := by decide +kernel
theorem x_52_6 : Tr sc d 52 (6, [l0, l1, l2, l3], [.int i1, .int i0], h) Q = if i1 ≤ i0 then Tr sc d 52 (52, [l0, l1, l2, l3], [], h) Q else Tr sc d 52 (9, [l0, l1, l2, l3], [], h) Q := t_if k_52_6 rfl
theorem k_52_9 : lk 52 9 = some (.aload_n 0, 10, 0, 0, .null) := by decide +kernel
theorem x_52_9 : Tr sc d 52 (9, [some (.ref xk), l1, l2, l3], [], h) Q = Tr sc d 52 (10, [some (.ref xk), l1, l2, l3], [.ref xk], h) Q := t_aload_n k_52_9 rfl
theorem k_52_10 : lk 52 10 = some (.getfield 9, 13, 6, 0, .null) := by decide +kernel
theorem x_52_10 : Tr sc d 52 (10, [l0, l1, l2, l3], [.ref k0], h) Q = (okp h k0 6 = true ∧ ∃ q, hR h k0 0 = some q ∧ Tr sc d 52 (13, [l0, l1, l2, l3], [.ref q], h) Q) := t_getr k_52_10
theorem k_52_13 : lk 52 13 = some (.aload_n 0, 14, 0, 0, .null) := by decide +kernel
theorem x_52_13 : Tr sc d 52 (13, [some (.ref xk), l1, l2, l3], [.ref k0], h) Q = Tr sc d 52 (14, [some (.ref xk), l1, l2, l3], [.ref xk, .ref k0], h) Q := t_aload_n k_52_13 rfl
theorem k_52_14 : lk 52 14 = some (.getfield 38, 17, 6, 8, .int 0) := by decide +kernel
theorem x_52_14 : Tr sc d 52 (14, [l0, l1, l2, l3], [.ref k1, .ref k0], h) Q = (okp h k1 6 = true ∧ Tr sc d 52 (17, [l0, l1, l2, l3], [.int (hI h k1 8), .ref k0], h) Q) := t_gd k_52_14 rfl
theorem k_52_17 : lk 52 17 = some (.iload_n 1, 18, 1, 0, .null) := by decide +kernel
theorem x_52_17 : Tr sc d 52 (17, [l0, some (.int x), l2, l3], [.int i1, .ref k0], h) Q = Tr sc d 52 (18, [l0, some (.int x), l2, l3], [.int x, .int i1, .ref k0], h) Q := t_iload_n k_52_17 rfl
theorem k_52_18 : lk 52 18 = some (.bipush 7, 20, 0, 0, .int 7) := by decide +kernel
theorem x_52_18 : Tr sc d 52 (18, [l0, l1, l2, l3], [.int i2, .int i1, .ref k0], h) Q = Tr sc d 52 (20, [l0, l1, l2, l3], [.int 7, .int i2, .int i1, .ref k0], h) Q := t_go k_52_18 rfl
theorem k_52_20 : lk 52 20 = some (.iand, 21, 0, 0, .null) := by decide +kernel
theorem x_52_20 : Tr sc d 52 (20, [l0, l1, l2, l3], [.int i3, .int i2, .int i1, .ref k0], h) Q = Tr sc d 52 (21, [l0, l1, l2, l3], [.int (i2 &&& i3), .int i1, .ref k0], h) Q := t_go k_52_20 rfl
theorem k_52_21 : lk 52 21 = some (.iastore, 22, 0, 0, .null) := by decide +kernel
theorem x_52_21 : Tr sc d 52 (21, [l0, l1, l2, l3], [.int i2, .int i1, .ref k0], h) Q = ((okp h k0 11 && inb i1 (LN k0)) = true ∧ Tr sc d 52 (22, [l0, l1, l2, l3], [], (sI h k0 i1.toNatClampNeg i2)) Q) := t_gd k_52_21 rfl
theorem k_52_22 : lk 52 22 = some (.aload_n 0, 23, 0, 0, .null) := by decide +kernel
theorem x_52_22 : Tr sc d 52 (22, [some (.ref xk), l1, l2, l3], [], h) Q = Tr sc d 52 (23, [some (.ref xk), l1, l2, l3], [.ref xk], h) Q := t_aload_n k_52_22 rfl
theorem k_52_23 : lk 52 23 = some (.getfield 15, 26, 6, 1, .null) := by decide +kernel
theorem x_52_23 : Tr sc d 52 (23, [l0, l1, l2, l3], [.ref k0], h) Q = (okp h k0 6 = true ∧ ∃ q, hR h k0 1 = some q ∧ Tr sc d 52 (26, [l0, l1, l2, l3], [.ref q], h) Q) := t_getr k_52_23
theorem k_52_26 : lk 52 26 = some (.aload_n 0, 27, 0, 0, .null) := by decide +kernel
theorem x_52_26 : Tr sc d 52 (26, [some (.ref xk), l1, l2, l3], [.ref k0], h) Q = Tr sc d 52 (27, [some (.ref xk), l1, l2, l3], [.ref xk, .ref k0], h) Q := t_aload_n k_52_26 rfl
theorem k_52_27 : lk 52 27 = some (.getfield 38, 30, 6, 8, .int 0) := by decide +kernel
theorem x_52_27 : Tr sc d 52 (27, [l0, l1, l2, l3], [.ref k1, .ref k0], h) Q = (okp h k1 6 = true ∧ Tr sc d 52 (30, [l0, l1, l2, l3], [.int (hI h k1 8), .ref k0], h) Q) := t_gd k_52_27 rfl
theorem k_52_30 : lk 52 30 = some (.iload_n 2, 31, 2, 0, .null) := by decide +kernel
theorem x_52_30 : Tr sc d 52 (30, [l0, l1, some (.int x), l3], [.int i1, .ref k0], h) Q = Tr sc d 52 (31, [l0, l1, some (.int x), l3], [.int x, .int i1, .ref k0], h) Q := t_iload_n k_52_30 rfl
theorem k_52_31 : lk 52 31 = some (.iastore, 32, 0, 0, .null) := by decide +kernel
theorem x_52_31 : Tr sc d 52 (31, [l0, l1, l2, l3], [.int i2, .int i1, .ref k0], h) Q = ((okp h k0 11 && inb i1 (LN k0)) = true ∧ Tr sc d 52 (32, [l0, l1, l2, l3], [], (sI h k0 i1.toNatClampNeg i2)) Q) := t_gd k_52_31 rfl
theorem k_52_32 : lk 52 32 = some (.aload_n 0, 33, 0, 0, .null) := by decide +kernel
theorem x_52_32 : Tr sc d 52 (32, [some (.ref xk), l1, l2, l3], [], h) Q = Tr sc d 52 (33, [some (.ref xk), l1, l2, l3], [.ref xk], h) Q := t_aload_n k_52_32 rfl
theorem k_52_33 : lk 52 33 = some (.getfield 18, 36, 6, 2, .null) := by decide +kernel
theorem x_52_33 : Tr sc d 52 (33, [l0, l1, l2, l3], [.ref k0], h) Q = (okp h k0 6 = true ∧ ∃ q, hR h k0 2 = some q ∧ Tr sc d 52 (36, [l0, l1, l2, l3], [.ref q], h) Q) := t_getr k_52_33
theorem k_52_36 : lk 52 36 = some (.aload_n 0, 37, 0, 0, .null) := by decide +kernel
theorem x_52_36 : Tr sc d 52 (36, [some (.ref xk), l1, l2, l3], [.ref k0], h) Q = Tr sc d 52 (37, [some (.ref xk), l1, l2, l3], [.ref xk, .ref k0], h) Q := t_aload_n k_52_36 rfl
theorem k_52_37 : lk 52 37 = some (.getfield 38, 40, 6, 8, .int 0) := by decide +kernel
theorem x_52_37 : Tr sc d 52 (37, [l0, l1, l2, l3], [.ref k1, .ref k0], h) Q = (okp h k1 6 = true ∧ Tr sc d 52 (40, [l0, l1, l2, l3], [.int (hI h k1 8), .ref k0], h) Q) := t_gd k_52_37 rfl
theorem k_52_40 : lk 52 40 = some (.iload_n 3, 41, 3, 0, .null) := by decide +kernel
theorem x_52_40 : Tr sc d 52 (40, [l0, l1, l2, some (.int x)], [.int i1, .ref k0], h) Q = Tr sc d 52 (41, [l0, l1, l2, some (.int x)], [.int x, .int i1, .ref k0], h) Q := t_iload_n k_52_40 rfl
theorem k_52_41 : lk 52 41 = some (.iastore, 42, 0, 0, .null) := by decide +kernel
theorem x_52_41 : Tr sc d 52 (41, [l0, l1, l2, l3], [.int i2, .int i1, .ref k0], h) Q = ((okp h k0 11 && inb i1 (LN k0)) = true ∧ Tr sc d 52 (42, [l0, l1, l2, l3], [], (sI h k0 i1.toNatClampNeg i2)) Q) := t_gd k_52_41 rfl
theorem k_52_42 : lk 52 42 = some (.aload_n 0, 43, 0, 0, .null) := by decide +kernel
theorem x_52_42 : Tr sc d 52 (42, [some (.ref xk), l1, l2, l3], [], h) Q = Tr sc d 52 (43, [some (.ref xk), l1, l2, l3], [.ref xk], h) Q := t_aload_n k_52_42 rfl
theorem k_52_43 : lk 52 43 = some (.dup, 44, 0, 0, .null) := by decide +kernel
theorem x_52_43 : Tr sc d 52 (43, [l0, l1, l2, l3], [.ref k0], h) Q = Tr sc d 52 (44, [l0, l1, l2, l3], [.ref k0, .ref k0], h) Q := t_go k_52_43 rfl
theorem k_52_44 : lk 52 44 = some (.getfield 38, 47, 6, 8, .int 0) := by decide +kernel
theorem x_52_44 : Tr sc d 52 (44, [l0, l1, l2, l3], [.ref k1, .ref k0], h) Q = (okp h k1 6 = true ∧ Tr sc d 52 (47, [l0, l1, l2, l3], [.int (hI h k1 8), .ref k0], h) Q) := t_gd k_52_44 rfl
theorem k_52_47 : lk 52 47 = some (.iconst 1, 48, 0, 0, .int 1) := by decide +kernel
theorem x_52_47 : Tr sc d 52 (47, [l0, l1, l2, l3], [.int i1, .ref k0], h) Q = Tr sc d 52 (48, [l0, l1, l2, l3], [.int 1, .int i1, .ref k0], h) Q := t_go k_52_47 rfl
theorem k_52_48 : lk 52 48 = some (.iadd, 49, 0, 0, .null) := by decide +kernel
theorem x_52_48 : Tr sc d 52 (48, [l0, l1, l2, l3], [.int i2, .int i1, .ref k0], h) Q = Tr sc d 52 (49, [l0, l1, l2, l3], [.int (i1 + i2), .ref k0], h) Q := t_go k_52_48 rfl
theorem k_52_49 : lk 52 49 = some (.putfield 38, 52, 6, 8, .int 0) := by decide +kernel
theorem x_52_49 : Tr sc d 52 (49, [l0, l1, l2, l3], [.int i1, .ref k0], h) Q = (okp h k0 6 = true ∧ Tr sc d 52 (52, [l0, l1, l2, l3], [], (sI h k0 8 i1)) Q) := t_gd k_52_49 rfl
theorem k_52_52 : lk 52 52 = some (.return_, 53, 0, 0, .null) := by decide +kernel
theorem x_52_52 : Tr sc d 52 (52, [l0, l1, l2, l3], [], h) Q = Q (none, h) := t_ret k_52_52 (by rw [r_52]; rfl)
theorem e_52 : Tr sc d 52 (ent0 52 [.ref k0, .int i1, .int i2, .int i3] h) Q = Tr sc d 52 (0, [some (.ref k0), some (.int i1), some (.int i2), some (.int i3)], [], h) Q := by
  have e : mL 52 = 4 := by decide +kernel
  unfold ent0
  rw [e]
  rfl
theorem r_53 : mR 53 = none := by decide +kernel
theorem k_53_0 : lk 53 0 = some (.aload_n 0, 1, 0, 0, .null) := by decide +kernel
theorem x_53_0 : Tr sc d 53 (0, [some (.ref xk), l1, l2], [], h) Q = Tr sc d 53 (1, [some (.ref xk), l1, l2], [.ref xk], h) Q := t_aload_n k_53_0 rfl
theorem k_53_1 : lk 53 1 = some (.aload_n 1, 2, 1, 0, .null) := by decide +kernel
theorem x_53_1 : Tr sc d 53 (1, [l0, some (.ref xk), l2], [.ref k0], h) Q = Tr sc d 53 (2, [l0, some (.ref xk), l2], [.ref xk, .ref k0], h) Q := t_aload_n k_53_1 rfl
theorem k_53_2 : lk 53 2 = some (.getfield 35, 5, 6, 7, .int 0) := by decide +kernel
theorem x_53_2 : Tr sc d 53 (2, [l0, l1, l2], [.ref k1, .ref k0], h) Q = (okp h k1 6 = true ∧ Tr sc d 53 (5, [l0, l1, l2], [.int (hI h k1 7), .ref k0], h) Q) := t_gd k_53_2 rfl
theorem k_53_5 : lk 53 5 = some (.putfield 35, 8, 6, 7, .int 0) := by decide +kernel
theorem x_53_5 : Tr sc d 53 (5, [l0, l1, l2], [.int i1, .ref k0], h) Q = (okp h k0 6 = true ∧ Tr sc d 53 (8, [l0, l1, l2], [], (sI h k0 7 i1)) Q) := t_gd k_53_5 rfl
theorem k_53_8 : lk 53 8 = some (.aload_n 0, 9, 0, 0, .null) := by decide +kernel
theorem x_53_8 : Tr sc d 53 (8, [some (.ref xk), l1, l2], [], h) Q = Tr sc d 53 (9, [some (.ref xk), l1, l2], [.ref xk], h) Q := t_aload_n k_53_8 rfl
theorem k_53_9 : lk 53 9 = some (.aload_n 1, 10, 1, 0, .null) := by decide +kernel
theorem x_53_9 : Tr sc d 53 (9, [l0, some (.ref xk), l2], [.ref k0], h) Q = Tr sc d 53 (10, [l0, some (.ref xk), l2], [.ref xk, .ref k0], h) Q := t_aload_n k_53_9 rfl
theorem k_53_10 : lk 53 10 = some (.getfield 38, 13, 6, 8, .int 0) := by decide +kernel
theorem x_53_10 : Tr sc d 53 (10, [l0, l1, l2], [.ref k1, .ref k0], h) Q = (okp h k1 6 = true ∧ Tr sc d 53 (13, [l0, l1, l2], [.int (hI h k1 8), .ref k0], h) Q) := t_gd k_53_10 rfl
theorem k_53_13 : lk 53 13 = some (.putfield 38, 16, 6, 8, .int 0) := by decide +kernel
theorem x_53_13 : Tr sc d 53 (13, [l0, l1, l2], [.int i1, .ref k0], h) Q = (okp h k0 6 = true ∧ Tr sc d 53 (16, [l0, l1, l2], [], (sI h k0 8 i1)) Q) := t_gd k_53_13 rfl
theorem k_53_16 : lk 53 16 = some (.iconst 0, 17, 0, 0, .int 0) := by decide +kernel
theorem x_53_16 : Tr sc d 53 (16, [l0, l1, l2], [], h) Q = Tr sc d 53 (17, [l0, l1, l2], [.int 0], h) Q := t_go k_53_16 rfl
theorem k_53_17 : lk 53 17 = some (.istore_n 2, 18, 2, 0, .null) := by decide +kernel
theorem x_53_17 : Tr sc d 53 (17, [l0, l1, l2], [.int i0], h) Q = Tr sc d 53 (18, [l0, cl2 l1, some (.int i0)], [], h) Q := t_istore_n k_53_17 (Nat.le_of_ble_eq_true rfl)
theorem k_53_18 : lk 53 18 = some (.iload_n 2, 19, 2, 0, .null) := by decide +kernel
theorem x_53_18 : Tr sc d 53 (18, [l0, l1, some (.int x)], [], h) Q = Tr sc d 53 (19, [l0, l1, some (.int x)], [.int x], h) Q := t_iload_n k_53_18 rfl
theorem k_53_19 : lk 53 19 = some (.aload_n 0, 20, 0, 0, .null) := by decide +kernel
theorem x_53_19 : Tr sc d 53 (19, [some (.ref xk), l1, l2], [.int i0], h) Q = Tr sc d 53 (20, [some (.ref xk), l1, l2], [.ref xk, .int i0], h) Q := t_aload_n k_53_19 rfl
theorem k_53_20 : lk 53 20 = some (.getfield 38, 23, 6, 8, .int 0) := by decide +kernel
theorem x_53_20 : Tr sc d 53 (20, [l0, l1, l2], [.ref k1, .int i0], h) Q = (okp h k1 6 = true ∧ Tr sc d 53 (23, [l0, l1, l2], [.int (hI h k1 8), .int i0], h) Q) := t_gd k_53_20 rfl
theorem k_53_23 : lk 53 23 = some (.if_icmp .ge 45, 26, 68, 0, .null) := by decide +kernel
theorem x_53_23 : Tr sc d 53 (23, [l0, l1, l2], [.int i1, .int i0], h) Q = if i1 ≤ i0 then Tr sc d 53 (68, [l0, l1, l2], [], h) Q else Tr sc d 53 (26, [l0, l1, l2], [], h) Q := t_if k_53_23 rfl
theorem k_53_26 : lk 53 26 = some (.aload_n 0, 27, 0, 0, .null) := by decide +kernel
theorem x_53_26 : Tr sc d 53 (26, [some (.ref xk), l1, l2], [], h) Q = Tr sc d 53 (27, [some (.ref xk), l1, l2], [.ref xk], h) Q := t_aload_n k_53_26 rfl
theorem k_53_27 : lk 53 27 = some (.getfield 9, 30, 6, 0, .null) := by decide +kernel
theorem x_53_27 : Tr sc d 53 (27, [l0, l1, l2], [.ref k0], h) Q = (okp h k0 6 = true ∧ ∃ q, hR h k0 0 = some q ∧ Tr sc d 53 (30, [l0, l1, l2], [.ref q], h) Q) := t_getr k_53_27
theorem k_53_30 : lk 53 30 = some (.iload_n 2, 31, 2, 0, .null) := by decide +kernel
theorem x_53_30 : Tr sc d 53 (30, [l0, l1, some (.int x)], [.ref k0], h) Q = Tr sc d 53 (31, [l0, l1, some (.int x)], [.int x, .ref k0], h) Q := t_iload_n k_53_30 rfl
theorem k_53_31 : lk 53 31 = some (.aload_n 1, 32, 1, 0, .null) := by decide +kernel
theorem x_53_31 : Tr sc d 53 (31, [l0, some (.ref xk), l2], [.int i1, .ref k0], h) Q = Tr sc d 53 (32, [l0, some (.ref xk), l2], [.ref xk, .int i1, .ref k0], h) Q := t_aload_n k_53_31 rfl
theorem k_53_32 : lk 53 32 = some (.getfield 9, 35, 6, 0, .null) := by decide +kernel
theorem x_53_32 : Tr sc d 53 (32, [l0, l1, l2], [.ref k2, .int i1, .ref k0], h) Q = (okp h k2 6 = true ∧ ∃ q, hR h k2 0 = some q ∧ Tr sc d 53 (35, [l0, l1, l2], [.ref q, .int i1, .ref k0], h) Q) := t_getr k_53_32
theorem k_53_35 : lk 53 35 = some (.iload_n 2, 36, 2, 0, .null) := by decide +kernel
theorem x_53_35 : Tr sc d 53 (35, [l0, l1, some (.int x)], [.ref k2, .int i1, .ref k0], h) Q = Tr sc d 53 (36, [l0, l1, some (.int x)], [.int x, .ref k2, .int i1, .ref k0], h) Q := t_iload_n k_53_35 rfl
theorem k_53_36 : lk 53 36 = some (.iaload, 37, 0, 0, .null) := by decide +kernel
theorem x_53_36 : Tr sc d 53 (36, [l0, l1, l2], [.int i3, .ref k2, .int i1, .ref k0], h) Q = (iOk sc h k2 i3 ∧ Tr sc d 53 (37, [l0, l1, l2], [.int (iRd sc h k2 i3), .int i1, .ref k0], h) Q) := t_iald k_53_36
theorem k_53_37 : lk 53 37 = some (.iastore, 38, 0, 0, .null) := by decide +kernel
theorem x_53_37 : Tr sc d 53 (37, [l0, l1, l2], [.int i2, .int i1, .ref k0], h) Q = ((okp h k0 11 && inb i1 (LN k0)) = true ∧ Tr sc d 53 (38, [l0, l1, l2], [], (sI h k0 i1.toNatClampNeg i2)) Q) := t_gd k_53_37 rfl
theorem k_53_38 : lk 53 38 = some (.aload_n 0, 39, 0, 0, .null) := by decide +kernel
theorem x_53_38 : Tr sc d 53 (38, [some (.ref xk), l1, l2], [], h) Q = Tr sc d 53 (39, [some (.ref xk), l1, l2], [.ref xk], h) Q := t_aload_n k_53_38 rfl
theorem k_53_39 : lk 53 39 = some (.getfield 15, 42, 6, 1, .null) := by decide +kernel
theorem x_53_39 : Tr sc d 53 (39, [l0, l1, l2], [.ref k0], h) Q = (okp h k0 6 = true ∧ ∃ q, hR h k0 1 = some q ∧ Tr sc d 53 (42, [l0, l1, l2], [.ref q], h) Q) := t_getr k_53_39
theorem k_53_42 : lk 53 42 = some (.iload_n 2, 43, 2, 0, .null) := by decide +kernel
theorem x_53_42 : Tr sc d 53 (42, [l0, l1, some (.int x)], [.ref k0], h) Q = Tr sc d 53 (43, [l0, l1, some (.int x)], [.int x, .ref k0], h) Q := t_iload_n k_53_42 rfl
theorem k_53_43 : lk 53 43 = some (.aload_n 1, 44, 1, 0, .null) := by decide +kernel
theorem x_53_43 : Tr sc d 53 (43, [l0, some (.ref xk), l2], [.int i1, .ref k0], h) Q = Tr sc d 53 (44, [l0, some (.ref xk), l2], [.ref xk, .int i1, .ref k0], h) Q := t_aload_n k_53_43 rfl
theorem k_53_44 : lk 53 44 = some (.getfield 15, 47, 6, 1, .null) := by decide +kernel
theorem x_53_44 : Tr sc d 53 (44, [l0, l1, l2], [.ref k2, .int i1, .ref k0], h) Q = (okp h k2 6 = true ∧ ∃ q, hR h k2 1 = some q ∧ Tr sc d 53 (47, [l0, l1, l2], [.ref q, .int i1, .ref k0], h) Q) := t_getr k_53_44
theorem k_53_47 : lk 53 47 = some (.iload_n 2, 48, 2, 0, .null) := by decide +kernel
theorem x_53_47 : Tr sc d 53 (47, [l0, l1, some (.int x)], [.ref k2, .int i1, .ref k0], h) Q = Tr sc d 53 (48, [l0, l1, some (.int x)], [.int x, .ref k2, .int i1, .ref k0], h) Q := t_iload_n k_53_47 rfl
theorem k_53_48 : lk 53 48 = some (.iaload, 49, 0, 0, .null) := by decide +kernel
theorem x_53_48 : Tr sc d 53 (48, [l0, l1, l2], [.int i3, .ref k2, .int i1, .ref k0], h) Q = (iOk sc h k2 i3 ∧ Tr sc d 53 (49, [l0, l1, l2], [.int (iRd sc h k2 i3), .int i1, .ref k0], h) Q) := t_iald k_53_48
theorem k_53_49 : lk 53 49 = some (.iastore, 50, 0, 0, .null) := by decide +kernel
theorem x_53_49 : Tr sc d 53 (49, [l0, l1, l2], [.int i2, .int i1, .ref k0], h) Q = ((okp h k0 11 && inb i1 (LN k0)) = true ∧ Tr sc d 53 (50, [l0, l1, l2], [], (sI h k0 i1.toNatClampNeg i2)) Q) := t_gd k_53_49 rfl
theorem k_53_50 : lk 53 50 = some (.aload_n 0, 51, 0, 0, .null) := by decide +kernel
theorem x_53_50 : Tr sc d 53 (50, [some (.ref xk), l1, l2], [], h) Q = Tr sc d 53 (51, [some (.ref xk), l1, l2], [.ref xk], h) Q := t_aload_n k_53_50 rfl
theorem k_53_51 : lk 53 51 = some (.getfield 18, 54, 6, 2, .null) := by decide +kernel
theorem x_53_51 : Tr sc d 53 (51, [l0, l1, l2], [.ref k0], h) Q = (okp h k0 6 = true ∧ ∃ q, hR h k0 2 = some q ∧ Tr sc d 53 (54, [l0, l1, l2], [.ref q], h) Q) := t_getr k_53_51
theorem k_53_54 : lk 53 54 = some (.iload_n 2, 55, 2, 0, .null) := by decide +kernel
theorem x_53_54 : Tr sc d 53 (54, [l0, l1, some (.int x)], [.ref k0], h) Q = Tr sc d 53 (55, [l0, l1, some (.int x)], [.int x, .ref k0], h) Q := t_iload_n k_53_54 rfl
theorem k_53_55 : lk 53 55 = some (.aload_n 1, 56, 1, 0, .null) := by decide +kernel
theorem x_53_55 : Tr sc d 53 (55, [l0, some (.ref xk), l2], [.int i1, .ref k0], h) Q = Tr sc d 53 (56, [l0, some (.ref xk), l2], [.ref xk, .int i1, .ref k0], h) Q := t_aload_n k_53_55 rfl
theorem k_53_56 : lk 53 56 = some (.getfield 18, 59, 6, 2, .null) := by decide +kernel
theorem x_53_56 : Tr sc d 53 (56, [l0, l1, l2], [.ref k2, .int i1, .ref k0], h) Q = (okp h k2 6 = true ∧ ∃ q, hR h k2 2 = some q ∧ Tr sc d 53 (59, [l0, l1, l2], [.ref q, .int i1, .ref k0], h) Q) := t_getr k_53_56
theorem k_53_59 : lk 53 59 = some (.iload_n 2, 60, 2, 0, .null) := by decide +kernel
theorem x_53_59 : Tr sc d 53 (59, [l0, l1, some (.int x)], [.ref k2, .int i1, .ref k0], h) Q = Tr sc d 53 (60, [l0, l1, some (.int x)], [.int x, .ref k2, .int i1, .ref k0], h) Q := t_iload_n k_53_59 rfl
theorem k_53_60 : lk 53 60 = some (.iaload, 61, 0, 0, .null) := by decide +kernel
theorem x_53_60 : Tr sc d 53 (60, [l0, l1, l2], [.int i3, .ref k2, .int i1, .ref k0], h) Q = (iOk sc h k2 i3 ∧ Tr sc d 53 (61, [l0, l1, l2], [.int (iRd sc h k2 i3), .int i1, .ref k0], h) Q) := t_iald k_53_60
theorem k_53_61 : lk 53 61 = some (.iastore, 62, 0, 0, .null) := by decide +kernel
theorem x_53_61 : Tr sc d 53 (61, [l0, l1, l2], [.int i2, .int i1, .ref k0], h) Q = ((okp h k0 11 && inb i1 (LN k0)) = true ∧ Tr sc d 53 (62, [l0, l1, l2], [], (sI h k0 i1.toNatClampNeg i2)) Q) := t_gd k_53_61 rfl
theorem k_53_62 : lk 53 62 = some (.iinc 2 1, 65, 2, 0, .int 1) := by decide +kernel
theorem x_53_62 : Tr sc d 53 (62, [l0, l1, some (.int x)], [], h) Q = Tr sc d 53 (65, [l0, cl2 l1, some (.int (x + 1))], [], h) Q := t_inc k_53_62 rfl (Nat.le_of_ble_eq_true rfl)
theorem k_53_65 : lk 53 65 = some (.goto (-47), 68, 18, 0, .null) := by decide +kernel
theorem x_53_65 : Tr sc d 53 (65, [l0, l1, l2], [], h) Q = Tr sc d 53 (18, [l0, l1, l2], [], h) Q := t_go k_53_65 rfl
theorem k_53_68 : lk 53 68 = some (.return_, 69, 0, 0, .null) := by decide +kernel
theorem x_53_68 : Tr sc d 53 (68, [l0, l1, l2], [], h) Q = Q (none, h) := t_ret k_53_68 (by rw [r_53]; rfl)
theorem e_53 : Tr sc d 53 (ent0 53 [.ref k0, .ref k1] h) Q = Tr sc d 53 (0, [some (.ref k0), some (.ref k1), none], [], h) Q := by
  have e : mL 53 = 3 := by decide +kernel
  unfold ent0
  rw [e]
  rfl
theorem r_54 : mR 54 = none := by decide +kernel
theorem k_54_0 : lk 54 0 = some (.aload_n 0, 1, 0, 0, .null) := by decide +kernel
theorem x_54_0 : Tr sc d 54 (0, [some (.ref xk), l1, l2, l3], [], h) Q = Tr sc d 54 (1, [some (.ref xk), l1, l2, l3], [.ref xk], h) Q := t_aload_n k_54_0 rfl
theorem k_54_1 : lk 54 1 = some (.iload_n 1, 2, 1, 0, .null) := by decide +kernel
theorem x_54_1 : Tr sc d 54 (1, [l0, some (.int x), l2, l3], [.ref k0], h) Q = Tr sc d 54 (2, [l0, some (.int x), l2, l3], [.int x, .ref k0], h) Q := t_iload_n k_54_1 rfl
theorem k_54_2 : lk 54 2 = some (.putfield 31, 5, 6, 6, .int 0) := by decide +kernel
theorem x_54_2 : Tr sc d 54 (2, [l0, l1, l2, l3], [.int i1, .ref k0], h) Q = (okp h k0 6 = true ∧ Tr sc d 54 (5, [l0, l1, l2, l3], [], (sI h k0 6 i1)) Q) := t_gd k_54_2 rfl
theorem k_54_5 : lk 54 5 = some (.iconst 0, 6, 0, 0, .int 0) := by decide +kernel
theorem x_54_5 : Tr sc d 54 (5, [l0, l1, l2, l3], [], h) Q = Tr sc d 54 (6, [l0, l1, l2, l3], [.int 0], h) Q := t_go k_54_5 rfl
theorem k_54_6 : lk 54 6 = some (.istore_n 3, 7, 3, 0, .null) := by decide +kernel
theorem x_54_6 : Tr sc d 54 (6, [l0, l1, l2, l3], [.int i0], h) Q = Tr sc d 54 (7, [l0, l1, cl2 l2, some (.int i0)], [], h) Q := t_istore_n k_54_6 (Nat.le_of_ble_eq_true rfl)
theorem k_54_7 : lk 54 7 = some (.iload_n 3, 8, 3, 0, .null) := by decide +kernel
theorem x_54_7 : Tr sc d 54 (7, [l0, l1, l2, some (.int x)], [], h) Q = Tr sc d 54 (8, [l0, l1, l2, some (.int x)], [.int x], h) Q := t_iload_n k_54_7 rfl
theorem k_54_8 : lk 54 8 = some (.aload_n 0, 9, 0, 0, .null) := by decide +kernel
theorem x_54_8 : Tr sc d 54 (8, [some (.ref xk), l1, l2, l3], [.int i0], h) Q = Tr sc d 54 (9, [some (.ref xk), l1, l2, l3], [.ref xk, .int i0], h) Q := t_aload_n k_54_8 rfl
theorem k_54_9 : lk 54 9 = some (.getfield 38, 12, 6, 8, .int 0) := by decide +kernel
theorem x_54_9 : Tr sc d 54 (9, [l0, l1, l2, l3], [.ref k1, .int i0], h) Q = (okp h k1 6 = true ∧ Tr sc d 54 (12, [l0, l1, l2, l3], [.int (hI h k1 8), .int i0], h) Q) := t_gd k_54_9 rfl
theorem k_54_12 : lk 54 12 = some (.if_icmp .ge 29, 15, 41, 0, .null) := by decide +kernel
theorem x_54_12 : Tr sc d 54 (12, [l0, l1, l2, l3], [.int i1, .int i0], h) Q = if i1 ≤ i0 then Tr sc d 54 (41, [l0, l1, l2, l3], [], h) Q else Tr sc d 54 (15, [l0, l1, l2, l3], [], h) Q := t_if k_54_12 rfl
theorem k_54_15 : lk 54 15 = some (.iload_n 3, 16, 3, 0, .null) := by decide +kernel
theorem x_54_15 : Tr sc d 54 (15, [l0, l1, l2, some (.int x)], [], h) Q = Tr sc d 54 (16, [l0, l1, l2, some (.int x)], [.int x], h) Q := t_iload_n k_54_15 rfl
theorem k_54_16 : lk 54 16 = some (.aload_n 2, 17, 2, 0, .null) := by decide +kernel
theorem x_54_16 : Tr sc d 54 (16, [l0, l1, some (.ref xk), l3], [.int i0], h) Q = Tr sc d 54 (17, [l0, l1, some (.ref xk), l3], [.ref xk, .int i0], h) Q := t_aload_n k_54_16 rfl
theorem k_54_17 : lk 54 17 = some (.getfield 41, 20, 5, 1, .int 0) := by decide +kernel
theorem x_54_17 : Tr sc d 54 (17, [l0, l1, l2, l3], [.ref k1, .int i0], h) Q = (okp h k1 5 = true ∧ Tr sc d 54 (20, [l0, l1, l2, l3], [.int (hI h k1 1), .int i0], h) Q) := t_gd k_54_17 rfl
theorem k_54_20 : lk 54 20 = some (.if_icmp .ge 21, 23, 41, 0, .null) := by decide +kernel
theorem x_54_20 : Tr sc d 54 (20, [l0, l1, l2, l3], [.int i1, .int i0], h) Q = if i1 ≤ i0 then Tr sc d 54 (41, [l0, l1, l2, l3], [], h) Q else Tr sc d 54 (23, [l0, l1, l2, l3], [], h) Q := t_if k_54_20 rfl
theorem k_54_23 : lk 54 23 = some (.aload_n 0, 24, 0, 0, .null) := by decide +kernel
theorem x_54_23 : Tr sc d 54 (23, [some (.ref xk), l1, l2, l3], [], h) Q = Tr sc d 54 (24, [some (.ref xk), l1, l2, l3], [.ref xk], h) Q := t_aload_n k_54_23 rfl
theorem k_54_24 : lk 54 24 = some (.getfield 21, 27, 6, 3, .null) := by decide +kernel
theorem x_54_24 : Tr sc d 54 (24, [l0, l1, l2, l3], [.ref k0], h) Q = (okp h k0 6 = true ∧ ∃ q, hR h k0 3 = some q ∧ Tr sc d 54 (27, [l0, l1, l2, l3], [.ref q], h) Q) := t_getr k_54_24
theorem k_54_27 : lk 54 27 = some (.iload_n 3, 28, 3, 0, .null) := by decide +kernel
theorem x_54_27 : Tr sc d 54 (27, [l0, l1, l2, some (.int x)], [.ref k0], h) Q = Tr sc d 54 (28, [l0, l1, l2, some (.int x)], [.int x, .ref k0], h) Q := t_iload_n k_54_27 rfl
theorem k_54_28 : lk 54 28 = some (.aload_n 2, 29, 2, 0, .null) := by decide +kernel
theorem x_54_28 : Tr sc d 54 (28, [l0, l1, some (.ref xk), l3], [.int i1, .ref k0], h) Q = Tr sc d 54 (29, [l0, l1, some (.ref xk), l3], [.ref xk, .int i1, .ref k0], h) Q := t_aload_n k_54_28 rfl
theorem k_54_29 : lk 54 29 = some (.getfield 46, 32, 5, 0, .null) := by decide +kernel
theorem x_54_29 : Tr sc d 54 (29, [l0, l1, l2, l3], [.ref k2, .int i1, .ref k0], h) Q = (okp h k2 5 = true ∧ ∃ q, hR h k2 0 = some q ∧ Tr sc d 54 (32, [l0, l1, l2, l3], [.ref q, .int i1, .ref k0], h) Q) := t_getr k_54_29
theorem k_54_32 : lk 54 32 = some (.iload_n 3, 33, 3, 0, .null) := by decide +kernel
theorem x_54_32 : Tr sc d 54 (32, [l0, l1, l2, some (.int x)], [.ref k2, .int i1, .ref k0], h) Q = Tr sc d 54 (33, [l0, l1, l2, some (.int x)], [.int x, .ref k2, .int i1, .ref k0], h) Q := t_iload_n k_54_32 rfl
theorem k_54_33 : lk 54 33 = some (.iaload, 34, 0, 0, .null) := by decide +kernel
theorem x_54_33 : Tr sc d 54 (33, [l0, l1, l2, l3], [.int i3, .ref k2, .int i1, .ref k0], h) Q = (iOk sc h k2 i3 ∧ Tr sc d 54 (34, [l0, l1, l2, l3], [.int (iRd sc h k2 i3), .int i1, .ref k0], h) Q) := t_iald k_54_33
theorem k_54_34 : lk 54 34 = some (.iastore, 35, 0, 0, .null) := by decide +kernel
theorem x_54_34 : Tr sc d 54 (34, [l0, l1, l2, l3], [.int i2, .int i1, .ref k0], h) Q = ((okp h k0 11 && inb i1 (LN k0)) = true ∧ Tr sc d 54 (35, [l0, l1, l2, l3], [], (sI h k0 i1.toNatClampNeg i2)) Q) := t_gd k_54_34 rfl
theorem k_54_35 : lk 54 35 = some (.iinc 3 1, 38, 3, 0, .int 1) := by decide +kernel
theorem x_54_35 : Tr sc d 54 (35, [l0, l1, l2, some (.int x)], [], h) Q = Tr sc d 54 (38, [l0, l1, cl2 l2, some (.int (x + 1))], [], h) Q := t_inc k_54_35 rfl (Nat.le_of_ble_eq_true rfl)
theorem k_54_38 : lk 54 38 = some (.goto (-31), 41, 7, 0, .null) := by decide +kernel
theorem x_54_38 : Tr sc d 54 (38, [l0, l1, l2, l3], [], h) Q = Tr sc d 54 (7, [l0, l1, l2, l3], [], h) Q := t_go k_54_38 rfl
theorem k_54_41 : lk 54 41 = some (.return_, 42, 0, 0, .null) := by decide +kernel
theorem x_54_41 : Tr sc d 54 (41, [l0, l1, l2, l3], [], h) Q = Q (none, h) := t_ret k_54_41 (by rw [r_54]; rfl)
theorem e_54 : Tr sc d 54 (ent0 54 [.ref k0, .int i1, .ref k2] h) Q = Tr sc d 54 (0, [some (.ref k0), some (.int i1), some (.ref k2), none], [], h) Q := by
  have e : mL 54 = 4 := by decide +kernel
  unfold ent0
  rw [e]
  rfl
theorem r_55 : mR 55 = none := by decide +kernel
theorem k_55_0 : lk 55 0 = some (.aload_n 0, 1, 0, 0, .null) := by decide +kernel
theorem x_55_0 : Tr sc d 55 (0, [some (.ref xk), l1, l2, l3], [], h) Q = Tr sc d 55 (1, [some (.ref xk), l1, l2, l3], [.ref xk], h) Q := t_aload_n k_55_0 rfl
theorem k_55_1 : lk 55 1 = some (.aload_n 1, 2, 1, 0, .null) := by decide +kernel
theorem x_55_1 : Tr sc d 55 (1, [l0, some (.ref xk), l2, l3], [.ref k0], h) Q = Tr sc d 55 (2, [l0, some (.ref xk), l2, l3], [.ref xk, .ref k0], h) Q := t_aload_n k_55_1 rfl
theorem k_55_2 : lk 55 2 = some (.getfield 41, 5, 5, 1, .int 0) := by decide +kernel
theorem x_55_2 : Tr sc d 55 (2, [l0, l1, l2, l3], [.ref k1, .ref k0], h) Q = (okp h k1 5 = true ∧ Tr sc d 55 (5, [l0, l1, l2, l3], [.int (hI h k1 1), .ref k0], h) Q) := t_gd k_55_2 rfl
theorem k_55_5 : lk 55 5 = some (.invokevirtual 49, 8, 51, 1, .null) := by decide +kernel
theorem x_55_5 : Tr sc (d + 1) 55 (5, [l0, l1, l2, l3], [.int i1, .ref k0], h) Q = (okp h k0 6 = true ∧ Tr sc d 51 (ent0 51 [.ref k0, .int i1] h) (fun z => Tr sc (d + 1) 55 (8, [l0, l1, l2, l3], z.1.toList ++ [], z.2) Q)) := t_cv (as := [.int i1]) (r := []) k_55_5 rfl rfl (Nat.le_of_ble_eq_true rfl) (Nat.le_of_ble_eq_true rfl) (Nat.le_of_ble_eq_true rfl)
theorem k_55_8 : lk 55 8 = some (.iconst 0, 9, 0, 0, .int 0) := by decide +kernel
theorem x_55_8 : Tr sc d 55 (8, [l0, l1, l2, l3], [], h) Q = Tr sc d 55 (9, [l0, l1, l2, l3], [.int 0], h) Q := t_go k_55_8 rfl
theorem k_55_9 : lk 55 9 = some (.istore_n 2, 10, 2, 0, .null) := by decide +kernel
theorem x_55_9 : Tr sc d 55 (9, [l0, l1, l2, l3], [.int i0], h) Q = Tr sc d 55 (10, [l0, cl2 l1, some (.int i0), l3], [], h) Q := t_istore_n k_55_9 (Nat.le_of_ble_eq_true rfl)
theorem k_55_10 : lk 55 10 = some (.iload_n 2, 11, 2, 0, .null) := by decide +kernel
theorem x_55_10 : Tr sc d 55 (10, [l0, l1, some (.int x), l3], [], h) Q = Tr sc d 55 (11, [l0, l1, some (.int x), l3], [.int x], h) Q := t_iload_n k_55_10 rfl
theorem k_55_11 : lk 55 11 = some (.aload_n 1, 12, 1, 0, .null) := by decide +kernel
theorem x_55_11 : Tr sc d 55 (11, [l0, some (.ref xk), l2, l3], [.int i0], h) Q = Tr sc d 55 (12, [l0, some (.ref xk), l2, l3], [.ref xk, .int i0], h) Q := t_aload_n k_55_11 rfl
theorem k_55_12 : lk 55 12 = some (.getfield 41, 15, 5, 1, .int 0) := by decide +kernel
theorem x_55_12 : Tr sc d 55 (12, [l0, l1, l2, l3], [.ref k1, .int i0], h) Q = (okp h k1 5 = true ∧ Tr sc d 55 (15, [l0, l1, l2, l3], [.int (hI h k1 1), .int i0], h) Q) := t_gd k_55_12 rfl
theorem k_55_15 : lk 55 15 = some (.if_icmp .ge 45, 18, 60, 0, .null) := by decide +kernel
theorem x_55_15 : Tr sc d 55 (15, [l0, l1, l2, l3], [.int i1, .int i0], h) Q = if i1 ≤ i0 then Tr sc d 55 (60, [l0, l1, l2, l3], [], h) Q else Tr sc d 55 (18, [l0, l1, l2, l3], [], h) Q := t_if k_55_15 rfl
theorem k_55_18 : lk 55 18 = some (.iconst 0, 19, 0, 0, .int 0) := by decide +kernel
theorem x_55_18 : Tr sc d 55 (18, [l0, l1, l2, l3], [], h) Q = Tr sc d 55 (19, [l0, l1, l2, l3], [.int 0], h) Q := t_go k_55_18 rfl
theorem k_55_19 : lk 55 19 = some (.istore_n 3, 20, 3, 0, .null) := by decide +kernel
theorem x_55_19 : Tr sc d 55 (19, [l0, l1, l2, l3], [.int i0], h) Q = Tr sc d 55 (20, [l0, l1, cl2 l2, some (.int i0)], [], h) Q := t_istore_n k_55_19 (Nat.le_of_ble_eq_true rfl)
theorem k_55_20 : lk 55 20 = some (.iload_n 3, 21, 3, 0, .null) := by decide +kernel
theorem x_55_20 : Tr sc d 55 (20, [l0, l1, l2, some (.int x)], [], h) Q = Tr sc d 55 (21, [l0, l1, l2, some (.int x)], [.int x], h) Q := t_iload_n k_55_20 rfl
theorem k_55_21 : lk 55 21 = some (.aload_n 1, 22, 1, 0, .null) := by decide +kernel
theorem x_55_21 : Tr sc d 55 (21, [l0, some (.ref xk), l2, l3], [.int i0], h) Q = Tr sc d 55 (22, [l0, some (.ref xk), l2, l3], [.ref xk, .int i0], h) Q := t_aload_n k_55_21 rfl
theorem k_55_22 : lk 55 22 = some (.getfield 41, 25, 5, 1, .int 0) := by decide +kernel
theorem x_55_22 : Tr sc d 55 (22, [l0, l1, l2, l3], [.ref k1, .int i0], h) Q = (okp h k1 5 = true ∧ Tr sc d 55 (25, [l0, l1, l2, l3], [.int (hI h k1 1), .int i0], h) Q) := t_gd k_55_22 rfl
theorem k_55_25 : lk 55 25 = some (.if_icmp .ge 29, 28, 54, 0, .null) := by decide +kernel
theorem x_55_25 : Tr sc d 55 (25, [l0, l1, l2, l3], [.int i1, .int i0], h) Q = if i1 ≤ i0 then Tr sc d 55 (54, [l0, l1, l2, l3], [], h) Q else Tr sc d 55 (28, [l0, l1, l2, l3], [], h) Q := t_if k_55_25 rfl
theorem k_55_28 : lk 55 28 = some (.aload_n 1, 29, 1, 0, .null) := by decide +kernel
theorem x_55_28 : Tr sc d 55 (28, [l0, some (.ref xk), l2, l3], [], h) Q = Tr sc d 55 (29, [l0, some (.ref xk), l2, l3], [.ref xk], h) Q := t_aload_n k_55_28 rfl
theorem k_55_29 : lk 55 29 = some (.getfield 46, 32, 5, 0, .null) := by decide +kernel
theorem x_55_29 : Tr sc d 55 (29, [l0, l1, l2, l3], [.ref k0], h) Q = (okp h k0 5 = true ∧ ∃ q, hR h k0 0 = some q ∧ Tr sc d 55 (32, [l0, l1, l2, l3], [.ref q], h) Q) := t_getr k_55_29
theorem k_55_32 : lk 55 32 = some (.iload_n 2, 33, 2, 0, .null) := by decide +kernel
theorem x_55_32 : Tr sc d 55 (32, [l0, l1, some (.int x), l3], [.ref k0], h) Q = Tr sc d 55 (33, [l0, l1, some (.int x), l3], [.int x, .ref k0], h) Q := t_iload_n k_55_32 rfl
theorem k_55_33 : lk 55 33 = some (.iaload, 34, 0, 0, .null) := by decide +kernel
theorem x_55_33 : Tr sc d 55 (33, [l0, l1, l2, l3], [.int i1, .ref k0], h) Q = (iOk sc h k0 i1 ∧ Tr sc d 55 (34, [l0, l1, l2, l3], [.int (iRd sc h k0 i1)], h) Q) := t_iald k_55_33
theorem k_55_34 : lk 55 34 = some (.iload_n 3, 35, 3, 0, .null) := by decide +kernel
theorem x_55_34 : Tr sc d 55 (34, [l0, l1, l2, some (.int x)], [.int i0], h) Q = Tr sc d 55 (35, [l0, l1, l2, some (.int x)], [.int x, .int i0], h) Q := t_iload_n k_55_34 rfl
theorem k_55_35 : lk 55 35 = some (.ishr, 36, 0, 0, .null) := by decide +kernel
theorem x_55_35 : Tr sc d 55 (35, [l0, l1, l2, l3], [.int i1, .int i0], h) Q = Tr sc d 55 (36, [l0, l1, l2, l3], [.int (i0 >>> (i1 &&& 31))], h) Q := t_go k_55_35 rfl
theorem k_55_36 : lk 55 36 = some (.iconst 1, 37, 0, 0, .int 1) := by decide +kernel
theorem x_55_36 : Tr sc d 55 (36, [l0, l1, l2, l3], [.int i0], h) Q = Tr sc d 55 (37, [l0, l1, l2, l3], [.int 1, .int i0], h) Q := t_go k_55_36 rfl
theorem k_55_37 : lk 55 37 = some (.iand, 38, 0, 0, .null) := by decide +kernel
theorem x_55_37 : Tr sc d 55 (37, [l0, l1, l2, l3], [.int i1, .int i0], h) Q = Tr sc d 55 (38, [l0, l1, l2, l3], [.int (i0 &&& i1)], h) Q := t_go k_55_37 rfl
theorem k_55_38 : lk 55 38 = some (.ifCond .eq 10, 41, 48, 0, .null) := by decide +kernel
theorem x_55_38 : Tr sc d 55 (38, [l0, l1, l2, l3], [.int i0], h) Q = if i0 = 0 then Tr sc d 55 (48, [l0, l1, l2, l3], [], h) Q else Tr sc d 55 (41, [l0, l1, l2, l3], [], h) Q := t_if k_55_38 rfl
theorem k_55_41 : lk 55 41 = some (.aload_n 0, 42, 0, 0, .null) := by decide +kernel
theorem x_55_41 : Tr sc d 55 (41, [some (.ref xk), l1, l2, l3], [], h) Q = Tr sc d 55 (42, [some (.ref xk), l1, l2, l3], [.ref xk], h) Q := t_aload_n k_55_41 rfl
theorem k_55_42 : lk 55 42 = some (.iconst 0, 43, 0, 0, .int 0) := by decide +kernel
theorem x_55_42 : Tr sc d 55 (42, [l0, l1, l2, l3], [.ref k0], h) Q = Tr sc d 55 (43, [l0, l1, l2, l3], [.int 0, .ref k0], h) Q := t_go k_55_42 rfl
theorem k_55_43 : lk 55 43 = some (.iload_n 3, 44, 3, 0, .null) := by decide +kernel
theorem x_55_43 : Tr sc d 55 (43, [l0, l1, l2, some (.int x)], [.int i1, .ref k0], h) Q = Tr sc d 55 (44, [l0, l1, l2, some (.int x)], [.int x, .int i1, .ref k0], h) Q := t_iload_n k_55_43 rfl
theorem k_55_44 : lk 55 44 = some (.iload_n 2, 45, 2, 0, .null) := by decide +kernel
theorem x_55_44 : Tr sc d 55 (44, [l0, l1, some (.int x), l3], [.int i2, .int i1, .ref k0], h) Q = Tr sc d 55 (45, [l0, l1, some (.int x), l3], [.int x, .int i2, .int i1, .ref k0], h) Q := t_iload_n k_55_44 rfl
theorem k_55_45 : lk 55 45 = some (.invokevirtual 53, 48, 52, 3, .null) := by decide +kernel
theorem x_55_45 : Tr sc (d + 1) 55 (45, [l0, l1, l2, l3], [.int i3, .int i2, .int i1, .ref k0], h) Q = (okp h k0 6 = true ∧ Tr sc d 52 (ent0 52 [.ref k0, .int i1, .int i2, .int i3] h) (fun z => Tr sc (d + 1) 55 (48, [l0, l1, l2, l3], z.1.toList ++ [], z.2) Q)) := t_cv (as := [.int i1, .int i2, .int i3]) (r := []) k_55_45 rfl rfl (Nat.le_of_ble_eq_true rfl) (Nat.le_of_ble_eq_true rfl) (Nat.le_of_ble_eq_true rfl)
theorem k_55_48 : lk 55 48 = some (.iinc 3 1, 51, 3, 0, .int 1) := by decide +kernel
theorem x_55_48 : Tr sc d 55 (48, [l0, l1, l2, some (.int x)], [], h) Q = Tr sc d 55 (51, [l0, l1, cl2 l2, some (.int (x + 1))], [], h) Q := t_inc k_55_48 rfl (Nat.le_of_ble_eq_true rfl)
theorem k_55_51 : lk 55 51 = some (.goto (-31), 54, 20, 0, .null) := by decide +kernel
theorem x_55_51 : Tr sc d 55 (51, [l0, l1, l2, l3], [], h) Q = Tr sc d 55 (20, [l0, l1, l2, l3], [], h) Q := t_go k_55_51 rfl
theorem k_55_54 : lk 55 54 = some (.iinc 2 1, 57, 2, 0, .int 1) := by decide +kernel
theorem x_55_54 : Tr sc d 55 (54, [l0, l1, some (.int x), l3], [], h) Q = Tr sc d 55 (57, [l0, cl2 l1, some (.int (x + 1)), l3], [], h) Q := t_inc k_55_54 rfl (Nat.le_of_ble_eq_true rfl)
theorem k_55_57 : lk 55 57 = some (.goto (-47), 60, 10, 0, .null) := by decide +kernel
theorem x_55_57 : Tr sc d 55 (57, [l0, l1, l2, l3], [], h) Q = Tr sc d 55 (10, [l0, l1, l2, l3], [], h) Q := t_go k_55_57 rfl
theorem k_55_60 : lk 55 60 = some (.return_, 61, 0, 0, .null) := by decide +kernel
theorem x_55_60 : Tr sc d 55 (60, [l0, l1, l2, l3], [], h) Q = Q (none, h) := t_ret k_55_60 (by rw [r_55]; rfl)
theorem e_55 : Tr sc d 55 (ent0 55 [.ref k0, .ref k1] h) Q = Tr sc d 55 (0, [some (.ref k0), some (.ref k1), none, none], [], h) Q := by
  have e : mL 55 = 4 := by decide +kernel
  unfold ent0
  rw [e]
  rfl
theorem r_56 : mR 56 = some .int := by decide +kernel
theorem k_56_0 : lk 56 0 = some (.aload_n 0, 1, 0, 0, .null) := by decide +kernel
theorem x_56_0 : Tr sc d 56 (0, [some (.ref xk), l1], [], h) Q = Tr sc d 56 (1, [some (.ref xk), l1], [.ref xk], h) Q := t_aload_n k_56_0 rfl
theorem k_56_1 : lk 56 1 = some (.getfield 31, 4, 6, 6, .int 0) := by decide +kernel
theorem x_56_1 : Tr sc d 56 (1, [l0, l1], [.ref k0], h) Q = (okp h k0 6 = true ∧ Tr sc d 56 (4, [l0, l1], [.int (hI h k0 6)], h) Q) := t_gd k_56_1 rfl
theorem k_56_4 : lk 56 4 = some (.iconst 3, 5, 0, 0, .int 3) := by decide +kernel
theorem x_56_4 : Tr sc d 56 (4, [l0, l1], [.int i0], h) Q = Tr sc d 56 (5, [l0, l1], [.int 3, .int i0], h) Q := t_go k_56_4 rfl
theorem k_56_5 : lk 56 5 = some (.if_icmp .ne 12, 8, 17, 0, .null) := by decide +kernel
theorem x_56_5 : Tr sc d 56 (5, [l0, l1], [.int i1, .int i0], h) Q = if i0 = i1 then Tr sc d 56 (8, [l0, l1], [], h) Q else Tr sc d 56 (17, [l0, l1], [], h) Q := t_if k_56_5 rfl
theorem k_56_8 : lk 56 8 = some (.aload_n 0, 9, 0, 0, .null) := by decide +kernel
theorem x_56_8 : Tr sc d 56 (8, [some (.ref xk), l1], [], h) Q = Tr sc d 56 (9, [some (.ref xk), l1], [.ref xk], h) Q := t_aload_n k_56_8 rfl
theorem k_56_9 : lk 56 9 = some (.getfield 21, 12, 6, 3, .null) := by decide +kernel
theorem x_56_9 : Tr sc d 56 (9, [l0, l1], [.ref k0], h) Q = (okp h k0 6 = true ∧ ∃ q, hR h k0 3 = some q ∧ Tr sc d 56 (12, [l0, l1], [.ref q], h) Q) := t_getr k_56_9
theorem k_56_12 : lk 56 12 = some (.iload_n 1, 13, 1, 0, .null) := by decide +kernel
theorem x_56_12 : Tr sc d 56 (12, [l0, some (.int x)], [.ref k0], h) Q = Tr sc d 56 (13, [l0, some (.int x)], [.int x, .ref k0], h) Q := t_iload_n k_56_12 rfl
theorem k_56_13 : lk 56 13 = some (.iaload, 14, 0, 0, .null) := by decide +kernel
theorem x_56_13 : Tr sc d 56 (13, [l0, l1], [.int i1, .ref k0], h) Q = (iOk sc h k0 i1 ∧ Tr sc d 56 (14, [l0, l1], [.int (iRd sc h k0 i1)], h) Q) := t_iald k_56_13
theorem k_56_14 : lk 56 14 = some (.goto 4, 17, 18, 0, .null) := by decide +kernel
theorem x_56_14 : Tr sc d 56 (14, [l0, l1], [.int i0], h) Q = Tr sc d 56 (18, [l0, l1], [.int i0], h) Q := t_go k_56_14 rfl
theorem k_56_17 : lk 56 17 = some (.iconst 1, 18, 0, 0, .int 1) := by decide +kernel
theorem x_56_17 : Tr sc d 56 (17, [l0, l1], [], h) Q = Tr sc d 56 (18, [l0, l1], [.int 1], h) Q := t_go k_56_17 rfl
theorem k_56_18 : lk 56 18 = some (.ireturn, 19, 0, 0, .null) := by decide +kernel
theorem x_56_18 : Tr sc d 56 (18, [l0, l1], [.int i0], h) Q = Q (some (.int i0), h) := t_ret k_56_18 (by rw [r_56]; rfl)
theorem e_56 : Tr sc d 56 (ent0 56 [.ref k0, .int i1] h) Q = Tr sc d 56 (0, [some (.ref k0), some (.int i1)], [], h) Q := by
  have e : mL 56 = 2 := by decide +kernel
  unfold ent0
  rw [e]
  rfl
theorem r_57 : mR 57 = some .int := by decide +kernel
theorem k_57_0 : lk 57 0 = some (.iconst 0, 1, 0, 0, .int 0) := by decide +kernel
theorem x_57_0 : Tr sc d 57 (0, [l0, l1, l2], [], h) Q = Tr sc d 57 (1, [l0, l1, l2], [.int 0], h) Q := t_go k_57_0 rfl
theorem k_57_1 : lk 57 1 = some (.istore_n 1, 2, 1, 0, .null) := by decide +kernel
theorem x_57_1 : Tr sc d 57 (1, [l0, l1, l2], [.int i0], h) Q = Tr sc d 57 (2, [cl2 l0, some (.int i0), l2], [], h) Q := t_istore_n k_57_1 (Nat.le_of_ble_eq_true rfl)
theorem k_57_2 : lk 57 2 = some (.iconst 0, 3, 0, 0, .int 0) := by decide +kernel
theorem x_57_2 : Tr sc d 57 (2, [l0, l1, l2], [], h) Q = Tr sc d 57 (3, [l0, l1, l2], [.int 0], h) Q := t_go k_57_2 rfl
theorem k_57_3 : lk 57 3 = some (.istore_n 2, 4, 2, 0, .null) := by decide +kernel
theorem x_57_3 : Tr sc d 57 (3, [l0, l1, l2], [.int i0], h) Q = Tr sc d 57 (4, [l0, cl2 l1, some (.int i0)], [], h) Q := t_istore_n k_57_3 (Nat.le_of_ble_eq_true rfl)
theorem k_57_4 : lk 57 4 = some (.iload_n 2, 5, 2, 0, .null) := by decide +kernel
theorem x_57_4 : Tr sc d 57 (4, [l0, l1, some (.int x)], [], h) Q = Tr sc d 57 (5, [l0, l1, some (.int x)], [.int x], h) Q := t_iload_n k_57_4 rfl
theorem k_57_5 : lk 57 5 = some (.aload_n 0, 6, 0, 0, .null) := by decide +kernel
theorem x_57_5 : Tr sc d 57 (5, [some (.ref xk), l1, l2], [.int i0], h) Q = Tr sc d 57 (6, [some (.ref xk), l1, l2], [.ref xk, .int i0], h) Q := t_aload_n k_57_5 rfl
theorem k_57_6 : lk 57 6 = some (.getfield 38, 9, 6, 8, .int 0) := by decide +kernel
theorem x_57_6 : Tr sc d 57 (6, [l0, l1, l2], [.ref k1, .int i0], h) Q = (okp h k1 6 = true ∧ Tr sc d 57 (9, [l0, l1, l2], [.int (hI h k1 8), .int i0], h) Q) := t_gd k_57_6 rfl
theorem k_57_9 : lk 57 9 = some (.if_icmp .ge 17, 12, 26, 0, .null) := by decide +kernel
theorem x_57_9 : Tr sc d 57 (9, [l0, l1, l2], [.int i1, .int i0], h) Q = if i1 ≤ i0 then Tr sc d 57 (26, [l0, l1, l2], [], h) Q else Tr sc d 57 (12, [l0, l1, l2], [], h) Q := t_if k_57_9 rfl
theorem k_57_12 : lk 57 12 = some (.iload_n 1, 13, 1, 0, .null) := by decide +kernel
theorem x_57_12 : Tr sc d 57 (12, [l0, some (.int x), l2], [], h) Q = Tr sc d 57 (13, [l0, some (.int x), l2], [.int x], h) Q := t_iload_n k_57_12 rfl
theorem k_57_13 : lk 57 13 = some (.aload_n 0, 14, 0, 0, .null) := by decide +kernel
theorem x_57_13 : Tr sc d 57 (13, [some (.ref xk), l1, l2], [.int i0], h) Q = Tr sc d 57 (14, [some (.ref xk), l1, l2], [.ref xk, .int i0], h) Q := t_aload_n k_57_13 rfl
theorem k_57_14 : lk 57 14 = some (.iload_n 2, 15, 2, 0, .null) := by decide +kernel
theorem x_57_14 : Tr sc d 57 (14, [l0, l1, some (.int x)], [.ref k1, .int i0], h) Q = Tr sc d 57 (15, [l0, l1, some (.int x)], [.int x, .ref k1, .int i0], h) Q := t_iload_n k_57_14 rfl
theorem k_57_15 : lk 57 15 = some (.invokevirtual 57, 18, 56, 1, .null) := by decide +kernel
theorem x_57_15 : Tr sc (d + 1) 57 (15, [l0, l1, l2], [.int i2, .ref k1, .int i0], h) Q = (okp h k1 6 = true ∧ Tr sc d 56 (ent0 56 [.ref k1, .int i2] h) (fun z => Tr sc (d + 1) 57 (18, [l0, l1, l2], z.1.toList ++ [.int i0], z.2) Q)) := t_cv (as := [.int i2]) (r := [.int i0]) k_57_15 rfl rfl (Nat.le_of_ble_eq_true rfl) (Nat.le_of_ble_eq_true rfl) (Nat.le_of_ble_eq_true rfl)
theorem k_57_18 : lk 57 18 = some (.iadd, 19, 0, 0, .null) := by decide +kernel
theorem x_57_18 : Tr sc d 57 (18, [l0, l1, l2], [.int i1, .int i0], h) Q = Tr sc d 57 (19, [l0, l1, l2], [.int (i0 + i1)], h) Q := t_go k_57_18 rfl
theorem k_57_19 : lk 57 19 = some (.istore_n 1, 20, 1, 0, .null) := by decide +kernel
theorem x_57_19 : Tr sc d 57 (19, [l0, l1, l2], [.int i0], h) Q = Tr sc d 57 (20, [cl2 l0, some (.int i0), l2], [], h) Q := t_istore_n k_57_19 (Nat.le_of_ble_eq_true rfl)
theorem k_57_20 : lk 57 20 = some (.iinc 2 1, 23, 2, 0, .int 1) := by decide +kernel
theorem x_57_20 : Tr sc d 57 (20, [l0, l1, some (.int x)], [], h) Q = Tr sc d 57 (23, [l0, cl2 l1, some (.int (x + 1))], [], h) Q := t_inc k_57_20 rfl (Nat.le_of_ble_eq_true rfl)
theorem k_57_23 : lk 57 23 = some (.goto (-19), 26, 4, 0, .null) := by decide +kernel
theorem x_57_23 : Tr sc d 57 (23, [l0, l1, l2], [], h) Q = Tr sc d 57 (4, [l0, l1, l2], [], h) Q := t_go k_57_23 rfl
theorem k_57_26 : lk 57 26 = some (.iload_n 1, 27, 1, 0, .null) := by decide +kernel
theorem x_57_26 : Tr sc d 57 (26, [l0, some (.int x), l2], [], h) Q = Tr sc d 57 (27, [l0, some (.int x), l2], [.int x], h) Q := t_iload_n k_57_26 rfl
theorem k_57_27 : lk 57 27 = some (.ireturn, 28, 0, 0, .null) := by decide +kernel
theorem x_57_27 : Tr sc d 57 (27, [l0, l1, l2], [.int i0], h) Q = Q (some (.int i0), h) := t_ret k_57_27 (by rw [r_57]; rfl)
theorem e_57 : Tr sc d 57 (ent0 57 [.ref k0] h) Q = Tr sc d 57 (0, [some (.ref k0), none, none], [], h) Q := by
  have e : mL 57 = 3 := by decide +kernel
  unfold ent0
  rw [e]
  rfl
theorem r_58 : mR 58 = some .boolean := by decide +kernel
theorem k_58_0 : lk 58 0 = some (.aload_n 0, 1, 0, 0, .null) := by decide +kernel
theorem x_58_0 : Tr sc d 58 (0, [some (.ref xk), l1, l2], [], h) Q = Tr sc d 58 (1, [some (.ref xk), l1, l2], [.ref xk], h) Q := t_aload_n k_58_0 rfl
theorem k_58_1 : lk 58 1 = some (.getfield 31, 4, 6, 6, .int 0) := by decide +kernel
theorem x_58_1 : Tr sc d 58 (1, [l0, l1, l2], [.ref k0], h) Q = (okp h k0 6 = true ∧ Tr sc d 58 (4, [l0, l1, l2], [.int (hI h k0 6)], h) Q) := t_gd k_58_1 rfl
theorem k_58_4 : lk 58 4 = some (.iconst 4, 5, 0, 0, .int 4) := by decide +kernel
theorem x_58_4 : Tr sc d 58 (4, [l0, l1, l2], [.int i0], h) Q = Tr sc d 58 (5, [l0, l1, l2], [.int 4, .int i0], h) Q := t_go k_58_4 rfl
theorem k_58_5 : lk 58 5 = some (.if_icmp .ne 20, 8, 25, 0, .null) := by decide +kernel
theorem x_58_5 : Tr sc d 58 (5, [l0, l1, l2], [.int i1, .int i0], h) Q = if i0 = i1 then Tr sc d 58 (8, [l0, l1, l2], [], h) Q else Tr sc d 58 (25, [l0, l1, l2], [], h) Q := t_if k_58_5 rfl
theorem k_58_8 : lk 58 8 = some (.aload_n 0, 9, 0, 0, .null) := by decide +kernel
theorem x_58_8 : Tr sc d 58 (8, [some (.ref xk), l1, l2], [], h) Q = Tr sc d 58 (9, [some (.ref xk), l1, l2], [.ref xk], h) Q := t_aload_n k_58_8 rfl
theorem k_58_9 : lk 58 9 = some (.getfield 21, 12, 6, 3, .null) := by decide +kernel
theorem x_58_9 : Tr sc d 58 (9, [l0, l1, l2], [.ref k0], h) Q = (okp h k0 6 = true ∧ ∃ q, hR h k0 3 = some q ∧ Tr sc d 58 (12, [l0, l1, l2], [.ref q], h) Q) := t_getr k_58_9
theorem k_58_12 : lk 58 12 = some (.iload_n 1, 13, 1, 0, .null) := by decide +kernel
theorem x_58_12 : Tr sc d 58 (12, [l0, some (.int x), l2], [.ref k0], h) Q = Tr sc d 58 (13, [l0, some (.int x), l2], [.int x, .ref k0], h) Q := t_iload_n k_58_12 rfl
theorem k_58_13 : lk 58 13 = some (.iaload, 14, 0, 0, .null) := by decide +kernel
theorem x_58_13 : Tr sc d 58 (13, [l0, l1, l2], [.int i1, .ref k0], h) Q = (iOk sc h k0 i1 ∧ Tr sc d 58 (14, [l0, l1, l2], [.int (iRd sc h k0 i1)], h) Q) := t_iald k_58_13
theorem k_58_14 : lk 58 14 = some (.iload_n 2, 15, 2, 0, .null) := by decide +kernel
theorem x_58_14 : Tr sc d 58 (14, [l0, l1, some (.int x)], [.int i0], h) Q = Tr sc d 58 (15, [l0, l1, some (.int x)], [.int x, .int i0], h) Q := t_iload_n k_58_14 rfl
theorem k_58_15 : lk 58 15 = some (.ishr, 16, 0, 0, .null) := by decide +kernel
theorem x_58_15 : Tr sc d 58 (15, [l0, l1, l2], [.int i1, .int i0], h) Q = Tr sc d 58 (16, [l0, l1, l2], [.int (i0 >>> (i1 &&& 31))], h) Q := t_go k_58_15 rfl
theorem k_58_16 : lk 58 16 = some (.iconst 1, 17, 0, 0, .int 1) := by decide +kernel
theorem x_58_16 : Tr sc d 58 (16, [l0, l1, l2], [.int i0], h) Q = Tr sc d 58 (17, [l0, l1, l2], [.int 1, .int i0], h) Q := t_go k_58_16 rfl
theorem k_58_17 : lk 58 17 = some (.iand, 18, 0, 0, .null) := by decide +kernel
theorem x_58_17 : Tr sc d 58 (17, [l0, l1, l2], [.int i1, .int i0], h) Q = Tr sc d 58 (18, [l0, l1, l2], [.int (i0 &&& i1)], h) Q := t_go k_58_17 rfl
theorem k_58_18 : lk 58 18 = some (.ifCond .eq 7, 21, 25, 0, .null) := by decide +kernel
theorem x_58_18 : Tr sc d 58 (18, [l0, l1, l2], [.int i0], h) Q = if i0 = 0 then Tr sc d 58 (25, [l0, l1, l2], [], h) Q else Tr sc d 58 (21, [l0, l1, l2], [], h) Q := t_if k_58_18 rfl
theorem k_58_21 : lk 58 21 = some (.iconst 1, 22, 0, 0, .int 1) := by decide +kernel
theorem x_58_21 : Tr sc d 58 (21, [l0, l1, l2], [], h) Q = Tr sc d 58 (22, [l0, l1, l2], [.int 1], h) Q := t_go k_58_21 rfl
theorem k_58_22 : lk 58 22 = some (.goto 4, 25, 26, 0, .null) := by decide +kernel
theorem x_58_22 : Tr sc d 58 (22, [l0, l1, l2], [.int i0], h) Q = Tr sc d 58 (26, [l0, l1, l2], [.int i0], h) Q := t_go k_58_22 rfl
theorem k_58_25 : lk 58 25 = some (.iconst 0, 26, 0, 0, .int 0) := by decide +kernel
theorem x_58_25 : Tr sc d 58 (25, [l0, l1, l2], [], h) Q = Tr sc d 58 (26, [l0, l1, l2], [.int 0], h) Q := t_go k_58_25 rfl
theorem k_58_26 : lk 58 26 = some (.ireturn, 27, 0, 0, .null) := by decide +kernel
theorem x_58_26 : Tr sc d 58 (26, [l0, l1, l2], [.int i0], h) Q = (vp_nar .boolean i0 = i0 ∧ Q (some (.int i0), h)) := t_zret k_58_26 r_58
theorem e_58 : Tr sc d 58 (ent0 58 [.ref k0, .int i1, .int i2] h) Q = Tr sc d 58 (0, [some (.ref k0), some (.int i1), some (.int i2)], [], h) Q := by
  have e : mL 58 = 3 := by decide +kernel
  unfold ent0
  rw [e]
  rfl
theorem r_59 : mR 59 = some .int := by decide +kernel
theorem k_59_0 : lk 59 0 = some (.iconst 0, 1, 0, 0, .int 0) := by decide +kernel
theorem x_59_0 : Tr sc d 59 (0, [l0, l1, l2], [], h) Q = Tr sc d 59 (1, [l0, l1, l2], [.int 0], h) Q := t_go k_59_0 rfl
theorem k_59_1 : lk 59 1 = some (.istore_n 1, 2, 1, 0, .null) := by decide +kernel
theorem x_59_1 : Tr sc d 59 (1, [l0, l1, l2], [.int i0], h) Q = Tr sc d 59 (2, [cl2 l0, some (.int i0), l2], [], h) Q := t_istore_n k_59_1 (Nat.le_of_ble_eq_true rfl)
theorem k_59_2 : lk 59 2 = some (.iconst 0, 3, 0, 0, .int 0) := by decide +kernel
theorem x_59_2 : Tr sc d 59 (2, [l0, l1, l2], [], h) Q = Tr sc d 59 (3, [l0, l1, l2], [.int 0], h) Q := t_go k_59_2 rfl
theorem k_59_3 : lk 59 3 = some (.istore_n 2, 4, 2, 0, .null) := by decide +kernel
theorem x_59_3 : Tr sc d 59 (3, [l0, l1, l2], [.int i0], h) Q = Tr sc d 59 (4, [l0, cl2 l1, some (.int i0)], [], h) Q := t_istore_n k_59_3 (Nat.le_of_ble_eq_true rfl)
theorem k_59_4 : lk 59 4 = some (.iload_n 2, 5, 2, 0, .null) := by decide +kernel
theorem x_59_4 : Tr sc d 59 (4, [l0, l1, some (.int x)], [], h) Q = Tr sc d 59 (5, [l0, l1, some (.int x)], [.int x], h) Q := t_iload_n k_59_4 rfl
theorem k_59_5 : lk 59 5 = some (.aload_n 0, 6, 0, 0, .null) := by decide +kernel
theorem x_59_5 : Tr sc d 59 (5, [some (.ref xk), l1, l2], [.int i0], h) Q = Tr sc d 59 (6, [some (.ref xk), l1, l2], [.ref xk, .int i0], h) Q := t_aload_n k_59_5 rfl
theorem k_59_6 : lk 59 6 = some (.getfield 38, 9, 6, 8, .int 0) := by decide +kernel
theorem x_59_6 : Tr sc d 59 (6, [l0, l1, l2], [.ref k1, .int i0], h) Q = (okp h k1 6 = true ∧ Tr sc d 59 (9, [l0, l1, l2], [.int (hI h k1 8), .int i0], h) Q) := t_gd k_59_6 rfl
theorem k_59_9 : lk 59 9 = some (.if_icmp .ge 21, 12, 30, 0, .null) := by decide +kernel
theorem x_59_9 : Tr sc d 59 (9, [l0, l1, l2], [.int i1, .int i0], h) Q = if i1 ≤ i0 then Tr sc d 59 (30, [l0, l1, l2], [], h) Q else Tr sc d 59 (12, [l0, l1, l2], [], h) Q := t_if k_59_9 rfl
theorem k_59_12 : lk 59 12 = some (.iload_n 1, 13, 1, 0, .null) := by decide +kernel
theorem x_59_12 : Tr sc d 59 (12, [l0, some (.int x), l2], [], h) Q = Tr sc d 59 (13, [l0, some (.int x), l2], [.int x], h) Q := t_iload_n k_59_12 rfl
theorem k_59_13 : lk 59 13 = some (.aload_n 0, 14, 0, 0, .null) := by decide +kernel
theorem x_59_13 : Tr sc d 59 (13, [some (.ref xk), l1, l2], [.int i0], h) Q = Tr sc d 59 (14, [some (.ref xk), l1, l2], [.ref xk, .int i0], h) Q := t_aload_n k_59_13 rfl
theorem k_59_14 : lk 59 14 = some (.getfield 21, 17, 6, 3, .null) := by decide +kernel
theorem x_59_14 : Tr sc d 59 (14, [l0, l1, l2], [.ref k1, .int i0], h) Q = (okp h k1 6 = true ∧ ∃ q, hR h k1 3 = some q ∧ Tr sc d 59 (17, [l0, l1, l2], [.ref q, .int i0], h) Q) := t_getr k_59_14
theorem k_59_17 : lk 59 17 = some (.iload_n 2, 18, 2, 0, .null) := by decide +kernel
theorem x_59_17 : Tr sc d 59 (17, [l0, l1, some (.int x)], [.ref k1, .int i0], h) Q = Tr sc d 59 (18, [l0, l1, some (.int x)], [.int x, .ref k1, .int i0], h) Q := t_iload_n k_59_17 rfl
theorem k_59_18 : lk 59 18 = some (.iaload, 19, 0, 0, .null) := by decide +kernel
theorem x_59_18 : Tr sc d 59 (18, [l0, l1, l2], [.int i2, .ref k1, .int i0], h) Q = (iOk sc h k1 i2 ∧ Tr sc d 59 (19, [l0, l1, l2], [.int (iRd sc h k1 i2), .int i0], h) Q) := t_iald k_59_18
theorem k_59_19 : lk 59 19 = some (.invokestatic 61, 22, 252, 1, .null) := by decide +kernel
theorem x_59_19 : Tr sc (d + 1) 59 (19, [l0, l1, l2], [.int i1, .int i0], h) Q = Tr sc d 252 (ent0 252 [.int i1] h) (fun z => Tr sc (d + 1) 59 (22, [l0, l1, l2], z.1.toList ++ [.int i0], z.2) Q) := t_cs (as := [.int i1]) (r := [.int i0]) k_59_19 (by decide) rfl rfl (Nat.le_of_ble_eq_true rfl) (Nat.le_of_ble_eq_true rfl)
theorem k_59_22 : lk 59 22 = some (.iadd, 23, 0, 0, .null) := by decide +kernel
theorem x_59_22 : Tr sc d 59 (22, [l0, l1, l2], [.int i1, .int i0], h) Q = Tr sc d 59 (23, [l0, l1, l2], [.int (i0 + i1)], h) Q := t_go k_59_22 rfl
theorem k_59_23 : lk 59 23 = some (.istore_n 1, 24, 1, 0, .null) := by decide +kernel
theorem x_59_23 : Tr sc d 59 (23, [l0, l1, l2], [.int i0], h) Q = Tr sc d 59 (24, [cl2 l0, some (.int i0), l2], [], h) Q := t_istore_n k_59_23 (Nat.le_of_ble_eq_true rfl)
theorem k_59_24 : lk 59 24 = some (.iinc 2 1, 27, 2, 0, .int 1) := by decide +kernel
theorem x_59_24 : Tr sc d 59 (24, [l0, l1, some (.int x)], [], h) Q = Tr sc d 59 (27, [l0, cl2 l1, some (.int (x + 1))], [], h) Q := t_inc k_59_24 rfl (Nat.le_of_ble_eq_true rfl)
theorem k_59_27 : lk 59 27 = some (.goto (-23), 30, 4, 0, .null) := by decide +kernel
theorem x_59_27 : Tr sc d 59 (27, [l0, l1, l2], [], h) Q = Tr sc d 59 (4, [l0, l1, l2], [], h) Q := t_go k_59_27 rfl
theorem k_59_30 : lk 59 30 = some (.iload_n 1, 31, 1, 0, .null) := by decide +kernel
theorem x_59_30 : Tr sc d 59 (30, [l0, some (.int x), l2], [], h) Q = Tr sc d 59 (31, [l0, some (.int x), l2], [.int x], h) Q := t_iload_n k_59_30 rfl
theorem k_59_31 : lk 59 31 = some (.ireturn, 32, 0, 0, .null) := by decide +kernel
theorem x_59_31 : Tr sc d 59 (31, [l0, l1, l2], [.int i0], h) Q = Q (some (.int i0), h) := t_ret k_59_31 (by rw [r_59]; rfl)
theorem e_59 : Tr sc d 59 (ent0 59 [.ref k0] h) Q = Tr sc d 59 (0, [some (.ref k0), none, none], [], h) Q := by
  have e : mL 59 = 3 := by decide +kernel
  unfold ent0
  rw [e]
  rfl
theorem r_60 : mR 60 = some .boolean := by decide +kernel
theorem k_60_0 : lk 60 0 = some (.iconst 0, 1, 0, 0, .int 0) := by decide +kernel
theorem x_60_0 : Tr sc d 60 (0, [l0, l1], [], h) Q = Tr sc d 60 (1, [l0, l1], [.int 0], h) Q := t_go k_60_0 rfl
theorem k_60_1 : lk 60 1 = some (.istore_n 1, 2, 1, 0, .null) := by decide +kernel
theorem x_60_1 : Tr sc d 60 (1, [l0, l1], [.int i0], h) Q = Tr sc d 60 (2, [cl2 l0, some (.int i0)], [], h) Q := t_istore_n k_60_1 (Nat.le_of_ble_eq_true rfl)
theorem k_60_2 : lk 60 2 = some (.iload_n 1, 3, 1, 0, .null) := by decide +kernel
theorem x_60_2 : Tr sc d 60 (2, [l0, some (.int x)], [], h) Q = Tr sc d 60 (3, [l0, some (.int x)], [.int x], h) Q := t_iload_n k_60_2 rfl
theorem k_60_3 : lk 60 3 = some (.aload_n 0, 4, 0, 0, .null) := by decide +kernel
theorem x_60_3 : Tr sc d 60 (3, [some (.ref xk), l1], [.int i0], h) Q = Tr sc d 60 (4, [some (.ref xk), l1], [.ref xk, .int i0], h) Q := t_aload_n k_60_3 rfl
theorem k_60_4 : lk 60 4 = some (.getfield 38, 7, 6, 8, .int 0) := by decide +kernel
theorem x_60_4 : Tr sc d 60 (4, [l0, l1], [.ref k1, .int i0], h) Q = (okp h k1 6 = true ∧ Tr sc d 60 (7, [l0, l1], [.int (hI h k1 8), .int i0], h) Q) := t_gd k_60_4 rfl
theorem k_60_7 : lk 60 7 = some (.if_icmp .ge 20, 10, 27, 0, .null) := by decide +kernel
theorem x_60_7 : Tr sc d 60 (7, [l0, l1], [.int i1, .int i0], h) Q = if i1 ≤ i0 then Tr sc d 60 (27, [l0, l1], [], h) Q else Tr sc d 60 (10, [l0, l1], [], h) Q := t_if k_60_7 rfl
theorem k_60_10 : lk 60 10 = some (.aload_n 0, 11, 0, 0, .null) := by decide +kernel
theorem x_60_10 : Tr sc d 60 (10, [some (.ref xk), l1], [], h) Q = Tr sc d 60 (11, [some (.ref xk), l1], [.ref xk], h) Q := t_aload_n k_60_10 rfl
theorem k_60_11 : lk 60 11 = some (.getfield 9, 14, 6, 0, .null) := by decide +kernel
theorem x_60_11 : Tr sc d 60 (11, [l0, l1], [.ref k0], h) Q = (okp h k0 6 = true ∧ ∃ q, hR h k0 0 = some q ∧ Tr sc d 60 (14, [l0, l1], [.ref q], h) Q) := t_getr k_60_11
theorem k_60_14 : lk 60 14 = some (.iload_n 1, 15, 1, 0, .null) := by decide +kernel
theorem x_60_14 : Tr sc d 60 (14, [l0, some (.int x)], [.ref k0], h) Q = Tr sc d 60 (15, [l0, some (.int x)], [.int x, .ref k0], h) Q := t_iload_n k_60_14 rfl
theorem k_60_15 : lk 60 15 = some (.iaload, 16, 0, 0, .null) := by decide +kernel
theorem x_60_15 : Tr sc d 60 (15, [l0, l1], [.int i1, .ref k0], h) Q = (iOk sc h k0 i1 ∧ Tr sc d 60 (16, [l0, l1], [.int (iRd sc h k0 i1)], h) Q) := t_iald k_60_15
theorem k_60_16 : lk 60 16 = some (.ifCond .eq 5, 19, 21, 0, .null) := by decide +kernel
theorem x_60_16 : Tr sc d 60 (16, [l0, l1], [.int i0], h) Q = if i0 = 0 then Tr sc d 60 (21, [l0, l1], [], h) Q else Tr sc d 60 (19, [l0, l1], [], h) Q := t_if k_60_16 rfl
theorem k_60_19 : lk 60 19 = some (.iconst 0, 20, 0, 0, .int 0) := by decide +kernel
theorem x_60_19 : Tr sc d 60 (19, [l0, l1], [], h) Q = Tr sc d 60 (20, [l0, l1], [.int 0], h) Q := t_go k_60_19 rfl
theorem k_60_20 : lk 60 20 = some (.ireturn, 21, 0, 0, .null) := by decide +kernel
theorem x_60_20 : Tr sc d 60 (20, [l0, l1], [.int i0], h) Q = (vp_nar .boolean i0 = i0 ∧ Q (some (.int i0), h)) := t_zret k_60_20 r_60
theorem k_60_21 : lk 60 21 = some (.iinc 1 1, 24, 1, 0, .int 1) := by decide +kernel
theorem x_60_21 : Tr sc d 60 (21, [l0, some (.int x)], [], h) Q = Tr sc d 60 (24, [cl2 l0, some (.int (x + 1))], [], h) Q := t_inc k_60_21 rfl (Nat.le_of_ble_eq_true rfl)
theorem k_60_24 : lk 60 24 = some (.goto (-22), 27, 2, 0, .null) := by decide +kernel
theorem x_60_24 : Tr sc d 60 (24, [l0, l1], [], h) Q = Tr sc d 60 (2, [l0, l1], [], h) Q := t_go k_60_24 rfl
theorem k_60_27 : lk 60 27 = some (.iconst 1, 28, 0, 0, .int 1) := by decide +kernel
theorem x_60_27 : Tr sc d 60 (27, [l0, l1], [], h) Q = Tr sc d 60 (28, [l0, l1], [.int 1], h) Q := t_go k_60_27 rfl
theorem k_60_28 : lk 60 28 = some (.ireturn, 29, 0, 0, .null) := by decide +kernel
theorem x_60_28 : Tr sc d 60 (28, [l0, l1], [.int i0], h) Q = (vp_nar .boolean i0 = i0 ∧ Q (some (.int i0), h)) := t_zret k_60_28 r_60
theorem e_60 : Tr sc d 60 (ent0 60 [.ref k0] h) Q = Tr sc d 60 (0, [some (.ref k0), none], [], h) Q := by
  have e : mL 60 = 2 := by decide +kernel
  unfold ent0
  rw [e]
  rfl
theorem r_61 : mR 61 = some .boolean := by decide +kernel
theorem k_61_0 : lk 61 0 = some (.iconst 0, 1, 0, 0, .int 0) := by decide +kernel
theorem x_61_0 : Tr sc d 61 (0, [l0, l1, l2], [], h) Q = Tr sc d 61 (1, [l0, l1, l2], [.int 0], h) Q := t_go k_61_0 rfl
theorem k_61_1 : lk 61 1 = some (.istore_n 1, 2, 1, 0, .null) := by decide +kernel
theorem x_61_1 : Tr sc d 61 (1, [l0, l1, l2], [.int i0], h) Q = Tr sc d 61 (2, [cl2 l0, some (.int i0), l2], [], h) Q := t_istore_n k_61_1 (Nat.le_of_ble_eq_true rfl)
theorem k_61_2 : lk 61 2 = some (.iload_n 1, 3, 1, 0, .null) := by decide +kernel
theorem x_61_2 : Tr sc d 61 (2, [l0, some (.int x), l2], [], h) Q = Tr sc d 61 (3, [l0, some (.int x), l2], [.int x], h) Q := t_iload_n k_61_2 rfl
theorem k_61_3 : lk 61 3 = some (.aload_n 0, 4, 0, 0, .null) := by decide +kernel
theorem x_61_3 : Tr sc d 61 (3, [some (.ref xk), l1, l2], [.int i0], h) Q = Tr sc d 61 (4, [some (.ref xk), l1, l2], [.ref xk, .int i0], h) Q := t_aload_n k_61_3 rfl
theorem k_61_4 : lk 61 4 = some (.getfield 38, 7, 6, 8, .int 0) := by decide +kernel
theorem x_61_4 : Tr sc d 61 (4, [l0, l1, l2], [.ref k1, .int i0], h) Q = (okp h k1 6 = true ∧ Tr sc d 61 (7, [l0, l1, l2], [.int (hI h k1 8), .int i0], h) Q) := t_gd k_61_4 rfl
theorem k_61_7 : lk 61 7 = some (.if_icmp .ge 54, 10, 61, 0, .null) := by decide +kernel
theorem x_61_7 : Tr sc d 61 (7, [l0, l1, l2], [.int i1, .int i0], h) Q = if i1 ≤ i0 then Tr sc d 61 (61, [l0, l1, l2], [], h) Q else Tr sc d 61 (10, [l0, l1, l2], [], h) Q := t_if k_61_7 rfl
theorem k_61_10 : lk 61 10 = some (.iconst 0, 11, 0, 0, .int 0) := by decide +kernel
theorem x_61_10 : Tr sc d 61 (10, [l0, l1, l2], [], h) Q = Tr sc d 61 (11, [l0, l1, l2], [.int 0], h) Q := t_go k_61_10 rfl
theorem k_61_11 : lk 61 11 = some (.istore_n 2, 12, 2, 0, .null) := by decide +kernel
theorem x_61_11 : Tr sc d 61 (11, [l0, l1, l2], [.int i0], h) Q = Tr sc d 61 (12, [l0, cl2 l1, some (.int i0)], [], h) Q := t_istore_n k_61_11 (Nat.le_of_ble_eq_true rfl)
theorem k_61_12 : lk 61 12 = some (.iload_n 2, 13, 2, 0, .null) := by decide +kernel
theorem x_61_12 : Tr sc d 61 (12, [l0, l1, some (.int x)], [], h) Q = Tr sc d 61 (13, [l0, l1, some (.int x)], [.int x], h) Q := t_iload_n k_61_12 rfl
theorem k_61_13 : lk 61 13 = some (.iload_n 1, 14, 1, 0, .null) := by decide +kernel
theorem x_61_13 : Tr sc d 61 (13, [l0, some (.int x), l2], [.int i0], h) Q = Tr sc d 61 (14, [l0, some (.int x), l2], [.int x, .int i0], h) Q := t_iload_n k_61_13 rfl
theorem k_61_14 : lk 61 14 = some (.if_icmp .ge 41, 17, 55, 0, .null) := by decide +kernel
theorem x_61_14 : Tr sc d 61 (14, [l0, l1, l2], [.int i1, .int i0], h) Q = if i1 ≤ i0 then Tr sc d 61 (55, [l0, l1, l2], [], h) Q else Tr sc d 61 (17, [l0, l1, l2], [], h) Q := t_if k_61_14 rfl
theorem k_61_17 : lk 61 17 = some (.aload_n 0, 18, 0, 0, .null) := by decide +kernel
theorem x_61_17 : Tr sc d 61 (17, [some (.ref xk), l1, l2], [], h) Q = Tr sc d 61 (18, [some (.ref xk), l1, l2], [.ref xk], h) Q := t_aload_n k_61_17 rfl
theorem k_61_18 : lk 61 18 = some (.getfield 15, 21, 6, 1, .null) := by decide +kernel
theorem x_61_18 : Tr sc d 61 (18, [l0, l1, l2], [.ref k0], h) Q = (okp h k0 6 = true ∧ ∃ q, hR h k0 1 = some q ∧ Tr sc d 61 (21, [l0, l1, l2], [.ref q], h) Q) := t_getr k_61_18
theorem k_61_21 : lk 61 21 = some (.iload_n 1, 22, 1, 0, .null) := by decide +kernel
theorem x_61_21 : Tr sc d 61 (21, [l0, some (.int x), l2], [.ref k0], h) Q = Tr sc d 61 (22, [l0, some (.int x), l2], [.int x, .ref k0], h) Q := t_iload_n k_61_21 rfl
theorem k_61_22 : lk 61 22 = some (.iaload, 23, 0, 0, .null) := by decide +kernel
theorem x_61_22 : Tr sc d 61 (22, [l0, l1, l2], [.int i1, .ref k0], h) Q = (iOk sc h k0 i1 ∧ Tr sc d 61 (23, [l0, l1, l2], [.int (iRd sc h k0 i1)], h) Q) := t_iald k_61_22
theorem k_61_23 : lk 61 23 = some (.aload_n 0, 24, 0, 0, .null) := by decide +kernel
theorem x_61_23 : Tr sc d 61 (23, [some (.ref xk), l1, l2], [.int i0], h) Q = Tr sc d 61 (24, [some (.ref xk), l1, l2], [.ref xk, .int i0], h) Q := t_aload_n k_61_23 rfl
theorem k_61_24 : lk 61 24 = some (.getfield 15, 27, 6, 1, .null) := by decide +kernel
theorem x_61_24 : Tr sc d 61 (24, [l0, l1, l2], [.ref k1, .int i0], h) Q = (okp h k1 6 = true ∧ ∃ q, hR h k1 1 = some q ∧ Tr sc d 61 (27, [l0, l1, l2], [.ref q, .int i0], h) Q) := t_getr k_61_24
theorem k_61_27 : lk 61 27 = some (.iload_n 2, 28, 2, 0, .null) := by decide +kernel
theorem x_61_27 : Tr sc d 61 (27, [l0, l1, some (.int x)], [.ref k1, .int i0], h) Q = Tr sc d 61 (28, [l0, l1, some (.int x)], [.int x, .ref k1, .int i0], h) Q := t_iload_n k_61_27 rfl
theorem k_61_28 : lk 61 28 = some (.iaload, 29, 0, 0, .null) := by decide +kernel
theorem x_61_28 : Tr sc d 61 (28, [l0, l1, l2], [.int i2, .ref k1, .int i0], h) Q = (iOk sc h k1 i2 ∧ Tr sc d 61 (29, [l0, l1, l2], [.int (iRd sc h k1 i2), .int i0], h) Q) := t_iald k_61_28
theorem k_61_29 : lk 61 29 = some (.if_icmp .ne 20, 32, 49, 0, .null) := by decide +kernel
theorem x_61_29 : Tr sc d 61 (29, [l0, l1, l2], [.int i1, .int i0], h) Q = if i0 = i1 then Tr sc d 61 (32, [l0, l1, l2], [], h) Q else Tr sc d 61 (49, [l0, l1, l2], [], h) Q := t_if k_61_29 rfl
theorem k_61_32 : lk 61 32 = some (.aload_n 0, 33, 0, 0, .null) := by decide +kernel
theorem x_61_32 : Tr sc d 61 (32, [some (.ref xk), l1, l2], [], h) Q = Tr sc d 61 (33, [some (.ref xk), l1, l2], [.ref xk], h) Q := t_aload_n k_61_32 rfl
theorem k_61_33 : lk 61 33 = some (.getfield 18, 36, 6, 2, .null) := by decide +kernel
theorem x_61_33 : Tr sc d 61 (33, [l0, l1, l2], [.ref k0], h) Q = (okp h k0 6 = true ∧ ∃ q, hR h k0 2 = some q ∧ Tr sc d 61 (36, [l0, l1, l2], [.ref q], h) Q) := t_getr k_61_33
theorem k_61_36 : lk 61 36 = some (.iload_n 1, 37, 1, 0, .null) := by decide +kernel
theorem x_61_36 : Tr sc d 61 (36, [l0, some (.int x), l2], [.ref k0], h) Q = Tr sc d 61 (37, [l0, some (.int x), l2], [.int x, .ref k0], h) Q := t_iload_n k_61_36 rfl
theorem k_61_37 : lk 61 37 = some (.iaload, 38, 0, 0, .null) := by decide +kernel
theorem x_61_37 : Tr sc d 61 (37, [l0, l1, l2], [.int i1, .ref k0], h) Q = (iOk sc h k0 i1 ∧ Tr sc d 61 (38, [l0, l1, l2], [.int (iRd sc h k0 i1)], h) Q) := t_iald k_61_37
theorem k_61_38 : lk 61 38 = some (.aload_n 0, 39, 0, 0, .null) := by decide +kernel
theorem x_61_38 : Tr sc d 61 (38, [some (.ref xk), l1, l2], [.int i0], h) Q = Tr sc d 61 (39, [some (.ref xk), l1, l2], [.ref xk, .int i0], h) Q := t_aload_n k_61_38 rfl
theorem k_61_39 : lk 61 39 = some (.getfield 18, 42, 6, 2, .null) := by decide +kernel
theorem x_61_39 : Tr sc d 61 (39, [l0, l1, l2], [.ref k1, .int i0], h) Q = (okp h k1 6 = true ∧ ∃ q, hR h k1 2 = some q ∧ Tr sc d 61 (42, [l0, l1, l2], [.ref q, .int i0], h) Q) := t_getr k_61_39
theorem k_61_42 : lk 61 42 = some (.iload_n 2, 43, 2, 0, .null) := by decide +kernel
theorem x_61_42 : Tr sc d 61 (42, [l0, l1, some (.int x)], [.ref k1, .int i0], h) Q = Tr sc d 61 (43, [l0, l1, some (.int x)], [.int x, .ref k1, .int i0], h) Q := t_iload_n k_61_42 rfl
theorem k_61_43 : lk 61 43 = some (.iaload, 44, 0, 0, .null) := by decide +kernel
theorem x_61_43 : Tr sc d 61 (43, [l0, l1, l2], [.int i2, .ref k1, .int i0], h) Q = (iOk sc h k1 i2 ∧ Tr sc d 61 (44, [l0, l1, l2], [.int (iRd sc h k1 i2), .int i0], h) Q) := t_iald k_61_43
theorem k_61_44 : lk 61 44 = some (.if_icmp .ne 5, 47, 49, 0, .null) := by decide +kernel
theorem x_61_44 : Tr sc d 61 (44, [l0, l1, l2], [.int i1, .int i0], h) Q = if i0 = i1 then Tr sc d 61 (47, [l0, l1, l2], [], h) Q else Tr sc d 61 (49, [l0, l1, l2], [], h) Q := t_if k_61_44 rfl
theorem k_61_47 : lk 61 47 = some (.iconst 1, 48, 0, 0, .int 1) := by decide +kernel
theorem x_61_47 : Tr sc d 61 (47, [l0, l1, l2], [], h) Q = Tr sc d 61 (48, [l0, l1, l2], [.int 1], h) Q := t_go k_61_47 rfl
theorem k_61_48 : lk 61 48 = some (.ireturn, 49, 0, 0, .null) := by decide +kernel
theorem x_61_48 : Tr sc d 61 (48, [l0, l1, l2], [.int i0], h) Q = (vp_nar .boolean i0 = i0 ∧ Q (some (.int i0), h)) := t_zret k_61_48 r_61
theorem k_61_49 : lk 61 49 = some (.iinc 2 1, 52, 2, 0, .int 1) := by decide +kernel
theorem x_61_49 : Tr sc d 61 (49, [l0, l1, some (.int x)], [], h) Q = Tr sc d 61 (52, [l0, cl2 l1, some (.int (x + 1))], [], h) Q := t_inc k_61_49 rfl (Nat.le_of_ble_eq_true rfl)
theorem k_61_52 : lk 61 52 = some (.goto (-40), 55, 12, 0, .null) := by decide +kernel
theorem x_61_52 : Tr sc d 61 (52, [l0, l1, l2], [], h) Q = Tr sc d 61 (12, [l0, l1, l2], [], h) Q := t_go k_61_52 rfl
theorem k_61_55 : lk 61 55 = some (.iinc 1 1, 58, 1, 0, .int 1) := by decide +kernel
theorem x_61_55 : Tr sc d 61 (55, [l0, some (.int x), l2], [], h) Q = Tr sc d 61 (58, [cl2 l0, some (.int (x + 1)), l2], [], h) Q := t_inc k_61_55 rfl (Nat.le_of_ble_eq_true rfl)
theorem k_61_58 : lk 61 58 = some (.goto (-56), 61, 2, 0, .null) := by decide +kernel
theorem x_61_58 : Tr sc d 61 (58, [l0, l1, l2], [], h) Q = Tr sc d 61 (2, [l0, l1, l2], [], h) Q := t_go k_61_58 rfl
theorem k_61_61 : lk 61 61 = some (.iconst 0, 62, 0, 0, .int 0) := by decide +kernel
theorem x_61_61 : Tr sc d 61 (61, [l0, l1, l2], [], h) Q = Tr sc d 61 (62, [l0, l1, l2], [.int 0], h) Q := t_go k_61_61 rfl
theorem k_61_62 : lk 61 62 = some (.ireturn, 63, 0, 0, .null) := by decide +kernel
theorem x_61_62 : Tr sc d 61 (62, [l0, l1, l2], [.int i0], h) Q = (vp_nar .boolean i0 = i0 ∧ Q (some (.int i0), h)) := t_zret k_61_62 r_61
theorem e_61 : Tr sc d 61 (ent0 61 [.ref k0] h) Q = Tr sc d 61 (0, [some (.ref k0), none, none], [], h) Q := by
  have e : mL 61 = 3 := by decide +kernel
  unfold ent0
  rw [e]
  rfl
theorem r_62 : mR 62 = some .int := by decide +kernel
theorem k_62_0 : lk 62 0 = some (.aload_n 1, 1, 1, 0, .null) := by decide +kernel
theorem x_62_0 : Tr sc d 62 (0, [l0, some (.ref xk), l2, l3], [], h) Q = Tr sc d 62 (1, [l0, some (.ref xk), l2, l3], [.ref xk], h) Q := t_aload_n k_62_0 rfl
theorem k_62_1 : lk 62 1 = some (.iconst 0, 2, 0, 0, .int 0) := by decide +kernel
theorem x_62_1 : Tr sc d 62 (1, [l0, l1, l2, l3], [.ref k0], h) Q = Tr sc d 62 (2, [l0, l1, l2, l3], [.int 0, .ref k0], h) Q := t_go k_62_1 rfl
theorem k_62_2 : lk 62 2 = some (.iaload, 3, 0, 0, .null) := by decide +kernel
theorem x_62_2 : Tr sc d 62 (2, [l0, l1, l2, l3], [.int i1, .ref k0], h) Q = (iOk sc h k0 i1 ∧ Tr sc d 62 (3, [l0, l1, l2, l3], [.int (iRd sc h k0 i1)], h) Q) := t_iald k_62_2
theorem k_62_3 : lk 62 3 = some (.istore_n 2, 4, 2, 0, .null) := by decide +kernel
theorem x_62_3 : Tr sc d 62 (3, [l0, l1, l2, l3], [.int i0], h) Q = Tr sc d 62 (4, [l0, cl2 l1, some (.int i0), l3], [], h) Q := t_istore_n k_62_3 (Nat.le_of_ble_eq_true rfl)
theorem k_62_4 : lk 62 4 = some (.iconst 1, 5, 0, 0, .int 1) := by decide +kernel
theorem x_62_4 : Tr sc d 62 (4, [l0, l1, l2, l3], [], h) Q = Tr sc d 62 (5, [l0, l1, l2, l3], [.int 1], h) Q := t_go k_62_4 rfl
theorem k_62_5 : lk 62 5 = some (.istore_n 3, 6, 3, 0, .null) := by decide +kernel
theorem x_62_5 : Tr sc d 62 (5, [l0, l1, l2, l3], [.int i0], h) Q = Tr sc d 62 (6, [l0, l1, cl2 l2, some (.int i0)], [], h) Q := t_istore_n k_62_5 (Nat.le_of_ble_eq_true rfl)
theorem k_62_6 : lk 62 6 = some (.iload_n 3, 7, 3, 0, .null) := by decide +kernel
theorem x_62_6 : Tr sc d 62 (6, [l0, l1, l2, some (.int x)], [], h) Q = Tr sc d 62 (7, [l0, l1, l2, some (.int x)], [.int x], h) Q := t_iload_n k_62_6 rfl
theorem k_62_7 : lk 62 7 = some (.aload_n 0, 8, 0, 0, .null) := by decide +kernel
theorem x_62_7 : Tr sc d 62 (7, [some (.ref xk), l1, l2, l3], [.int i0], h) Q = Tr sc d 62 (8, [some (.ref xk), l1, l2, l3], [.ref xk, .int i0], h) Q := t_aload_n k_62_7 rfl
theorem k_62_8 : lk 62 8 = some (.getfield 38, 11, 6, 8, .int 0) := by decide +kernel
theorem x_62_8 : Tr sc d 62 (8, [l0, l1, l2, l3], [.ref k1, .int i0], h) Q = (okp h k1 6 = true ∧ Tr sc d 62 (11, [l0, l1, l2, l3], [.int (hI h k1 8), .int i0], h) Q) := t_gd k_62_8 rfl
theorem k_62_11 : lk 62 11 = some (.if_icmp .ge 17, 14, 28, 0, .null) := by decide +kernel
theorem x_62_11 : Tr sc d 62 (11, [l0, l1, l2, l3], [.int i1, .int i0], h) Q = if i1 ≤ i0 then Tr sc d 62 (28, [l0, l1, l2, l3], [], h) Q else Tr sc d 62 (14, [l0, l1, l2, l3], [], h) Q := t_if k_62_11 rfl
theorem k_62_14 : lk 62 14 = some (.iload_n 2, 15, 2, 0, .null) := by decide +kernel
theorem x_62_14 : Tr sc d 62 (14, [l0, l1, some (.int x), l3], [], h) Q = Tr sc d 62 (15, [l0, l1, some (.int x), l3], [.int x], h) Q := t_iload_n k_62_14 rfl
theorem k_62_15 : lk 62 15 = some (.aload_n 1, 16, 1, 0, .null) := by decide +kernel
theorem x_62_15 : Tr sc d 62 (15, [l0, some (.ref xk), l2, l3], [.int i0], h) Q = Tr sc d 62 (16, [l0, some (.ref xk), l2, l3], [.ref xk, .int i0], h) Q := t_aload_n k_62_15 rfl
theorem k_62_16 : lk 62 16 = some (.iload_n 3, 17, 3, 0, .null) := by decide +kernel
theorem x_62_16 : Tr sc d 62 (16, [l0, l1, l2, some (.int x)], [.ref k1, .int i0], h) Q = Tr sc d 62 (17, [l0, l1, l2, some (.int x)], [.int x, .ref k1, .int i0], h) Q := t_iload_n k_62_16 rfl
theorem k_62_17 : lk 62 17 = some (.iaload, 18, 0, 0, .null) := by decide +kernel
theorem x_62_17 : Tr sc d 62 (17, [l0, l1, l2, l3], [.int i2, .ref k1, .int i0], h) Q = (iOk sc h k1 i2 ∧ Tr sc d 62 (18, [l0, l1, l2, l3], [.int (iRd sc h k1 i2), .int i0], h) Q) := t_iald k_62_17
theorem k_62_18 : lk 62 18 = some (.invokestatic 66, 21, 9003, 0, .null) := by decide +kernel
theorem x_62_18 : Tr sc d 62 (18, [l0, l1, l2, l3], [.int i1, .int i0], h) Q = Tr sc d 62 (21, [l0, l1, l2, l3], [.int (if i1 < i0 then i1 else i0)], h) Q := t_go k_62_18 rfl
theorem k_62_21 : lk 62 21 = some (.istore_n 2, 22, 2, 0, .null) := by decide +kernel
theorem x_62_21 : Tr sc d 62 (21, [l0, l1, l2, l3], [.int i0], h) Q = Tr sc d 62 (22, [l0, cl2 l1, some (.int i0), l3], [], h) Q := t_istore_n k_62_21 (Nat.le_of_ble_eq_true rfl)
theorem k_62_22 : lk 62 22 = some (.iinc 3 1, 25, 3, 0, .int 1) := by decide +kernel
theorem x_62_22 : Tr sc d 62 (22, [l0, l1, l2, some (.int x)], [], h) Q = Tr sc d 62 (25, [l0, l1, cl2 l2, some (.int (x + 1))], [], h) Q := t_inc k_62_22 rfl (Nat.le_of_ble_eq_true rfl)
theorem k_62_25 : lk 62 25 = some (.goto (-19), 28, 6, 0, .null) := by decide +kernel
theorem x_62_25 : Tr sc d 62 (25, [l0, l1, l2, l3], [], h) Q = Tr sc d 62 (6, [l0, l1, l2, l3], [], h) Q := t_go k_62_25 rfl
theorem k_62_28 : lk 62 28 = some (.iload_n 2, 29, 2, 0, .null) := by decide +kernel
theorem x_62_28 : Tr sc d 62 (28, [l0, l1, some (.int x), l3], [], h) Q = Tr sc d 62 (29, [l0, l1, some (.int x), l3], [.int x], h) Q := t_iload_n k_62_28 rfl
theorem k_62_29 : lk 62 29 = some (.ireturn, 30, 0, 0, .null) := by decide +kernel
theorem x_62_29 : Tr sc d 62 (29, [l0, l1, l2, l3], [.int i0], h) Q = Q (some (.int i0), h) := t_ret k_62_29 (by rw [r_62]; rfl)
theorem e_62 : Tr sc d 62 (ent0 62 [.ref k0, .ref k1] h) Q = Tr sc d 62 (0, [some (.ref k0), some (.ref k1), none, none], [], h) Q := by
  have e : mL 62 = 4 := by decide +kernel
  unfold ent0
  rw [e]
  rfl
theorem r_63 : mR 63 = some .int := by decide +kernel
theorem k_63_0 : lk 63 0 = some (.aload_n 1, 1, 1, 0, .null) := by decide +kernel
theorem x_63_0 : Tr sc d 63 (0, [l0, some (.ref xk), l2, l3], [], h) Q = Tr sc d 63 (1, [l0, some (.ref xk), l2, l3], [.ref xk], h) Q := t_aload_n k_63_0 rfl
theorem k_63_1 : lk 63 1 = some (.iconst 0, 2, 0, 0, .int 0) := by decide +kernel
theorem x_63_1 : Tr sc d 63 (1, [l0, l1, l2, l3], [.ref k0], h) Q = Tr sc d 63 (2, [l0, l1, l2, l3], [.int 0, .ref k0], h) Q := t_go k_63_1 rfl
theorem k_63_2 : lk 63 2 = some (.iaload, 3, 0, 0, .null) := by decide +kernel
theorem x_63_2 : Tr sc d 63 (2, [l0, l1, l2, l3], [.int i1, .ref k0], h) Q = (iOk sc h k0 i1 ∧ Tr sc d 63 (3, [l0, l1, l2, l3], [.int (iRd sc h k0 i1)], h) Q) := t_iald k_63_2
theorem k_63_3 : lk 63 3 = some (.istore_n 2, 4, 2, 0, .null) := by decide +kernel
theorem x_63_3 : Tr sc d 63 (3, [l0, l1, l2, l3], [.int i0], h) Q = Tr sc d 63 (4, [l0, cl2 l1, some (.int i0), l3], [], h) Q := t_istore_n k_63_3 (Nat.le_of_ble_eq_true rfl)
theorem k_63_4 : lk 63 4 = some (.iconst 1, 5, 0, 0, .int 1) := by decide +kernel
theorem x_63_4 : Tr sc d 63 (4, [l0, l1, l2, l3], [], h) Q = Tr sc d 63 (5, [l0, l1, l2, l3], [.int 1], h) Q := t_go k_63_4 rfl
theorem k_63_5 : lk 63 5 = some (.istore_n 3, 6, 3, 0, .null) := by decide +kernel
theorem x_63_5 : Tr sc d 63 (5, [l0, l1, l2, l3], [.int i0], h) Q = Tr sc d 63 (6, [l0, l1, cl2 l2, some (.int i0)], [], h) Q := t_istore_n k_63_5 (Nat.le_of_ble_eq_true rfl)
theorem k_63_6 : lk 63 6 = some (.iload_n 3, 7, 3, 0, .null) := by decide +kernel
theorem x_63_6 : Tr sc d 63 (6, [l0, l1, l2, some (.int x)], [], h) Q = Tr sc d 63 (7, [l0, l1, l2, some (.int x)], [.int x], h) Q := t_iload_n k_63_6 rfl
theorem k_63_7 : lk 63 7 = some (.aload_n 0, 8, 0, 0, .null) := by decide +kernel
theorem x_63_7 : Tr sc d 63 (7, [some (.ref xk), l1, l2, l3], [.int i0], h) Q = Tr sc d 63 (8, [some (.ref xk), l1, l2, l3], [.ref xk, .int i0], h) Q := t_aload_n k_63_7 rfl
theorem k_63_8 : lk 63 8 = some (.getfield 38, 11, 6, 8, .int 0) := by decide +kernel
theorem x_63_8 : Tr sc d 63 (8, [l0, l1, l2, l3], [.ref k1, .int i0], h) Q = (okp h k1 6 = true ∧ Tr sc d 63 (11, [l0, l1, l2, l3], [.int (hI h k1 8), .int i0], h) Q) := t_gd k_63_8 rfl
theorem k_63_11 : lk 63 11 = some (.if_icmp .ge 17, 14, 28, 0, .null) := by decide +kernel
theorem x_63_11 : Tr sc d 63 (11, [l0, l1, l2, l3], [.int i1, .int i0], h) Q = if i1 ≤ i0 then Tr sc d 63 (28, [l0, l1, l2, l3], [], h) Q else Tr sc d 63 (14, [l0, l1, l2, l3], [], h) Q := t_if k_63_11 rfl
theorem k_63_14 : lk 63 14 = some (.iload_n 2, 15, 2, 0, .null) := by decide +kernel
theorem x_63_14 : Tr sc d 63 (14, [l0, l1, some (.int x), l3], [], h) Q = Tr sc d 63 (15, [l0, l1, some (.int x), l3], [.int x], h) Q := t_iload_n k_63_14 rfl
theorem k_63_15 : lk 63 15 = some (.aload_n 1, 16, 1, 0, .null) := by decide +kernel
theorem x_63_15 : Tr sc d 63 (15, [l0, some (.ref xk), l2, l3], [.int i0], h) Q = Tr sc d 63 (16, [l0, some (.ref xk), l2, l3], [.ref xk, .int i0], h) Q := t_aload_n k_63_15 rfl
theorem k_63_16 : lk 63 16 = some (.iload_n 3, 17, 3, 0, .null) := by decide +kernel
theorem x_63_16 : Tr sc d 63 (16, [l0, l1, l2, some (.int x)], [.ref k1, .int i0], h) Q = Tr sc d 63 (17, [l0, l1, l2, some (.int x)], [.int x, .ref k1, .int i0], h) Q := t_iload_n k_63_16 rfl
theorem k_63_17 : lk 63 17 = some (.iaload, 18, 0, 0, .null) := by decide +kernel
theorem x_63_17 : Tr sc d 63 (17, [l0, l1, l2, l3], [.int i2, .ref k1, .int i0], h) Q = (iOk sc h k1 i2 ∧ Tr sc d 63 (18, [l0, l1, l2, l3], [.int (iRd sc h k1 i2), .int i0], h) Q) := t_iald k_63_17
theorem k_63_18 : lk 63 18 = some (.invokestatic 72, 21, 9002, 0, .null) := by decide +kernel
theorem x_63_18 : Tr sc d 63 (18, [l0, l1, l2, l3], [.int i1, .int i0], h) Q = Tr sc d 63 (21, [l0, l1, l2, l3], [.int (if i0 < i1 then i1 else i0)], h) Q := t_go k_63_18 rfl
theorem k_63_21 : lk 63 21 = some (.istore_n 2, 22, 2, 0, .null) := by decide +kernel
theorem x_63_21 : Tr sc d 63 (21, [l0, l1, l2, l3], [.int i0], h) Q = Tr sc d 63 (22, [l0, cl2 l1, some (.int i0), l3], [], h) Q := t_istore_n k_63_21 (Nat.le_of_ble_eq_true rfl)
theorem k_63_22 : lk 63 22 = some (.iinc 3 1, 25, 3, 0, .int 1) := by decide +kernel
theorem x_63_22 : Tr sc d 63 (22, [l0, l1, l2, some (.int x)], [], h) Q = Tr sc d 63 (25, [l0, l1, cl2 l2, some (.int (x + 1))], [], h) Q := t_inc k_63_22 rfl (Nat.le_of_ble_eq_true rfl)
theorem k_63_25 : lk 63 25 = some (.goto (-19), 28, 6, 0, .null) := by decide +kernel
theorem x_63_25 : Tr sc d 63 (25, [l0, l1, l2, l3], [], h) Q = Tr sc d 63 (6, [l0, l1, l2, l3], [], h) Q := t_go k_63_25 rfl
theorem k_63_28 : lk 63 28 = some (.iload_n 2, 29, 2, 0, .null) := by decide +kernel
theorem x_63_28 : Tr sc d 63 (28, [l0, l1, some (.int x), l3], [], h) Q = Tr sc d 63 (29, [l0, l1, some (.int x), l3], [.int x], h) Q := t_iload_n k_63_28 rfl
theorem k_63_29 : lk 63 29 = some (.ireturn, 30, 0, 0, .null) := by decide +kernel
theorem x_63_29 : Tr sc d 63 (29, [l0, l1, l2, l3], [.int i0], h) Q = Q (some (.int i0), h) := t_ret k_63_29 (by rw [r_63]; rfl)
theorem e_63 : Tr sc d 63 (ent0 63 [.ref k0, .ref k1] h) Q = Tr sc d 63 (0, [some (.ref k0), some (.ref k1), none, none], [], h) Q := by
  have e : mL 63 = 4 := by decide +kernel
  unfold ent0
  rw [e]
  rfl
theorem r_64 : mR 64 = some .int := by decide +kernel
theorem k_64_0 : lk 64 0 = some (.aload_n 0, 1, 0, 0, .null) := by decide +kernel
theorem x_64_0 : Tr sc d 64 (0, [some (.ref xk), l1, l2], [], h) Q = Tr sc d 64 (1, [some (.ref xk), l1, l2], [.ref xk], h) Q := t_aload_n k_64_0 rfl
theorem k_64_1 : lk 64 1 = some (.aload_n 0, 2, 0, 0, .null) := by decide +kernel
theorem x_64_1 : Tr sc d 64 (1, [some (.ref xk), l1, l2], [.ref k0], h) Q = Tr sc d 64 (2, [some (.ref xk), l1, l2], [.ref xk, .ref k0], h) Q := t_aload_n k_64_1 rfl
theorem k_64_2 : lk 64 2 = some (.getfield 15, 5, 6, 1, .null) := by decide +kernel
theorem x_64_2 : Tr sc d 64 (2, [l0, l1, l2], [.ref k1, .ref k0], h) Q = (okp h k1 6 = true ∧ ∃ q, hR h k1 1 = some q ∧ Tr sc d 64 (5, [l0, l1, l2], [.ref q, .ref k0], h) Q) := t_getr k_64_2
theorem k_64_5 : lk 64 5 = some (.invokevirtual 75, 8, 63, 1, .null) := by decide +kernel
theorem x_64_5 : Tr sc (d + 1) 64 (5, [l0, l1, l2], [.ref k1, .ref k0], h) Q = (okp h k0 6 = true ∧ Tr sc d 63 (ent0 63 [.ref k0, .ref k1] h) (fun z => Tr sc (d + 1) 64 (8, [l0, l1, l2], z.1.toList ++ [], z.2) Q)) := t_cv (as := [.ref k1]) (r := []) k_64_5 rfl rfl (Nat.le_of_ble_eq_true rfl) (Nat.le_of_ble_eq_true rfl) (Nat.le_of_ble_eq_true rfl)
theorem k_64_8 : lk 64 8 = some (.aload_n 0, 9, 0, 0, .null) := by decide +kernel
theorem x_64_8 : Tr sc d 64 (8, [some (.ref xk), l1, l2], [.int i0], h) Q = Tr sc d 64 (9, [some (.ref xk), l1, l2], [.ref xk, .int i0], h) Q := t_aload_n k_64_8 rfl
theorem k_64_9 : lk 64 9 = some (.aload_n 0, 10, 0, 0, .null) := by decide +kernel
theorem x_64_9 : Tr sc d 64 (9, [some (.ref xk), l1, l2], [.ref k1, .int i0], h) Q = Tr sc d 64 (10, [some (.ref xk), l1, l2], [.ref xk, .ref k1, .int i0], h) Q := t_aload_n k_64_9 rfl
theorem k_64_10 : lk 64 10 = some (.getfield 15, 13, 6, 1, .null) := by decide +kernel
theorem x_64_10 : Tr sc d 64 (10, [l0, l1, l2], [.ref k2, .ref k1, .int i0], h) Q = (okp h k2 6 = true ∧ ∃ q, hR h k2 1 = some q ∧ Tr sc d 64 (13, [l0, l1, l2], [.ref q, .ref k1, .int i0], h) Q) := t_getr k_64_10
theorem k_64_13 : lk 64 13 = some (.invokevirtual 79, 16, 62, 1, .null) := by decide +kernel
theorem x_64_13 : Tr sc (d + 1) 64 (13, [l0, l1, l2], [.ref k2, .ref k1, .int i0], h) Q = (okp h k1 6 = true ∧ Tr sc d 62 (ent0 62 [.ref k1, .ref k2] h) (fun z => Tr sc (d + 1) 64 (16, [l0, l1, l2], z.1.toList ++ [.int i0], z.2) Q)) := t_cv (as := [.ref k2]) (r := [.int i0]) k_64_13 rfl rfl (Nat.le_of_ble_eq_true rfl) (Nat.le_of_ble_eq_true rfl) (Nat.le_of_ble_eq_true rfl)
theorem k_64_16 : lk 64 16 = some (.isub, 17, 0, 0, .null) := by decide +kernel
theorem x_64_16 : Tr sc d 64 (16, [l0, l1, l2], [.int i1, .int i0], h) Q = Tr sc d 64 (17, [l0, l1, l2], [.int (i0 - i1)], h) Q := t_go k_64_16 rfl
theorem k_64_17 : lk 64 17 = some (.istore_n 1, 18, 1, 0, .null) := by decide +kernel
theorem x_64_17 : Tr sc d 64 (17, [l0, l1, l2], [.int i0], h) Q = Tr sc d 64 (18, [cl2 l0, some (.int i0), l2], [], h) Q := t_istore_n k_64_17 (Nat.le_of_ble_eq_true rfl)
theorem k_64_18 : lk 64 18 = some (.aload_n 0, 19, 0, 0, .null) := by decide +kernel
theorem x_64_18 : Tr sc d 64 (18, [some (.ref xk), l1, l2], [], h) Q = Tr sc d 64 (19, [some (.ref xk), l1, l2], [.ref xk], h) Q := t_aload_n k_64_18 rfl
theorem k_64_19 : lk 64 19 = some (.aload_n 0, 20, 0, 0, .null) := by decide +kernel
theorem x_64_19 : Tr sc d 64 (19, [some (.ref xk), l1, l2], [.ref k0], h) Q = Tr sc d 64 (20, [some (.ref xk), l1, l2], [.ref xk, .ref k0], h) Q := t_aload_n k_64_19 rfl
theorem k_64_20 : lk 64 20 = some (.getfield 18, 23, 6, 2, .null) := by decide +kernel
theorem x_64_20 : Tr sc d 64 (20, [l0, l1, l2], [.ref k1, .ref k0], h) Q = (okp h k1 6 = true ∧ ∃ q, hR h k1 2 = some q ∧ Tr sc d 64 (23, [l0, l1, l2], [.ref q, .ref k0], h) Q) := t_getr k_64_20
theorem k_64_23 : lk 64 23 = some (.invokevirtual 75, 26, 63, 1, .null) := by decide +kernel
theorem x_64_23 : Tr sc (d + 1) 64 (23, [l0, l1, l2], [.ref k1, .ref k0], h) Q = (okp h k0 6 = true ∧ Tr sc d 63 (ent0 63 [.ref k0, .ref k1] h) (fun z => Tr sc (d + 1) 64 (26, [l0, l1, l2], z.1.toList ++ [], z.2) Q)) := t_cv (as := [.ref k1]) (r := []) k_64_23 rfl rfl (Nat.le_of_ble_eq_true rfl) (Nat.le_of_ble_eq_true rfl) (Nat.le_of_ble_eq_true rfl)
theorem k_64_26 : lk 64 26 = some (.aload_n 0, 27, 0, 0, .null) := by decide +kernel
theorem x_64_26 : Tr sc d 64 (26, [some (.ref xk), l1, l2], [.int i0], h) Q = Tr sc d 64 (27, [some (.ref xk), l1, l2], [.ref xk, .int i0], h) Q := t_aload_n k_64_26 rfl
theorem k_64_27 : lk 64 27 = some (.aload_n 0, 28, 0, 0, .null) := by decide +kernel
theorem x_64_27 : Tr sc d 64 (27, [some (.ref xk), l1, l2], [.ref k1, .int i0], h) Q = Tr sc d 64 (28, [some (.ref xk), l1, l2], [.ref xk, .ref k1, .int i0], h) Q := t_aload_n k_64_27 rfl
theorem k_64_28 : lk 64 28 = some (.getfield 18, 31, 6, 2, .null) := by decide +kernel
theorem x_64_28 : Tr sc d 64 (28, [l0, l1, l2], [.ref k2, .ref k1, .int i0], h) Q = (okp h k2 6 = true ∧ ∃ q, hR h k2 2 = some q ∧ Tr sc d 64 (31, [l0, l1, l2], [.ref q, .ref k1, .int i0], h) Q) := t_getr k_64_28
theorem k_64_31 : lk 64 31 = some (.invokevirtual 79, 34, 62, 1, .null) := by decide +kernel
theorem x_64_31 : Tr sc (d + 1) 64 (31, [l0, l1, l2], [.ref k2, .ref k1, .int i0], h) Q = (okp h k1 6 = true ∧ Tr sc d 62 (ent0 62 [.ref k1, .ref k2] h) (fun z => Tr sc (d + 1) 64 (34, [l0, l1, l2], z.1.toList ++ [.int i0], z.2) Q)) := t_cv (as := [.ref k2]) (r := [.int i0]) k_64_31 rfl rfl (Nat.le_of_ble_eq_true rfl) (Nat.le_of_ble_eq_true rfl) (Nat.le_of_ble_eq_true rfl)
theorem k_64_34 : lk 64 34 = some (.isub, 35, 0, 0, .null) := by decide +kernel
theorem x_64_34 : Tr sc d 64 (34, [l0, l1, l2], [.int i1, .int i0], h) Q = Tr sc d 64 (35, [l0, l1, l2], [.int (i0 - i1)], h) Q := t_go k_64_34 rfl
theorem k_64_35 : lk 64 35 = some (.istore_n 2, 36, 2, 0, .null) := by decide +kernel
theorem x_64_35 : Tr sc d 64 (35, [l0, l1, l2], [.int i0], h) Q = Tr sc d 64 (36, [l0, cl2 l1, some (.int i0)], [], h) Q := t_istore_n k_64_35 (Nat.le_of_ble_eq_true rfl)
theorem k_64_36 : lk 64 36 = some (.iload_n 1, 37, 1, 0, .null) := by decide +kernel
theorem x_64_36 : Tr sc d 64 (36, [l0, some (.int x), l2], [], h) Q = Tr sc d 64 (37, [l0, some (.int x), l2], [.int x], h) Q := t_iload_n k_64_36 rfl
theorem k_64_37 : lk 64 37 = some (.iload_n 2, 38, 2, 0, .null) := by decide +kernel
theorem x_64_37 : Tr sc d 64 (37, [l0, l1, some (.int x)], [.int i0], h) Q = Tr sc d 64 (38, [l0, l1, some (.int x)], [.int x, .int i0], h) Q := t_iload_n k_64_37 rfl
theorem k_64_38 : lk 64 38 = some (.invokestatic 72, 41, 9002, 0, .null) := by decide +kernel
theorem x_64_38 : Tr sc d 64 (38, [l0, l1, l2], [.int i1, .int i0], h) Q = Tr sc d 64 (41, [l0, l1, l2], [.int (if i0 < i1 then i1 else i0)], h) Q := t_go k_64_38 rfl
theorem k_64_41 : lk 64 41 = some (.iconst 1, 42, 0, 0, .int 1) := by decide +kernel
theorem x_64_41 : Tr sc d 64 (41, [l0, l1, l2], [.int i0], h) Q = Tr sc d 64 (42, [l0, l1, l2], [.int 1, .int i0], h) Q := t_go k_64_41 rfl
theorem k_64_42 : lk 64 42 = some (.aload_n 0, 43, 0, 0, .null) := by decide +kernel
theorem x_64_42 : Tr sc d 64 (42, [some (.ref xk), l1, l2], [.int i1, .int i0], h) Q = Tr sc d 64 (43, [some (.ref xk), l1, l2], [.ref xk, .int i1, .int i0], h) Q := t_aload_n k_64_42 rfl
theorem k_64_43 : lk 64 43 = some (.getfield 35, 46, 6, 7, .int 0) := by decide +kernel
theorem x_64_43 : Tr sc d 64 (43, [l0, l1, l2], [.ref k2, .int i1, .int i0], h) Q = (okp h k2 6 = true ∧ Tr sc d 64 (46, [l0, l1, l2], [.int (hI h k2 7), .int i1, .int i0], h) Q) := t_gd k_64_43 rfl
theorem k_64_46 : lk 64 46 = some (.iconst 1, 47, 0, 0, .int 1) := by decide +kernel
theorem x_64_46 : Tr sc d 64 (46, [l0, l1, l2], [.int i2, .int i1, .int i0], h) Q = Tr sc d 64 (47, [l0, l1, l2], [.int 1, .int i2, .int i1, .int i0], h) Q := t_go k_64_46 rfl
theorem k_64_47 : lk 64 47 = some (.isub, 48, 0, 0, .null) := by decide +kernel
theorem x_64_47 : Tr sc d 64 (47, [l0, l1, l2], [.int i3, .int i2, .int i1, .int i0], h) Q = Tr sc d 64 (48, [l0, l1, l2], [.int (i2 - i3), .int i1, .int i0], h) Q := t_go k_64_47 rfl
theorem k_64_48 : lk 64 48 = some (.invokestatic 72, 51, 9002, 0, .null) := by decide +kernel
theorem x_64_48 : Tr sc d 64 (48, [l0, l1, l2], [.int i2, .int i1, .int i0], h) Q = Tr sc d 64 (51, [l0, l1, l2], [.int (if i1 < i2 then i2 else i1), .int i0], h) Q := t_go k_64_48 rfl
theorem k_64_51 : lk 64 51 = some (.idiv, 52, 0, 0, .null) := by decide +kernel
theorem x_64_51 : Tr sc d 64 (51, [l0, l1, l2], [.int i1, .int i0], h) Q = (¬ i1 = 0 ∧ Tr sc d 64 (52, [l0, l1, l2], [.int (i0 / i1)], h) Q) := t_ng k_64_51 rfl
theorem k_64_52 : lk 64 52 = some (.ireturn, 53, 0, 0, .null) := by decide +kernel
theorem x_64_52 : Tr sc d 64 (52, [l0, l1, l2], [.int i0], h) Q = Q (some (.int i0), h) := t_ret k_64_52 (by rw [r_64]; rfl)
theorem e_64 : Tr sc d 64 (ent0 64 [.ref k0] h) Q = Tr sc d 64 (0, [some (.ref k0), none, none], [], h) Q := by
  have e : mL 64 = 3 := by decide +kernel
  unfold ent0
  rw [e]
  rfl
theorem r_65 : mR 65 = some .int := by decide +kernel
theorem k_65_0 : lk 65 0 = some (.getstatic 82, 3, 0, 883, .null) := by decide +kernel
theorem x_65_0 : Tr sc d 65 (0, [l0, l1, l2, l3, l4], [], h) Q = Tr sc d 65 (3, [l0, l1, l2, l3, l4], [.ref 1000], h) Q := t_go k_65_0 rfl
theorem k_65_3 : lk 65 3 = some (.aload_n 0, 4, 0, 0, .null) := by decide +kernel
theorem x_65_3 : Tr sc d 65 (3, [some (.ref xk), l1, l2, l3, l4], [.ref k0], h) Q = Tr sc d 65 (4, [some (.ref xk), l1, l2, l3, l4], [.ref xk, .ref k0], h) Q := t_aload_n k_65_3 rfl
theorem k_65_4 : lk 65 4 = some (.getfield 9, 7, 6, 0, .null) := by decide +kernel
theorem x_65_4 : Tr sc d 65 (4, [l0, l1, l2, l3, l4], [.ref k1, .ref k0], h) Q = (okp h k1 6 = true ∧ ∃ q, hR h k1 0 = some q ∧ Tr sc d 65 (7, [l0, l1, l2, l3, l4], [.ref q, .ref k0], h) Q) := t_getr k_65_4
theorem k_65_7 : lk 65 7 = some (.iload_n 1, 8, 1, 0, .null) := by decide +kernel
theorem x_65_7 : Tr sc d 65 (7, [l0, some (.int x), l2, l3, l4], [.ref k1, .ref k0], h) Q = Tr sc d 65 (8, [l0, some (.int x), l2, l3, l4], [.int x, .ref k1, .ref k0], h) Q := t_iload_n k_65_7 rfl
theorem k_65_8 : lk 65 8 = some (.iaload, 9, 0, 0, .null) := by decide +kernel
theorem x_65_8 : Tr sc d 65 (8, [l0, l1, l2, l3, l4], [.int i2, .ref k1, .ref k0], h) Q = (iOk sc h k1 i2 ∧ Tr sc d 65 (9, [l0, l1, l2, l3, l4], [.int (iRd sc h k1 i2), .ref k0], h) Q) := t_iald k_65_8
theorem k_65_9 : lk 65 9 = some (.iaload, 10, 0, 0, .null) := by decide +kernel
theorem x_65_9 : Tr sc d 65 (9, [l0, l1, l2, l3, l4], [.int i1, .ref k0], h) Q = (iOk sc h k0 i1 ∧ Tr sc d 65 (10, [l0, l1, l2, l3, l4], [.int (iRd sc h k0 i1)], h) Q) := t_iald k_65_9
theorem k_65_10 : lk 65 10 = some (.iload_n 2, 11, 2, 0, .null) := by decide +kernel
theorem x_65_10 : Tr sc d 65 (10, [l0, l1, some (.int x), l3, l4], [.int i0], h) Q = Tr sc d 65 (11, [l0, l1, some (.int x), l3, l4], [.int x, .int i0], h) Q := t_iload_n k_65_10 rfl
theorem k_65_11 : lk 65 11 = some (.imul, 12, 0, 0, .null) := by decide +kernel
theorem x_65_11 : Tr sc d 65 (11, [l0, l1, l2, l3, l4], [.int i1, .int i0], h) Q = Tr sc d 65 (12, [l0, l1, l2, l3, l4], [.int (i0 * i1)], h) Q := t_go k_65_11 rfl
theorem k_65_12 : lk 65 12 = some (.getstatic 85, 15, 1, 884, .null) := by decide +kernel
theorem x_65_12 : Tr sc d 65 (12, [l0, l1, l2, l3, l4], [.int i0], h) Q = Tr sc d 65 (15, [l0, l1, l2, l3, l4], [.ref 1001, .int i0], h) Q := t_go k_65_12 rfl
theorem k_65_15 : lk 65 15 = some (.aload_n 0, 16, 0, 0, .null) := by decide +kernel
theorem x_65_15 : Tr sc d 65 (15, [some (.ref xk), l1, l2, l3, l4], [.ref k1, .int i0], h) Q = Tr sc d 65 (16, [some (.ref xk), l1, l2, l3, l4], [.ref xk, .ref k1, .int i0], h) Q := t_aload_n k_65_15 rfl
theorem k_65_16 : lk 65 16 = some (.getfield 9, 19, 6, 0, .null) := by decide +kernel
theorem x_65_16 : Tr sc d 65 (16, [l0, l1, l2, l3, l4], [.ref k2, .ref k1, .int i0], h) Q = (okp h k2 6 = true ∧ ∃ q, hR h k2 0 = some q ∧ Tr sc d 65 (19, [l0, l1, l2, l3, l4], [.ref q, .ref k1, .int i0], h) Q) := t_getr k_65_16
theorem k_65_19 : lk 65 19 = some (.iload_n 1, 20, 1, 0, .null) := by decide +kernel
theorem x_65_19 : Tr sc d 65 (19, [l0, some (.int x), l2, l3, l4], [.ref k2, .ref k1, .int i0], h) Q = Tr sc d 65 (20, [l0, some (.int x), l2, l3, l4], [.int x, .ref k2, .ref k1, .int i0], h) Q := t_iload_n k_65_19 rfl
theorem k_65_20 : lk 65 20 = some (.iaload, 21, 0, 0, .null) := by decide +kernel
theorem x_65_20 : Tr sc d 65 (20, [l0, l1, l2, l3, l4], [.int i3, .ref k2, .ref k1, .int i0], h) Q = (iOk sc h k2 i3 ∧ Tr sc d 65 (21, [l0, l1, l2, l3, l4], [.int (iRd sc h k2 i3), .ref k1, .int i0], h) Q) := t_iald k_65_20
theorem k_65_21 : lk 65 21 = some (.iaload, 22, 0, 0, .null) := by decide +kernel
theorem x_65_21 : Tr sc d 65 (21, [l0, l1, l2, l3, l4], [.int i2, .ref k1, .int i0], h) Q = (iOk sc h k1 i2 ∧ Tr sc d 65 (22, [l0, l1, l2, l3, l4], [.int (iRd sc h k1 i2), .int i0], h) Q) := t_iald k_65_21
theorem k_65_22 : lk 65 22 = some (.iload_n 3, 23, 3, 0, .null) := by decide +kernel
theorem x_65_22 : Tr sc d 65 (22, [l0, l1, l2, some (.int x), l4], [.int i1, .int i0], h) Q = Tr sc d 65 (23, [l0, l1, l2, some (.int x), l4], [.int x, .int i1, .int i0], h) Q := t_iload_n k_65_22 rfl
theorem k_65_23 : lk 65 23 = some (.imul, 24, 0, 0, .null) := by decide +kernel
theorem x_65_23 : Tr sc d 65 (23, [l0, l1, l2, l3, l4], [.int i2, .int i1, .int i0], h) Q = Tr sc d 65 (24, [l0, l1, l2, l3, l4], [.int (i1 * i2), .int i0], h) Q := t_go k_65_23 rfl
theorem k_65_24 : lk 65 24 = some (.iadd, 25, 0, 0, .null) := by decide +kernel
theorem x_65_24 : Tr sc d 65 (24, [l0, l1, l2, l3, l4], [.int i1, .int i0], h) Q = Tr sc d 65 (25, [l0, l1, l2, l3, l4], [.int (i0 + i1)], h) Q := t_go k_65_24 rfl
theorem k_65_25 : lk 65 25 = some (.iload 4, 27, 4, 0, .null) := by decide +kernel
theorem x_65_25 : Tr sc d 65 (25, [l0, l1, l2, l3, some (.int x)], [.int i0], h) Q = Tr sc d 65 (27, [l0, l1, l2, l3, some (.int x)], [.int x, .int i0], h) Q := t_iload k_65_25 rfl
theorem k_65_27 : lk 65 27 = some (.aload_n 0, 28, 0, 0, .null) := by decide +kernel
theorem x_65_27 : Tr sc d 65 (27, [some (.ref xk), l1, l2, l3, l4], [.int i1, .int i0], h) Q = Tr sc d 65 (28, [some (.ref xk), l1, l2, l3, l4], [.ref xk, .int i1, .int i0], h) Q := t_aload_n k_65_27 rfl
theorem k_65_28 : lk 65 28 = some (.getfield 15, 31, 6, 1, .null) := by decide +kernel
theorem x_65_28 : Tr sc d 65 (28, [l0, l1, l2, l3, l4], [.ref k2, .int i1, .int i0], h) Q = (okp h k2 6 = true ∧ ∃ q, hR h k2 1 = some q ∧ Tr sc d 65 (31, [l0, l1, l2, l3, l4], [.ref q, .int i1, .int i0], h) Q) := t_getr k_65_28
theorem k_65_31 : lk 65 31 = some (.iload_n 1, 32, 1, 0, .null) := by decide +kernel
theorem x_65_31 : Tr sc d 65 (31, [l0, some (.int x), l2, l3, l4], [.ref k2, .int i1, .int i0], h) Q = Tr sc d 65 (32, [l0, some (.int x), l2, l3, l4], [.int x, .ref k2, .int i1, .int i0], h) Q := t_iload_n k_65_31 rfl
theorem k_65_32 : lk 65 32 = some (.iaload, 33, 0, 0, .null) := by decide +kernel
theorem x_65_32 : Tr sc d 65 (32, [l0, l1, l2, l3, l4], [.int i3, .ref k2, .int i1, .int i0], h) Q = (iOk sc h k2 i3 ∧ Tr sc d 65 (33, [l0, l1, l2, l3, l4], [.int (iRd sc h k2 i3), .int i1, .int i0], h) Q) := t_iald k_65_32
theorem k_65_33 : lk 65 33 = some (.imul, 34, 0, 0, .null) := by decide +kernel
theorem x_65_33 : Tr sc d 65 (33, [l0, l1, l2, l3, l4], [.int i2, .int i1, .int i0], h) Q = Tr sc d 65 (34, [l0, l1, l2, l3, l4], [.int (i1 * i2), .int i0], h) Q := t_go k_65_33 rfl
theorem k_65_34 : lk 65 34 = some (.iadd, 35, 0, 0, .null) := by decide +kernel
theorem x_65_34 : Tr sc d 65 (34, [l0, l1, l2, l3, l4], [.int i1, .int i0], h) Q = Tr sc d 65 (35, [l0, l1, l2, l3, l4], [.int (i0 + i1)], h) Q := t_go k_65_34 rfl
theorem k_65_35 : lk 65 35 = some (.ireturn, 36, 0, 0, .null) := by decide +kernel
theorem x_65_35 : Tr sc d 65 (35, [l0, l1, l2, l3, l4], [.int i0], h) Q = Q (some (.int i0), h) := t_ret k_65_35 (by rw [r_65]; rfl)
theorem e_65 : Tr sc d 65 (ent0 65 [.ref k0, .int i1, .int i2, .int i3, .int i4] h) Q = Tr sc d 65 (0, [some (.ref k0), some (.int i1), some (.int i2), some (.int i3), some (.int i4)], [], h) Q := by
  have e : mL 65 = 5 := by decide +kernel
  unfold ent0
  rw [e]
  rfl
theorem r_66 : mR 66 = some .int := by decide +kernel
theorem k_66_0 : lk 66 0 = some (.getstatic 88, 3, 2, 889, .null) := by decide +kernel
theorem x_66_0 : Tr sc d 66 (0, [l0, l1, l2, l3, l4], [], h) Q = Tr sc d 66 (3, [l0, l1, l2, l3, l4], [.ref 1002], h) Q := t_go k_66_0 rfl
theorem k_66_3 : lk 66 3 = some (.aload_n 0, 4, 0, 0, .null) := by decide +kernel
theorem x_66_3 : Tr sc d 66 (3, [some (.ref xk), l1, l2, l3, l4], [.ref k0], h) Q = Tr sc d 66 (4, [some (.ref xk), l1, l2, l3, l4], [.ref xk, .ref k0], h) Q := t_aload_n k_66_3 rfl
theorem k_66_4 : lk 66 4 = some (.getfield 9, 7, 6, 0, .null) := by decide +kernel
theorem x_66_4 : Tr sc d 66 (4, [l0, l1, l2, l3, l4], [.ref k1, .ref k0], h) Q = (okp h k1 6 = true ∧ ∃ q, hR h k1 0 = some q ∧ Tr sc d 66 (7, [l0, l1, l2, l3, l4], [.ref q, .ref k0], h) Q) := t_getr k_66_4
theorem k_66_7 : lk 66 7 = some (.iload_n 1, 8, 1, 0, .null) := by decide +kernel
theorem x_66_7 : Tr sc d 66 (7, [l0, some (.int x), l2, l3, l4], [.ref k1, .ref k0], h) Q = Tr sc d 66 (8, [l0, some (.int x), l2, l3, l4], [.int x, .ref k1, .ref k0], h) Q := t_iload_n k_66_7 rfl
theorem k_66_8 : lk 66 8 = some (.iaload, 9, 0, 0, .null) := by decide +kernel
theorem x_66_8 : Tr sc d 66 (8, [l0, l1, l2, l3, l4], [.int i2, .ref k1, .ref k0], h) Q = (iOk sc h k1 i2 ∧ Tr sc d 66 (9, [l0, l1, l2, l3, l4], [.int (iRd sc h k1 i2), .ref k0], h) Q) := t_iald k_66_8
theorem k_66_9 : lk 66 9 = some (.iaload, 10, 0, 0, .null) := by decide +kernel
theorem x_66_9 : Tr sc d 66 (9, [l0, l1, l2, l3, l4], [.int i1, .ref k0], h) Q = (iOk sc h k0 i1 ∧ Tr sc d 66 (10, [l0, l1, l2, l3, l4], [.int (iRd sc h k0 i1)], h) Q) := t_iald k_66_9
theorem k_66_10 : lk 66 10 = some (.iload_n 2, 11, 2, 0, .null) := by decide +kernel
theorem x_66_10 : Tr sc d 66 (10, [l0, l1, some (.int x), l3, l4], [.int i0], h) Q = Tr sc d 66 (11, [l0, l1, some (.int x), l3, l4], [.int x, .int i0], h) Q := t_iload_n k_66_10 rfl
theorem k_66_11 : lk 66 11 = some (.imul, 12, 0, 0, .null) := by decide +kernel
theorem x_66_11 : Tr sc d 66 (11, [l0, l1, l2, l3, l4], [.int i1, .int i0], h) Q = Tr sc d 66 (12, [l0, l1, l2, l3, l4], [.int (i0 * i1)], h) Q := t_go k_66_11 rfl
theorem k_66_12 : lk 66 12 = some (.getstatic 91, 15, 3, 890, .null) := by decide +kernel
theorem x_66_12 : Tr sc d 66 (12, [l0, l1, l2, l3, l4], [.int i0], h) Q = Tr sc d 66 (15, [l0, l1, l2, l3, l4], [.ref 1003, .int i0], h) Q := t_go k_66_12 rfl
theorem k_66_15 : lk 66 15 = some (.aload_n 0, 16, 0, 0, .null) := by decide +kernel
theorem x_66_15 : Tr sc d 66 (15, [some (.ref xk), l1, l2, l3, l4], [.ref k1, .int i0], h) Q = Tr sc d 66 (16, [some (.ref xk), l1, l2, l3, l4], [.ref xk, .ref k1, .int i0], h) Q := t_aload_n k_66_15 rfl
theorem k_66_16 : lk 66 16 = some (.getfield 9, 19, 6, 0, .null) := by decide +kernel
theorem x_66_16 : Tr sc d 66 (16, [l0, l1, l2, l3, l4], [.ref k2, .ref k1, .int i0], h) Q = (okp h k2 6 = true ∧ ∃ q, hR h k2 0 = some q ∧ Tr sc d 66 (19, [l0, l1, l2, l3, l4], [.ref q, .ref k1, .int i0], h) Q) := t_getr k_66_16
theorem k_66_19 : lk 66 19 = some (.iload_n 1, 20, 1, 0, .null) := by decide +kernel
theorem x_66_19 : Tr sc d 66 (19, [l0, some (.int x), l2, l3, l4], [.ref k2, .ref k1, .int i0], h) Q = Tr sc d 66 (20, [l0, some (.int x), l2, l3, l4], [.int x, .ref k2, .ref k1, .int i0], h) Q := t_iload_n k_66_19 rfl
theorem k_66_20 : lk 66 20 = some (.iaload, 21, 0, 0, .null) := by decide +kernel
theorem x_66_20 : Tr sc d 66 (20, [l0, l1, l2, l3, l4], [.int i3, .ref k2, .ref k1, .int i0], h) Q = (iOk sc h k2 i3 ∧ Tr sc d 66 (21, [l0, l1, l2, l3, l4], [.int (iRd sc h k2 i3), .ref k1, .int i0], h) Q) := t_iald k_66_20
theorem k_66_21 : lk 66 21 = some (.iaload, 22, 0, 0, .null) := by decide +kernel
theorem x_66_21 : Tr sc d 66 (21, [l0, l1, l2, l3, l4], [.int i2, .ref k1, .int i0], h) Q = (iOk sc h k1 i2 ∧ Tr sc d 66 (22, [l0, l1, l2, l3, l4], [.int (iRd sc h k1 i2), .int i0], h) Q) := t_iald k_66_21
theorem k_66_22 : lk 66 22 = some (.iload_n 3, 23, 3, 0, .null) := by decide +kernel
theorem x_66_22 : Tr sc d 66 (22, [l0, l1, l2, some (.int x), l4], [.int i1, .int i0], h) Q = Tr sc d 66 (23, [l0, l1, l2, some (.int x), l4], [.int x, .int i1, .int i0], h) Q := t_iload_n k_66_22 rfl
theorem k_66_23 : lk 66 23 = some (.imul, 24, 0, 0, .null) := by decide +kernel
theorem x_66_23 : Tr sc d 66 (23, [l0, l1, l2, l3, l4], [.int i2, .int i1, .int i0], h) Q = Tr sc d 66 (24, [l0, l1, l2, l3, l4], [.int (i1 * i2), .int i0], h) Q := t_go k_66_23 rfl
theorem k_66_24 : lk 66 24 = some (.iadd, 25, 0, 0, .null) := by decide +kernel
theorem x_66_24 : Tr sc d 66 (24, [l0, l1, l2, l3, l4], [.int i1, .int i0], h) Q = Tr sc d 66 (25, [l0, l1, l2, l3, l4], [.int (i0 + i1)], h) Q := t_go k_66_24 rfl
theorem k_66_25 : lk 66 25 = some (.iload 4, 27, 4, 0, .null) := by decide +kernel
theorem x_66_25 : Tr sc d 66 (25, [l0, l1, l2, l3, some (.int x)], [.int i0], h) Q = Tr sc d 66 (27, [l0, l1, l2, l3, some (.int x)], [.int x, .int i0], h) Q := t_iload k_66_25 rfl
theorem k_66_27 : lk 66 27 = some (.aload_n 0, 28, 0, 0, .null) := by decide +kernel
theorem x_66_27 : Tr sc d 66 (27, [some (.ref xk), l1, l2, l3, l4], [.int i1, .int i0], h) Q = Tr sc d 66 (28, [some (.ref xk), l1, l2, l3, l4], [.ref xk, .int i1, .int i0], h) Q := t_aload_n k_66_27 rfl
theorem k_66_28 : lk 66 28 = some (.getfield 18, 31, 6, 2, .null) := by decide +kernel
theorem x_66_28 : Tr sc d 66 (28, [l0, l1, l2, l3, l4], [.ref k2, .int i1, .int i0], h) Q = (okp h k2 6 = true ∧ ∃ q, hR h k2 2 = some q ∧ Tr sc d 66 (31, [l0, l1, l2, l3, l4], [.ref q, .int i1, .int i0], h) Q) := t_getr k_66_28
theorem k_66_31 : lk 66 31 = some (.iload_n 1, 32, 1, 0, .null) := by decide +kernel
theorem x_66_31 : Tr sc d 66 (31, [l0, some (.int x), l2, l3, l4], [.ref k2, .int i1, .int i0], h) Q = Tr sc d 66 (32, [l0, some (.int x), l2, l3, l4], [.int x, .ref k2, .int i1, .int i0], h) Q := t_iload_n k_66_31 rfl
theorem k_66_32 : lk 66 32 = some (.iaload, 33, 0, 0, .null) := by decide +kernel
theorem x_66_32 : Tr sc d 66 (32, [l0, l1, l2, l3, l4], [.int i3, .ref k2, .int i1, .int i0], h) Q = (iOk sc h k2 i3 ∧ Tr sc d 66 (33, [l0, l1, l2, l3, l4], [.int (iRd sc h k2 i3), .int i1, .int i0], h) Q) := t_iald k_66_32
theorem k_66_33 : lk 66 33 = some (.imul, 34, 0, 0, .null) := by decide +kernel
theorem x_66_33 : Tr sc d 66 (33, [l0, l1, l2, l3, l4], [.int i2, .int i1, .int i0], h) Q = Tr sc d 66 (34, [l0, l1, l2, l3, l4], [.int (i1 * i2), .int i0], h) Q := t_go k_66_33 rfl
theorem k_66_34 : lk 66 34 = some (.iadd, 35, 0, 0, .null) := by decide +kernel
theorem x_66_34 : Tr sc d 66 (34, [l0, l1, l2, l3, l4], [.int i1, .int i0], h) Q = Tr sc d 66 (35, [l0, l1, l2, l3, l4], [.int (i0 + i1)], h) Q := t_go k_66_34 rfl
theorem k_66_35 : lk 66 35 = some (.ireturn, 36, 0, 0, .null) := by decide +kernel
theorem x_66_35 : Tr sc d 66 (35, [l0, l1, l2, l3, l4], [.int i0], h) Q = Q (some (.int i0), h) := t_ret k_66_35 (by rw [r_66]; rfl)
theorem e_66 : Tr sc d 66 (ent0 66 [.ref k0, .int i1, .int i2, .int i3, .int i4] h) Q = Tr sc d 66 (0, [some (.ref k0), some (.int i1), some (.int i2), some (.int i3), some (.int i4)], [], h) Q := by
  have e : mL 66 = 5 := by decide +kernel
  unfold ent0
  rw [e]
  rfl
theorem r_67 : mR 67 = some .long := by decide +kernel
theorem k_67_0 : lk 67 0 = some (.iload_n 1, 1, 1, 0, .null) := by decide +kernel
theorem x_67_0 : Tr sc d 67 (0, [l0, some (.int x), l2, l3, l4], [], h) Q = Tr sc d 67 (1, [l0, some (.int x), l2, l3, l4], [.int x], h) Q := t_iload_n k_67_0 rfl
theorem k_67_1 : lk 67 1 = some (.ifCond .gt 5, 4, 6, 0, .null) := by decide +kernel
theorem x_67_1 : Tr sc d 67 (1, [l0, l1, l2, l3, l4], [.int i0], h) Q = if 0 < i0 then Tr sc d 67 (6, [l0, l1, l2, l3, l4], [], h) Q else Tr sc d 67 (4, [l0, l1, l2, l3, l4], [], h) Q := t_if k_67_1 rfl
theorem k_67_4 : lk 67 4 = some (.lconst 1, 5, 0, 0, .long 1) := by decide +kernel
theorem x_67_4 : Tr sc d 67 (4, [l0, l1, l2, l3, l4], [], h) Q = Tr sc d 67 (5, [l0, l1, l2, l3, l4], [.long 1], h) Q := t_go k_67_4 rfl
theorem k_67_5 : lk 67 5 = some (.lreturn, 6, 0, 0, .null) := by decide +kernel
theorem x_67_5 : Tr sc d 67 (5, [l0, l1, l2, l3, l4], [.long j0], h) Q = Q (some (.long j0), h) := t_ret k_67_5 (by rw [r_67]; rfl)
theorem k_67_6 : lk 67 6 = some (.aload_n 0, 7, 0, 0, .null) := by decide +kernel
theorem x_67_6 : Tr sc d 67 (6, [some (.ref xk), l1, l2, l3, l4], [], h) Q = Tr sc d 67 (7, [some (.ref xk), l1, l2, l3, l4], [.ref xk], h) Q := t_aload_n k_67_6 rfl
theorem k_67_7 : lk 67 7 = some (.getfield 24, 10, 6, 4, .null) := by decide +kernel
theorem x_67_7 : Tr sc d 67 (7, [l0, l1, l2, l3, l4], [.ref k0], h) Q = (okp h k0 6 = true ∧ ∃ q, hR h k0 4 = some q ∧ Tr sc d 67 (10, [l0, l1, l2, l3, l4], [.ref q], h) Q) := t_getr k_67_7
theorem k_67_10 : lk 67 10 = some (.lconst 1, 11, 0, 0, .long 1) := by decide +kernel
theorem x_67_10 : Tr sc d 67 (10, [l0, l1, l2, l3, l4], [.ref k0], h) Q = Tr sc d 67 (11, [l0, l1, l2, l3, l4], [.long 1, .ref k0], h) Q := t_go k_67_10 rfl
theorem k_67_11 : lk 67 11 = some (.invokestatic 94, 14, 255, 2, .null) := by decide +kernel
theorem x_67_11 : Tr sc (d + 1) 67 (11, [l0, l1, l2, l3, l4], [.long j1, .ref k0], h) Q = Tr sc d 255 (ent0 255 [.ref k0, .long j1] h) (fun z => Tr sc (d + 1) 67 (14, [l0, l1, l2, l3, l4], z.1.toList ++ [], z.2) Q) := t_cs (as := [.ref k0, .long j1]) (r := []) k_67_11 (by decide) rfl rfl (Nat.le_of_ble_eq_true rfl) (Nat.le_of_ble_eq_true rfl)
theorem k_67_14 : lk 67 14 = some (.iconst 2, 15, 0, 0, .int 2) := by decide +kernel
theorem x_67_14 : Tr sc d 67 (14, [l0, l1, l2, l3, l4], [], h) Q = Tr sc d 67 (15, [l0, l1, l2, l3, l4], [.int 2], h) Q := t_go k_67_14 rfl
theorem k_67_15 : lk 67 15 = some (.istore_n 2, 16, 2, 0, .null) := by decide +kernel
theorem x_67_15 : Tr sc d 67 (15, [l0, l1, l2, l3, l4], [.int i0], h) Q = Tr sc d 67 (16, [l0, cl2 l1, some (.int i0), l3, l4], [], h) Q := t_istore_n k_67_15 (Nat.le_of_ble_eq_true rfl)
theorem k_67_16 : lk 67 16 = some (.iload_n 2, 17, 2, 0, .null) := by decide +kernel
theorem x_67_16 : Tr sc d 67 (16, [l0, l1, some (.int x), l3, l4], [], h) Q = Tr sc d 67 (17, [l0, l1, some (.int x), l3, l4], [.int x], h) Q := t_iload_n k_67_16 rfl
theorem k_67_17 : lk 67 17 = some (.iload_n 1, 18, 1, 0, .null) := by decide +kernel
theorem x_67_17 : Tr sc d 67 (17, [l0, some (.int x), l2, l3, l4], [.int i0], h) Q = Tr sc d 67 (18, [l0, some (.int x), l2, l3, l4], [.int x, .int i0], h) Q := t_iload_n k_67_17 rfl
theorem k_67_18 : lk 67 18 = some (.if_icmp .gt 53, 21, 71, 0, .null) := by decide +kernel
theorem x_67_18 : Tr sc d 67 (18, [l0, l1, l2, l3, l4], [.int i1, .int i0], h) Q = if i1 < i0 then Tr sc d 67 (71, [l0, l1, l2, l3, l4], [], h) Q else Tr sc d 67 (21, [l0, l1, l2, l3, l4], [], h) Q := t_if k_67_18 rfl
theorem k_67_21 : lk 67 21 = some (.iconst 0, 22, 0, 0, .int 0) := by decide +kernel
theorem x_67_21 : Tr sc d 67 (21, [l0, l1, l2, l3, l4], [], h) Q = Tr sc d 67 (22, [l0, l1, l2, l3, l4], [.int 0], h) Q := t_go k_67_21 rfl
theorem k_67_22 : lk 67 22 = some (.istore_n 3, 23, 3, 0, .null) := by decide +kernel
theorem x_67_22 : Tr sc d 67 (22, [l0, l1, l2, l3, l4], [.int i0], h) Q = Tr sc d 67 (23, [l0, l1, cl2 l2, some (.int i0), l4], [], h) Q := t_istore_n k_67_22 (Nat.le_of_ble_eq_true rfl)
theorem k_67_23 : lk 67 23 = some (.iload_n 3, 24, 3, 0, .null) := by decide +kernel
theorem x_67_23 : Tr sc d 67 (23, [l0, l1, l2, some (.int x), l4], [], h) Q = Tr sc d 67 (24, [l0, l1, l2, some (.int x), l4], [.int x], h) Q := t_iload_n k_67_23 rfl
theorem k_67_24 : lk 67 24 = some (.aload_n 0, 25, 0, 0, .null) := by decide +kernel
theorem x_67_24 : Tr sc d 67 (24, [some (.ref xk), l1, l2, l3, l4], [.int i0], h) Q = Tr sc d 67 (25, [some (.ref xk), l1, l2, l3, l4], [.ref xk, .int i0], h) Q := t_aload_n k_67_24 rfl
theorem k_67_25 : lk 67 25 = some (.getfield 38, 28, 6, 8, .int 0) := by decide +kernel
theorem x_67_25 : Tr sc d 67 (25, [l0, l1, l2, l3, l4], [.ref k1, .int i0], h) Q = (okp h k1 6 = true ∧ Tr sc d 67 (28, [l0, l1, l2, l3, l4], [.int (hI h k1 8), .int i0], h) Q) := t_gd k_67_25 rfl
theorem k_67_28 : lk 67 28 = some (.if_icmp .ge 20, 31, 48, 0, .null) := by decide +kernel
theorem x_67_28 : Tr sc d 67 (28, [l0, l1, l2, l3, l4], [.int i1, .int i0], h) Q = if i1 ≤ i0 then Tr sc d 67 (48, [l0, l1, l2, l3, l4], [], h) Q else Tr sc d 67 (31, [l0, l1, l2, l3, l4], [], h) Q := t_if k_67_28 rfl
theorem k_67_31 : lk 67 31 = some (.aload_n 0, 32, 0, 0, .null) := by decide +kernel
theorem x_67_31 : Tr sc d 67 (31, [some (.ref xk), l1, l2, l3, l4], [], h) Q = Tr sc d 67 (32, [some (.ref xk), l1, l2, l3, l4], [.ref xk], h) Q := t_aload_n k_67_31 rfl
theorem k_67_32 : lk 67 32 = some (.getfield 28, 35, 6, 5, .null) := by decide +kernel
theorem x_67_32 : Tr sc d 67 (32, [l0, l1, l2, l3, l4], [.ref k0], h) Q = (okp h k0 6 = true ∧ ∃ q, hR h k0 5 = some q ∧ Tr sc d 67 (35, [l0, l1, l2, l3, l4], [.ref q], h) Q) := t_getr k_67_32
theorem k_67_35 : lk 67 35 = some (.iload_n 3, 36, 3, 0, .null) := by decide +kernel
theorem x_67_35 : Tr sc d 67 (35, [l0, l1, l2, some (.int x), l4], [.ref k0], h) Q = Tr sc d 67 (36, [l0, l1, l2, some (.int x), l4], [.int x, .ref k0], h) Q := t_iload_n k_67_35 rfl
theorem k_67_36 : lk 67 36 = some (.aload_n 0, 37, 0, 0, .null) := by decide +kernel
theorem x_67_36 : Tr sc d 67 (36, [some (.ref xk), l1, l2, l3, l4], [.int i1, .ref k0], h) Q = Tr sc d 67 (37, [some (.ref xk), l1, l2, l3, l4], [.ref xk, .int i1, .ref k0], h) Q := t_aload_n k_67_36 rfl
theorem k_67_37 : lk 67 37 = some (.iload_n 3, 38, 3, 0, .null) := by decide +kernel
theorem x_67_37 : Tr sc d 67 (37, [l0, l1, l2, some (.int x), l4], [.ref k2, .int i1, .ref k0], h) Q = Tr sc d 67 (38, [l0, l1, l2, some (.int x), l4], [.int x, .ref k2, .int i1, .ref k0], h) Q := t_iload_n k_67_37 rfl
theorem k_67_38 : lk 67 38 = some (.invokevirtual 100, 41, 68, 1, .null) := by decide +kernel
theorem x_67_38 : Tr sc (d + 1) 67 (38, [l0, l1, l2, l3, l4], [.int i3, .ref k2, .int i1, .ref k0], h) Q = (okp h k2 6 = true ∧ Tr sc d 68 (ent0 68 [.ref k2, .int i3] h) (fun z => Tr sc (d + 1) 67 (41, [l0, l1, l2, l3, l4], z.1.toList ++ [.int i1, .ref k0], z.2) Q)) := t_cv (as := [.int i3]) (r := [.int i1, .ref k0]) k_67_38 rfl rfl (Nat.le_of_ble_eq_true rfl) (Nat.le_of_ble_eq_true rfl) (Nat.le_of_ble_eq_true rfl)
theorem k_67_41 : lk 67 41 = some (.lastore, 42, 0, 0, .null) := by decide +kernel
theorem x_67_41 : Tr sc d 67 (41, [l0, l1, l2, l3, l4], [.long j2, .int i1, .ref k0], h) Q = ((okp h k0 12 && inb i1 (LN k0)) = true ∧ Tr sc d 67 (42, [l0, l1, l2, l3, l4], [], (sL h k0 i1.toNatClampNeg j2)) Q) := t_gd k_67_41 rfl
theorem k_67_42 : lk 67 42 = some (.iinc 3 1, 45, 3, 0, .int 1) := by decide +kernel
theorem x_67_42 : Tr sc d 67 (42, [l0, l1, l2, some (.int x), l4], [], h) Q = Tr sc d 67 (45, [l0, l1, cl2 l2, some (.int (x + 1)), l4], [], h) Q := t_inc k_67_42 rfl (Nat.le_of_ble_eq_true rfl)
theorem k_67_45 : lk 67 45 = some (.goto (-22), 48, 23, 0, .null) := by decide +kernel
theorem x_67_45 : Tr sc d 67 (45, [l0, l1, l2, l3, l4], [], h) Q = Tr sc d 67 (23, [l0, l1, l2, l3, l4], [], h) Q := t_go k_67_45 rfl
theorem k_67_48 : lk 67 48 = some (.aload_n 0, 49, 0, 0, .null) := by decide +kernel
theorem x_67_48 : Tr sc d 67 (48, [some (.ref xk), l1, l2, l3, l4], [], h) Q = Tr sc d 67 (49, [some (.ref xk), l1, l2, l3, l4], [.ref xk], h) Q := t_aload_n k_67_48 rfl
theorem k_67_49 : lk 67 49 = some (.getfield 28, 52, 6, 5, .null) := by decide +kernel
theorem x_67_49 : Tr sc d 67 (49, [l0, l1, l2, l3, l4], [.ref k0], h) Q = (okp h k0 6 = true ∧ ∃ q, hR h k0 5 = some q ∧ Tr sc d 67 (52, [l0, l1, l2, l3, l4], [.ref q], h) Q) := t_getr k_67_49
theorem k_67_52 : lk 67 52 = some (.iconst 0, 53, 0, 0, .int 0) := by decide +kernel
theorem x_67_52 : Tr sc d 67 (52, [l0, l1, l2, l3, l4], [.ref k0], h) Q = Tr sc d 67 (53, [l0, l1, l2, l3, l4], [.int 0, .ref k0], h) Q := t_go k_67_52 rfl
theorem k_67_53 : lk 67 53 = some (.aload_n 0, 54, 0, 0, .null) := by decide +kernel
theorem x_67_53 : Tr sc d 67 (53, [some (.ref xk), l1, l2, l3, l4], [.int i1, .ref k0], h) Q = Tr sc d 67 (54, [some (.ref xk), l1, l2, l3, l4], [.ref xk, .int i1, .ref k0], h) Q := t_aload_n k_67_53 rfl
theorem k_67_54 : lk 67 54 = some (.getfield 24, 57, 6, 4, .null) := by decide +kernel
theorem x_67_54 : Tr sc d 67 (54, [l0, l1, l2, l3, l4], [.ref k2, .int i1, .ref k0], h) Q = (okp h k2 6 = true ∧ ∃ q, hR h k2 4 = some q ∧ Tr sc d 67 (57, [l0, l1, l2, l3, l4], [.ref q, .int i1, .ref k0], h) Q) := t_getr k_67_54
theorem k_67_57 : lk 67 57 = some (.iconst 0, 58, 0, 0, .int 0) := by decide +kernel
theorem x_67_57 : Tr sc d 67 (57, [l0, l1, l2, l3, l4], [.ref k2, .int i1, .ref k0], h) Q = Tr sc d 67 (58, [l0, l1, l2, l3, l4], [.int 0, .ref k2, .int i1, .ref k0], h) Q := t_go k_67_57 rfl
theorem k_67_58 : lk 67 58 = some (.aload_n 0, 59, 0, 0, .null) := by decide +kernel
theorem x_67_58 : Tr sc d 67 (58, [some (.ref xk), l1, l2, l3, l4], [.int i3, .ref k2, .int i1, .ref k0], h) Q = Tr sc d 67 (59, [some (.ref xk), l1, l2, l3, l4], [.ref xk, .int i3, .ref k2, .int i1, .ref k0], h) Q := t_aload_n k_67_58 rfl
theorem k_67_59 : lk 67 59 = some (.getfield 38, 62, 6, 8, .int 0) := by decide +kernel
theorem x_67_59 : Tr sc d 67 (59, [l0, l1, l2, l3, l4], [.ref k4, .int i3, .ref k2, .int i1, .ref k0], h) Q = (okp h k4 6 = true ∧ Tr sc d 67 (62, [l0, l1, l2, l3, l4], [.int (hI h k4 8), .int i3, .ref k2, .int i1, .ref k0], h) Q) := t_gd k_67_59 rfl
theorem k_67_62 : lk 67 62 = some (.invokestatic 104, 65, 9001, 0, .null) := by decide +kernel
theorem x_67_62 : Tr sc d 67 (62, [l0, l1, l2, l3, l4], [.int i4, .int i3, .ref k2, .int i1, .ref k0], h) Q = (((¬ i1 < 0) ∧ (¬ i3 < 0) ∧ (¬ i4 < 0) ∧ i1.toNatClampNeg + i4.toNatClampNeg ≤ LN k0 ∧ i3.toNatClampNeg + i4.toNatClampNeg ≤ LN k2 ∧ catS [] ≤ 8) ∧ if (okp h k0 11 && okp h k2 11) = true then Tr sc d 67 (65, [l0, l1, l2, l3, l4], [], aI h k2 (va_cpy (hI h k0) (hI h k2) i1.toNatClampNeg i3.toNatClampNeg i4.toNatClampNeg)) Q else ((okp h k0 12 && okp h k2 12) = true ∧ Tr sc d 67 (65, [l0, l1, l2, l3, l4], [], aL h k2 (va_cpy (hL h k0) (hL h k2) i1.toNatClampNeg i3.toNatClampNeg i4.toNatClampNeg)) Q)) := t_copy k_67_62
theorem k_67_65 : lk 67 65 = some (.iinc 2 1, 68, 2, 0, .int 1) := by decide +kernel
theorem x_67_65 : Tr sc d 67 (65, [l0, l1, some (.int x), l3, l4], [], h) Q = Tr sc d 67 (68, [l0, cl2 l1, some (.int (x + 1)), l3, l4], [], h) Q := t_inc k_67_65 rfl (Nat.le_of_ble_eq_true rfl)
theorem k_67_68 : lk 67 68 = some (.goto (-52), 71, 16, 0, .null) := by decide +kernel
theorem x_67_68 : Tr sc d 67 (68, [l0, l1, l2, l3, l4], [], h) Q = Tr sc d 67 (16, [l0, l1, l2, l3, l4], [], h) Q := t_go k_67_68 rfl
theorem k_67_71 : lk 67 71 = some (.lconst 0, 72, 0, 0, .long 0) := by decide +kernel
theorem x_67_71 : Tr sc d 67 (71, [l0, l1, l2, l3, l4], [], h) Q = Tr sc d 67 (72, [l0, l1, l2, l3, l4], [.long 0], h) Q := t_go k_67_71 rfl
theorem k_67_72 : lk 67 72 = some (.lstore_n 2, 73, 2, 0, .null) := by decide +kernel
theorem x_67_72 : Tr sc d 67 (72, [l0, l1, l2, l3, l4], [.long j0], h) Q = Tr sc d 67 (73, [l0, cl2 l1, some (.long j0), none, l4], [], h) Q := t_lstore_n k_67_72 (Nat.le_of_ble_eq_true rfl)
theorem k_67_73 : lk 67 73 = some (.iconst 0, 74, 0, 0, .int 0) := by decide +kernel
theorem x_67_73 : Tr sc d 67 (73, [l0, l1, l2, l3, l4], [], h) Q = Tr sc d 67 (74, [l0, l1, l2, l3, l4], [.int 0], h) Q := t_go k_67_73 rfl
theorem k_67_74 : lk 67 74 = some (.istore 4, 76, 4, 0, .null) := by decide +kernel
theorem x_67_74 : Tr sc d 67 (74, [l0, l1, l2, l3, l4], [.int i0], h) Q = Tr sc d 67 (76, [l0, l1, l2, cl2 l3, some (.int i0)], [], h) Q := t_istore k_67_74 (Nat.le_of_ble_eq_true rfl)
theorem k_67_76 : lk 67 76 = some (.iload 4, 78, 4, 0, .null) := by decide +kernel
theorem x_67_76 : Tr sc d 67 (76, [l0, l1, l2, l3, some (.int x)], [], h) Q = Tr sc d 67 (78, [l0, l1, l2, l3, some (.int x)], [.int x], h) Q := t_iload k_67_76 rfl
theorem k_67_78 : lk 67 78 = some (.aload_n 0, 79, 0, 0, .null) := by decide +kernel
theorem x_67_78 : Tr sc d 67 (78, [some (.ref xk), l1, l2, l3, l4], [.int i0], h) Q = Tr sc d 67 (79, [some (.ref xk), l1, l2, l3, l4], [.ref xk, .int i0], h) Q := t_aload_n k_67_78 rfl
theorem k_67_79 : lk 67 79 = some (.getfield 38, 82, 6, 8, .int 0) := by decide +kernel
theorem x_67_79 : Tr sc d 67 (79, [l0, l1, l2, l3, l4], [.ref k1, .int i0], h) Q = (okp h k1 6 = true ∧ Tr sc d 67 (82, [l0, l1, l2, l3, l4], [.int (hI h k1 8), .int i0], h) Q) := t_gd k_67_79 rfl
theorem k_67_82 : lk 67 82 = some (.if_icmp .ge 19, 85, 101, 0, .null) := by decide +kernel
theorem x_67_82 : Tr sc d 67 (82, [l0, l1, l2, l3, l4], [.int i1, .int i0], h) Q = if i1 ≤ i0 then Tr sc d 67 (101, [l0, l1, l2, l3, l4], [], h) Q else Tr sc d 67 (85, [l0, l1, l2, l3, l4], [], h) Q := t_if k_67_82 rfl
theorem k_67_85 : lk 67 85 = some (.lload_n 2, 86, 2, 0, .null) := by decide +kernel
theorem x_67_85 : Tr sc d 67 (85, [l0, l1, some (.long xl), l3, l4], [], h) Q = Tr sc d 67 (86, [l0, l1, some (.long xl), l3, l4], [.long xl], h) Q := t_lload_n k_67_85 rfl
theorem k_67_86 : lk 67 86 = some (.aload_n 0, 87, 0, 0, .null) := by decide +kernel
theorem x_67_86 : Tr sc d 67 (86, [some (.ref xk), l1, l2, l3, l4], [.long j0], h) Q = Tr sc d 67 (87, [some (.ref xk), l1, l2, l3, l4], [.ref xk, .long j0], h) Q := t_aload_n k_67_86 rfl
theorem k_67_87 : lk 67 87 = some (.getfield 24, 90, 6, 4, .null) := by decide +kernel
theorem x_67_87 : Tr sc d 67 (87, [l0, l1, l2, l3, l4], [.ref k1, .long j0], h) Q = (okp h k1 6 = true ∧ ∃ q, hR h k1 4 = some q ∧ Tr sc d 67 (90, [l0, l1, l2, l3, l4], [.ref q, .long j0], h) Q) := t_getr k_67_87
theorem k_67_90 : lk 67 90 = some (.iload 4, 92, 4, 0, .null) := by decide +kernel
theorem x_67_90 : Tr sc d 67 (90, [l0, l1, l2, l3, some (.int x)], [.ref k1, .long j0], h) Q = Tr sc d 67 (92, [l0, l1, l2, l3, some (.int x)], [.int x, .ref k1, .long j0], h) Q := t_iload k_67_90 rfl
theorem k_67_92 : lk 67 92 = some (.laload, 93, 0, 0, .null) := by decide +kernel
theorem x_67_92 : Tr sc d 67 (92, [l0, l1, l2, l3, l4], [.int i2, .ref k1, .long j0], h) Q = ((okp h k1 12 && inb i2 (LN k1)) = true ∧ Tr sc d 67 (93, [l0, l1, l2, l3, l4], [.long (hL h k1 i2.toNatClampNeg), .long j0], h) Q) := t_gd k_67_92 rfl
theorem k_67_93 : lk 67 93 = some (.ladd, 94, 0, 0, .null) := by decide +kernel
theorem x_67_93 : Tr sc d 67 (93, [l0, l1, l2, l3, l4], [.long j1, .long j0], h) Q = Tr sc d 67 (94, [l0, l1, l2, l3, l4], [.long (j0 + j1)], h) Q := t_go k_67_93 rfl
theorem k_67_94 : lk 67 94 = some (.lstore_n 2, 95, 2, 0, .null) := by decide +kernel
theorem x_67_94 : Tr sc d 67 (94, [l0, l1, l2, l3, l4], [.long j0], h) Q = Tr sc d 67 (95, [l0, cl2 l1, some (.long j0), none, l4], [], h) Q := t_lstore_n k_67_94 (Nat.le_of_ble_eq_true rfl)
theorem k_67_95 : lk 67 95 = some (.iinc 4 1, 98, 4, 0, .int 1) := by decide +kernel
theorem x_67_95 : Tr sc d 67 (95, [l0, l1, l2, l3, some (.int x)], [], h) Q = Tr sc d 67 (98, [l0, l1, l2, cl2 l3, some (.int (x + 1))], [], h) Q := t_inc k_67_95 rfl (Nat.le_of_ble_eq_true rfl)
theorem k_67_98 : lk 67 98 = some (.goto (-22), 101, 76, 0, .null) := by decide +kernel
theorem x_67_98 : Tr sc d 67 (98, [l0, l1, l2, l3, l4], [], h) Q = Tr sc d 67 (76, [l0, l1, l2, l3, l4], [], h) Q := t_go k_67_98 rfl
theorem k_67_101 : lk 67 101 = some (.lload_n 2, 102, 2, 0, .null) := by decide +kernel
theorem x_67_101 : Tr sc d 67 (101, [l0, l1, some (.long xl), l3, l4], [], h) Q = Tr sc d 67 (102, [l0, l1, some (.long xl), l3, l4], [.long xl], h) Q := t_lload_n k_67_101 rfl
theorem k_67_102 : lk 67 102 = some (.lreturn, 103, 0, 0, .null) := by decide +kernel
theorem x_67_102 : Tr sc d 67 (102, [l0, l1, l2, l3, l4], [.long j0], h) Q = Q (some (.long j0), h) := t_ret k_67_102 (by rw [r_67]; rfl)
theorem e_67 : Tr sc d 67 (ent0 67 [.ref k0, .int i1] h) Q = Tr sc d 67 (0, [some (.ref k0), some (.int i1), none, none, none], [], h) Q := by
  have e : mL 67 = 5 := by decide +kernel
  unfold ent0
  rw [e]
  rfl
theorem r_68 : mR 68 = some .long := by decide +kernel
theorem k_68_0 : lk 68 0 = some (.lconst 0, 1, 0, 0, .long 0) := by decide +kernel
theorem x_68_0 : Tr sc d 68 (0, [l0, l1, l2, l3, l4], [], h) Q = Tr sc d 68 (1, [l0, l1, l2, l3, l4], [.long 0], h) Q := t_go k_68_0 rfl
theorem k_68_1 : lk 68 1 = some (.lstore_n 2, 2, 2, 0, .null) := by decide +kernel
theorem x_68_1 : Tr sc d 68 (1, [l0, l1, l2, l3, l4], [.long j0], h) Q = Tr sc d 68 (2, [l0, cl2 l1, some (.long j0), none, l4], [], h) Q := t_lstore_n k_68_1 (Nat.le_of_ble_eq_true rfl)
theorem k_68_2 : lk 68 2 = some (.iconst 0, 3, 0, 0, .int 0) := by decide +kernel
theorem x_68_2 : Tr sc d 68 (2, [l0, l1, l2, l3, l4], [], h) Q = Tr sc d 68 (3, [l0, l1, l2, l3, l4], [.int 0], h) Q := t_go k_68_2 rfl
theorem k_68_3 : lk 68 3 = some (.istore 4, 5, 4, 0, .null) := by decide +kernel
theorem x_68_3 : Tr sc d 68 (3, [l0, l1, l2, l3, l4], [.int i0], h) Q = Tr sc d 68 (5, [l0, l1, l2, cl2 l3, some (.int i0)], [], h) Q := t_istore k_68_3 (Nat.le_of_ble_eq_true rfl)
theorem k_68_5 : lk 68 5 = some (.iload 4, 7, 4, 0, .null) := by decide +kernel
theorem x_68_5 : Tr sc d 68 (5, [l0, l1, l2, l3, some (.int x)], [], h) Q = Tr sc d 68 (7, [l0, l1, l2, l3, some (.int x)], [.int x], h) Q := t_iload k_68_5 rfl
theorem k_68_7 : lk 68 7 = some (.aload_n 0, 8, 0, 0, .null) := by decide +kernel
theorem x_68_7 : Tr sc d 68 (7, [some (.ref xk), l1, l2, l3, l4], [.int i0], h) Q = Tr sc d 68 (8, [some (.ref xk), l1, l2, l3, l4], [.ref xk, .int i0], h) Q := t_aload_n k_68_7 rfl
theorem k_68_8 : lk 68 8 = some (.getfield 38, 11, 6, 8, .int 0) := by decide +kernel
theorem x_68_8 : Tr sc d 68 (8, [l0, l1, l2, l3, l4], [.ref k1, .int i0], h) Q = (okp h k1 6 = true ∧ Tr sc d 68 (11, [l0, l1, l2, l3, l4], [.int (hI h k1 8), .int i0], h) Q) := t_gd k_68_8 rfl
theorem k_68_11 : lk 68 11 = some (.if_icmp .ge 29, 14, 40, 0, .null) := by decide +kernel
theorem x_68_11 : Tr sc d 68 (11, [l0, l1, l2, l3, l4], [.int i1, .int i0], h) Q = if i1 ≤ i0 then Tr sc d 68 (40, [l0, l1, l2, l3, l4], [], h) Q else Tr sc d 68 (14, [l0, l1, l2, l3, l4], [], h) Q := t_if k_68_11 rfl
theorem k_68_14 : lk 68 14 = some (.aload_n 0, 15, 0, 0, .null) := by decide +kernel
theorem x_68_14 : Tr sc d 68 (14, [some (.ref xk), l1, l2, l3, l4], [], h) Q = Tr sc d 68 (15, [some (.ref xk), l1, l2, l3, l4], [.ref xk], h) Q := t_aload_n k_68_14 rfl
theorem k_68_15 : lk 68 15 = some (.iload_n 1, 16, 1, 0, .null) := by decide +kernel
theorem x_68_15 : Tr sc d 68 (15, [l0, some (.int x), l2, l3, l4], [.ref k0], h) Q = Tr sc d 68 (16, [l0, some (.int x), l2, l3, l4], [.int x, .ref k0], h) Q := t_iload_n k_68_15 rfl
theorem k_68_16 : lk 68 16 = some (.iload 4, 18, 4, 0, .null) := by decide +kernel
theorem x_68_16 : Tr sc d 68 (16, [l0, l1, l2, l3, some (.int x)], [.int i1, .ref k0], h) Q = Tr sc d 68 (18, [l0, l1, l2, l3, some (.int x)], [.int x, .int i1, .ref k0], h) Q := t_iload k_68_16 rfl
theorem k_68_18 : lk 68 18 = some (.invokevirtual 110, 21, 58, 2, .null) := by decide +kernel
theorem x_68_18 : Tr sc (d + 1) 68 (18, [l0, l1, l2, l3, l4], [.int i2, .int i1, .ref k0], h) Q = (okp h k0 6 = true ∧ Tr sc d 58 (ent0 58 [.ref k0, .int i1, .int i2] h) (fun z => Tr sc (d + 1) 68 (21, [l0, l1, l2, l3, l4], z.1.toList ++ [], z.2) Q)) := t_cv (as := [.int i1, .int i2]) (r := []) k_68_18 rfl rfl (Nat.le_of_ble_eq_true rfl) (Nat.le_of_ble_eq_true rfl) (Nat.le_of_ble_eq_true rfl)
theorem k_68_21 : lk 68 21 = some (.ifCond .ne 13, 24, 34, 0, .null) := by decide +kernel
theorem x_68_21 : Tr sc d 68 (21, [l0, l1, l2, l3, l4], [.int i0], h) Q = if i0 = 0 then Tr sc d 68 (24, [l0, l1, l2, l3, l4], [], h) Q else Tr sc d 68 (34, [l0, l1, l2, l3, l4], [], h) Q := t_if k_68_21 rfl
theorem k_68_24 : lk 68 24 = some (.lload_n 2, 25, 2, 0, .null) := by decide +kernel
theorem x_68_24 : Tr sc d 68 (24, [l0, l1, some (.long xl), l3, l4], [], h) Q = Tr sc d 68 (25, [l0, l1, some (.long xl), l3, l4], [.long xl], h) Q := t_lload_n k_68_24 rfl
theorem k_68_25 : lk 68 25 = some (.aload_n 0, 26, 0, 0, .null) := by decide +kernel
theorem x_68_25 : Tr sc d 68 (25, [some (.ref xk), l1, l2, l3, l4], [.long j0], h) Q = Tr sc d 68 (26, [some (.ref xk), l1, l2, l3, l4], [.ref xk, .long j0], h) Q := t_aload_n k_68_25 rfl
theorem k_68_26 : lk 68 26 = some (.getfield 24, 29, 6, 4, .null) := by decide +kernel
theorem x_68_26 : Tr sc d 68 (26, [l0, l1, l2, l3, l4], [.ref k1, .long j0], h) Q = (okp h k1 6 = true ∧ ∃ q, hR h k1 4 = some q ∧ Tr sc d 68 (29, [l0, l1, l2, l3, l4], [.ref q, .long j0], h) Q) := t_getr k_68_26
theorem k_68_29 : lk 68 29 = some (.iload 4, 31, 4, 0, .null) := by decide +kernel
theorem x_68_29 : Tr sc d 68 (29, [l0, l1, l2, l3, some (.int x)], [.ref k1, .long j0], h) Q = Tr sc d 68 (31, [l0, l1, l2, l3, some (.int x)], [.int x, .ref k1, .long j0], h) Q := t_iload k_68_29 rfl
theorem k_68_31 : lk 68 31 = some (.laload, 32, 0, 0, .null) := by decide +kernel
theorem x_68_31 : Tr sc d 68 (31, [l0, l1, l2, l3, l4], [.int i2, .ref k1, .long j0], h) Q = ((okp h k1 12 && inb i2 (LN k1)) = true ∧ Tr sc d 68 (32, [l0, l1, l2, l3, l4], [.long (hL h k1 i2.toNatClampNeg), .long j0], h) Q) := t_gd k_68_31 rfl
theorem k_68_32 : lk 68 32 = some (.ladd, 33, 0, 0, .null) := by decide +kernel
theorem x_68_32 : Tr sc d 68 (32, [l0, l1, l2, l3, l4], [.long j1, .long j0], h) Q = Tr sc d 68 (33, [l0, l1, l2, l3, l4], [.long (j0 + j1)], h) Q := t_go k_68_32 rfl
theorem k_68_33 : lk 68 33 = some (.lstore_n 2, 34, 2, 0, .null) := by decide +kernel
theorem x_68_33 : Tr sc d 68 (33, [l0, l1, l2, l3, l4], [.long j0], h) Q = Tr sc d 68 (34, [l0, cl2 l1, some (.long j0), none, l4], [], h) Q := t_lstore_n k_68_33 (Nat.le_of_ble_eq_true rfl)
theorem k_68_34 : lk 68 34 = some (.iinc 4 1, 37, 4, 0, .int 1) := by decide +kernel
theorem x_68_34 : Tr sc d 68 (34, [l0, l1, l2, l3, some (.int x)], [], h) Q = Tr sc d 68 (37, [l0, l1, l2, cl2 l3, some (.int (x + 1))], [], h) Q := t_inc k_68_34 rfl (Nat.le_of_ble_eq_true rfl)
theorem k_68_37 : lk 68 37 = some (.goto (-32), 40, 5, 0, .null) := by decide +kernel
theorem x_68_37 : Tr sc d 68 (37, [l0, l1, l2, l3, l4], [], h) Q = Tr sc d 68 (5, [l0, l1, l2, l3, l4], [], h) Q := t_go k_68_37 rfl
theorem k_68_40 : lk 68 40 = some (.lload_n 2, 41, 2, 0, .null) := by decide +kernel
theorem x_68_40 : Tr sc d 68 (40, [l0, l1, some (.long xl), l3, l4], [], h) Q = Tr sc d 68 (41, [l0, l1, some (.long xl), l3, l4], [.long xl], h) Q := t_lload_n k_68_40 rfl
theorem k_68_41 : lk 68 41 = some (.lreturn, 42, 0, 0, .null) := by decide +kernel
theorem x_68_41 : Tr sc d 68 (41, [l0, l1, l2, l3, l4], [.long j0], h) Q = Q (some (.long j0), h) := t_ret k_68_41 (by rw [r_68]; rfl)
theorem e_68 : Tr sc d 68 (ent0 68 [.ref k0, .int i1] h) Q = Tr sc d 68 (0, [some (.ref k0), some (.int i1), none, none, none], [], h) Q := by
  have e : mL 68 = 5 := by decide +kernel
  unfold ent0
  rw [e]
  rfl
theorem r_69 : mR 69 = some .long := by decide +kernel
theorem k_69_0 : lk 69 0 = some (.aload_n 0, 1, 0, 0, .null) := by decide +kernel
theorem x_69_0 : Tr sc d 69 (0, [some (.ref xk), l1, l2, l3], [], h) Q = Tr sc d 69 (1, [some (.ref xk), l1, l2, l3], [.ref xk], h) Q := t_aload_n k_69_0 rfl
theorem k_69_1 : lk 69 1 = some (.iload_n 1, 2, 1, 0, .null) := by decide +kernel
theorem x_69_1 : Tr sc d 69 (1, [l0, some (.int x), l2, l3], [.ref k0], h) Q = Tr sc d 69 (2, [l0, some (.int x), l2, l3], [.int x, .ref k0], h) Q := t_iload_n k_69_1 rfl
theorem k_69_2 : lk 69 2 = some (.iconst 0, 3, 0, 0, .int 0) := by decide +kernel
theorem x_69_2 : Tr sc d 69 (2, [l0, l1, l2, l3], [.int i1, .ref k0], h) Q = Tr sc d 69 (3, [l0, l1, l2, l3], [.int 0, .int i1, .ref k0], h) Q := t_go k_69_2 rfl
theorem k_69_3 : lk 69 3 = some (.iconst 0, 4, 0, 0, .int 0) := by decide +kernel
theorem x_69_3 : Tr sc d 69 (3, [l0, l1, l2, l3], [.int i2, .int i1, .ref k0], h) Q = Tr sc d 69 (4, [l0, l1, l2, l3], [.int 0, .int i2, .int i1, .ref k0], h) Q := t_go k_69_3 rfl
theorem k_69_4 : lk 69 4 = some (.iconst 1, 5, 0, 0, .int 1) := by decide +kernel
theorem x_69_4 : Tr sc d 69 (4, [l0, l1, l2, l3], [.int i3, .int i2, .int i1, .ref k0], h) Q = Tr sc d 69 (5, [l0, l1, l2, l3], [.int 1, .int i3, .int i2, .int i1, .ref k0], h) Q := t_go k_69_4 rfl
theorem k_69_5 : lk 69 5 = some (.iload_n 2, 6, 2, 0, .null) := by decide +kernel
theorem x_69_5 : Tr sc d 69 (5, [l0, l1, some (.int x), l3], [.int i4, .int i3, .int i2, .int i1, .ref k0], h) Q = Tr sc d 69 (6, [l0, l1, some (.int x), l3], [.int x, .int i4, .int i3, .int i2, .int i1, .ref k0], h) Q := t_iload_n k_69_5 rfl
theorem k_69_6 : lk 69 6 = some (.iload_n 3, 7, 3, 0, .null) := by decide +kernel
theorem x_69_6 : Tr sc d 69 (6, [l0, l1, l2, some (.int x)], [.int i5, .int i4, .int i3, .int i2, .int i1, .ref k0], h) Q = Tr sc d 69 (7, [l0, l1, l2, some (.int x)], [.int x, .int i5, .int i4, .int i3, .int i2, .int i1, .ref k0], h) Q := t_iload_n k_69_6 rfl
theorem k_69_7 : lk 69 7 = some (.invokevirtual 114, 10, 70, 6, .null) := by decide +kernel
theorem x_69_7 : Tr sc (d + 1) 69 (7, [l0, l1, l2, l3], [.int i6, .int i5, .int i4, .int i3, .int i2, .int i1, .ref k0], h) Q = (okp h k0 6 = true ∧ Tr sc d 70 (ent0 70 [.ref k0, .int i1, .int i2, .int i3, .int i4, .int i5, .int i6] h) (fun z => Tr sc (d + 1) 69 (10, [l0, l1, l2, l3], z.1.toList ++ [], z.2) Q)) := t_cv (as := [.int i1, .int i2, .int i3, .int i4, .int i5, .int i6]) (r := []) k_69_7 rfl rfl (Nat.le_of_ble_eq_true rfl) (Nat.le_of_ble_eq_true rfl) (Nat.le_of_ble_eq_true rfl)
theorem k_69_10 : lk 69 10 = some (.lreturn, 11, 0, 0, .null) := by decide +kernel
theorem x_69_10 : Tr sc d 69 (10, [l0, l1, l2, l3], [.long j0], h) Q = Q (some (.long j0), h) := t_ret k_69_10 (by rw [r_69]; rfl)
theorem e_69 : Tr sc d 69 (ent0 69 [.ref k0, .int i1, .int i2, .int i3] h) Q = Tr sc d 69 (0, [some (.ref k0), some (.int i1), some (.int i2), some (.int i3)], [], h) Q := by
  have e : mL 69 = 4 := by decide +kernel
  unfold ent0
  rw [e]
  rfl
theorem r_70 : mR 70 = some .long := by decide +kernel
theorem k_70_0 : lk 70 0 = some (.iload_n 1, 1, 1, 0, .null) := by decide +kernel
theorem x_70_0 : Tr sc d 70 (0, [l0, some (.int x), l2, l3, l4, l5, l6, l7, l8, l9, l10, l11], [], h) Q = Tr sc d 70 (1, [l0, some (.int x), l2, l3, l4, l5, l6, l7, l8, l9, l10, l11], [.int x], h) Q := t_iload_n k_70_0 rfl
theorem k_70_1 : lk 70 1 = some (.ifCond .gt 21, 4, 22, 0, .null) := by decide +kernel
theorem x_70_1 : Tr sc d 70 (1, [l0, l1, l2, l3, l4, l5, l6, l7, l8, l9, l10, l11], [.int i0], h) Q = if 0 < i0 then Tr sc d 70 (22, [l0, l1, l2, l3, l4, l5, l6, l7, l8, l9, l10, l11], [], h) Q else Tr sc d 70 (4, [l0, l1, l2, l3, l4, l5, l6, l7, l8, l9, l10, l11], [], h) Q := t_if k_70_1 rfl
theorem k_70_4 : lk 70 4 = some (.iload_n 2, 5, 2, 0, .null) := by decide +kernel
theorem x_70_4 : Tr sc d 70 (4, [l0, l1, some (.int x), l3, l4, l5, l6, l7, l8, l9, l10, l11], [], h) Q = Tr sc d 70 (5, [l0, l1, some (.int x), l3, l4, l5, l6, l7, l8, l9, l10, l11], [.int x], h) Q := t_iload_n k_70_4 rfl
theorem k_70_5 : lk 70 5 = some (.iload 5, 7, 5, 0, .null) := by decide +kernel
theorem x_70_5 : Tr sc d 70 (5, [l0, l1, l2, l3, l4, some (.int x), l6, l7, l8, l9, l10, l11], [.int i0], h) Q = Tr sc d 70 (7, [l0, l1, l2, l3, l4, some (.int x), l6, l7, l8, l9, l10, l11], [.int x, .int i0], h) Q := t_iload k_70_5 rfl
theorem k_70_7 : lk 70 7 = some (.if_icmp .ne 13, 10, 20, 0, .null) := by decide +kernel
theorem x_70_7 : Tr sc d 70 (7, [l0, l1, l2, l3, l4, l5, l6, l7, l8, l9, l10, l11], [.int i1, .int i0], h) Q = if i0 = i1 then Tr sc d 70 (10, [l0, l1, l2, l3, l4, l5, l6, l7, l8, l9, l10, l11], [], h) Q else Tr sc d 70 (20, [l0, l1, l2, l3, l4, l5, l6, l7, l8, l9, l10, l11], [], h) Q := t_if k_70_7 rfl
theorem k_70_10 : lk 70 10 = some (.iload_n 3, 11, 3, 0, .null) := by decide +kernel
theorem x_70_10 : Tr sc d 70 (10, [l0, l1, l2, some (.int x), l4, l5, l6, l7, l8, l9, l10, l11], [], h) Q = Tr sc d 70 (11, [l0, l1, l2, some (.int x), l4, l5, l6, l7, l8, l9, l10, l11], [.int x], h) Q := t_iload_n k_70_10 rfl
theorem k_70_11 : lk 70 11 = some (.iload 6, 13, 6, 0, .null) := by decide +kernel
theorem x_70_11 : Tr sc d 70 (11, [l0, l1, l2, l3, l4, l5, some (.int x), l7, l8, l9, l10, l11], [.int i0], h) Q = Tr sc d 70 (13, [l0, l1, l2, l3, l4, l5, some (.int x), l7, l8, l9, l10, l11], [.int x, .int i0], h) Q := t_iload k_70_11 rfl
theorem k_70_13 : lk 70 13 = some (.if_icmp .ne 7, 16, 20, 0, .null) := by decide +kernel
theorem x_70_13 : Tr sc d 70 (13, [l0, l1, l2, l3, l4, l5, l6, l7, l8, l9, l10, l11], [.int i1, .int i0], h) Q = if i0 = i1 then Tr sc d 70 (16, [l0, l1, l2, l3, l4, l5, l6, l7, l8, l9, l10, l11], [], h) Q else Tr sc d 70 (20, [l0, l1, l2, l3, l4, l5, l6, l7, l8, l9, l10, l11], [], h) Q := t_if k_70_13 rfl
theorem k_70_16 : lk 70 16 = some (.lconst 1, 17, 0, 0, .long 1) := by decide +kernel
theorem x_70_16 : Tr sc d 70 (16, [l0, l1, l2, l3, l4, l5, l6, l7, l8, l9, l10, l11], [], h) Q = Tr sc d 70 (17, [l0, l1, l2, l3, l4, l5, l6, l7, l8, l9, l10, l11], [.long 1], h) Q := t_go k_70_16 rfl
theorem k_70_17 : lk 70 17 = some (.goto 4, 20, 21, 0, .null) := by decide +kernel
theorem x_70_17 : Tr sc d 70 (17, [l0, l1, l2, l3, l4, l5, l6, l7, l8, l9, l10, l11], [.long j0], h) Q = Tr sc d 70 (21, [l0, l1, l2, l3, l4, l5, l6, l7, l8, l9, l10, l11], [.long j0], h) Q := t_go k_70_17 rfl
theorem k_70_20 : lk 70 20 = some (.lconst 0, 21, 0, 0, .long 0) := by decide +kernel
theorem x_70_20 : Tr sc d 70 (20, [l0, l1, l2, l3, l4, l5, l6, l7, l8, l9, l10, l11], [], h) Q = Tr sc d 70 (21, [l0, l1, l2, l3, l4, l5, l6, l7, l8, l9, l10, l11], [.long 0], h) Q := t_go k_70_20 rfl
theorem k_70_21 : lk 70 21 = some (.lreturn, 22, 0, 0, .null) := by decide +kernel
theorem x_70_21 : Tr sc d 70 (21, [l0, l1, l2, l3, l4, l5, l6, l7, l8, l9, l10, l11], [.long j0], h) Q = Q (some (.long j0), h) := t_ret k_70_21 (by rw [r_70]; rfl)
theorem k_70_22 : lk 70 22 = some (.lconst 0, 23, 0, 0, .long 0) := by decide +kernel
theorem x_70_22 : Tr sc d 70 (22, [l0, l1, l2, l3, l4, l5, l6, l7, l8, l9, l10, l11], [], h) Q = Tr sc d 70 (23, [l0, l1, l2, l3, l4, l5, l6, l7, l8, l9, l10, l11], [.long 0], h) Q := t_go k_70_22 rfl
theorem k_70_23 : lk 70 23 = some (.lstore 7, 25, 7, 0, .null) := by decide +kernel
theorem x_70_23 : Tr sc d 70 (23, [l0, l1, l2, l3, l4, l5, l6, l7, l8, l9, l10, l11], [.long j0], h) Q = Tr sc d 70 (25, [l0, l1, l2, l3, l4, l5, cl2 l6, some (.long j0), none, l9, l10, l11], [], h) Q := t_lstore k_70_23 (Nat.le_of_ble_eq_true rfl)
theorem k_70_25 : lk 70 25 = some (.iconst 0, 26, 0, 0, .int 0) := by decide +kernel
theorem x_70_25 : Tr sc d 70 (25, [l0, l1, l2, l3, l4, l5, l6, l7, l8, l9, l10, l11], [], h) Q = Tr sc d 70 (26, [l0, l1, l2, l3, l4, l5, l6, l7, l8, l9, l10, l11], [.int 0], h) Q := t_go k_70_25 rfl
theorem k_70_26 : lk 70 26 = some (.istore 9, 28, 9, 0, .null) := by decide +kernel
theorem x_70_26 : Tr sc d 70 (26, [l0, l1, l2, l3, l4, l5, l6, l7, l8, l9, l10, l11], [.int i0], h) Q = Tr sc d 70 (28, [l0, l1, l2, l3, l4, l5, l6, l7, cl2 l8, some (.int i0), l10, l11], [], h) Q := t_istore k_70_26 (Nat.le_of_ble_eq_true rfl)
theorem k_70_28 : lk 70 28 = some (.iload 9, 30, 9, 0, .null) := by decide +kernel
theorem x_70_28 : Tr sc d 70 (28, [l0, l1, l2, l3, l4, l5, l6, l7, l8, some (.int x), l10, l11], [], h) Q = Tr sc d 70 (30, [l0, l1, l2, l3, l4, l5, l6, l7, l8, some (.int x), l10, l11], [.int x], h) Q := t_iload k_70_28 rfl
theorem k_70_30 : lk 70 30 = some (.aload_n 0, 31, 0, 0, .null) := by decide +kernel
theorem x_70_30 : Tr sc d 70 (30, [some (.ref xk), l1, l2, l3, l4, l5, l6, l7, l8, l9, l10, l11], [.int i0], h) Q = Tr sc d 70 (31, [some (.ref xk), l1, l2, l3, l4, l5, l6, l7, l8, l9, l10, l11], [.ref xk, .int i0], h) Q := t_aload_n k_70_30 rfl
theorem k_70_31 : lk 70 31 = some (.getfield 38, 34, 6, 8, .int 0) := by decide +kernel
theorem x_70_31 : Tr sc d 70 (31, [l0, l1, l2, l3, l4, l5, l6, l7, l8, l9, l10, l11], [.ref k1, .int i0], h) Q = (okp h k1 6 = true ∧ Tr sc d 70 (34, [l0, l1, l2, l3, l4, l5, l6, l7, l8, l9, l10, l11], [.int (hI h k1 8), .int i0], h) Q) := t_gd k_70_31 rfl
theorem k_70_34 : lk 70 34 = some (.if_icmp .ge 68, 37, 102, 0, .null) := by decide +kernel
theorem x_70_34 : Tr sc d 70 (34, [l0, l1, l2, l3, l4, l5, l6, l7, l8, l9, l10, l11], [.int i1, .int i0], h) Q = if i1 ≤ i0 then Tr sc d 70 (102, [l0, l1, l2, l3, l4, l5, l6, l7, l8, l9, l10, l11], [], h) Q else Tr sc d 70 (37, [l0, l1, l2, l3, l4, l5, l6, l7, l8, l9, l10, l11], [], h) Q := t_if k_70_34 rfl
theorem k_70_37 : lk 70 37 = some (.aload_n 0, 38, 0, 0, .null) := by decide +kernel
theorem x_70_37 : Tr sc d 70 (37, [some (.ref xk), l1, l2, l3, l4, l5, l6, l7, l8, l9, l10, l11], [], h) Q = Tr sc d 70 (38, [some (.ref xk), l1, l2, l3, l4, l5, l6, l7, l8, l9, l10, l11], [.ref xk], h) Q := t_aload_n k_70_37 rfl
theorem k_70_38 : lk 70 38 = some (.iload 9, 40, 9, 0, .null) := by decide +kernel
theorem x_70_38 : Tr sc d 70 (38, [l0, l1, l2, l3, l4, l5, l6, l7, l8, some (.int x), l10, l11], [.ref k0], h) Q = Tr sc d 70 (40, [l0, l1, l2, l3, l4, l5, l6, l7, l8, some (.int x), l10, l11], [.int x, .ref k0], h) Q := t_iload k_70_38 rfl
theorem k_70_40 : lk 70 40 = some (.iload_n 2, 41, 2, 0, .null) := by decide +kernel
theorem x_70_40 : Tr sc d 70 (40, [l0, l1, some (.int x), l3, l4, l5, l6, l7, l8, l9, l10, l11], [.int i1, .ref k0], h) Q = Tr sc d 70 (41, [l0, l1, some (.int x), l3, l4, l5, l6, l7, l8, l9, l10, l11], [.int x, .int i1, .ref k0], h) Q := t_iload_n k_70_40 rfl
theorem k_70_41 : lk 70 41 = some (.iload_n 3, 42, 3, 0, .null) := by decide +kernel
theorem x_70_41 : Tr sc d 70 (41, [l0, l1, l2, some (.int x), l4, l5, l6, l7, l8, l9, l10, l11], [.int i2, .int i1, .ref k0], h) Q = Tr sc d 70 (42, [l0, l1, l2, some (.int x), l4, l5, l6, l7, l8, l9, l10, l11], [.int x, .int i2, .int i1, .ref k0], h) Q := t_iload_n k_70_41 rfl
theorem k_70_42 : lk 70 42 = some (.iload 4, 44, 4, 0, .null) := by decide +kernel
theorem x_70_42 : Tr sc d 70 (42, [l0, l1, l2, l3, some (.int x), l5, l6, l7, l8, l9, l10, l11], [.int i3, .int i2, .int i1, .ref k0], h) Q = Tr sc d 70 (44, [l0, l1, l2, l3, some (.int x), l5, l6, l7, l8, l9, l10, l11], [.int x, .int i3, .int i2, .int i1, .ref k0], h) Q := t_iload k_70_42 rfl
theorem k_70_44 : lk 70 44 = some (.invokevirtual 118, 47, 65, 4, .null) := by decide +kernel
theorem x_70_44 : Tr sc (d + 1) 70 (44, [l0, l1, l2, l3, l4, l5, l6, l7, l8, l9, l10, l11], [.int i4, .int i3, .int i2, .int i1, .ref k0], h) Q = (okp h k0 6 = true ∧ Tr sc d 65 (ent0 65 [.ref k0, .int i1, .int i2, .int i3, .int i4] h) (fun z => Tr sc (d + 1) 70 (47, [l0, l1, l2, l3, l4, l5, l6, l7, l8, l9, l10, l11], z.1.toList ++ [], z.2) Q)) := t_cv (as := [.int i1, .int i2, .int i3, .int i4]) (r := []) k_70_44 rfl rfl (Nat.le_of_ble_eq_true rfl) (Nat.le_of_ble_eq_true rfl) (Nat.le_of_ble_eq_true rfl)
theorem k_70_47 : lk 70 47 = some (.istore 10, 49, 10, 0, .null) := by decide +kernel
theorem x_70_47 : Tr sc d 70 (47, [l0, l1, l2, l3, l4, l5, l6, l7, l8, l9, l10, l11], [.int i0], h) Q = Tr sc d 70 (49, [l0, l1, l2, l3, l4, l5, l6, l7, l8, cl2 l9, some (.int i0), l11], [], h) Q := t_istore k_70_47 (Nat.le_of_ble_eq_true rfl)
theorem k_70_49 : lk 70 49 = some (.aload_n 0, 50, 0, 0, .null) := by decide +kernel
theorem x_70_49 : Tr sc d 70 (49, [some (.ref xk), l1, l2, l3, l4, l5, l6, l7, l8, l9, l10, l11], [], h) Q = Tr sc d 70 (50, [some (.ref xk), l1, l2, l3, l4, l5, l6, l7, l8, l9, l10, l11], [.ref xk], h) Q := t_aload_n k_70_49 rfl
theorem k_70_50 : lk 70 50 = some (.iload 9, 52, 9, 0, .null) := by decide +kernel
theorem x_70_50 : Tr sc d 70 (50, [l0, l1, l2, l3, l4, l5, l6, l7, l8, some (.int x), l10, l11], [.ref k0], h) Q = Tr sc d 70 (52, [l0, l1, l2, l3, l4, l5, l6, l7, l8, some (.int x), l10, l11], [.int x, .ref k0], h) Q := t_iload k_70_50 rfl
theorem k_70_52 : lk 70 52 = some (.iload_n 2, 53, 2, 0, .null) := by decide +kernel
theorem x_70_52 : Tr sc d 70 (52, [l0, l1, some (.int x), l3, l4, l5, l6, l7, l8, l9, l10, l11], [.int i1, .ref k0], h) Q = Tr sc d 70 (53, [l0, l1, some (.int x), l3, l4, l5, l6, l7, l8, l9, l10, l11], [.int x, .int i1, .ref k0], h) Q := t_iload_n k_70_52 rfl
theorem k_70_53 : lk 70 53 = some (.iload_n 3, 54, 3, 0, .null) := by decide +kernel
theorem x_70_53 : Tr sc d 70 (53, [l0, l1, l2, some (.int x), l4, l5, l6, l7, l8, l9, l10, l11], [.int i2, .int i1, .ref k0], h) Q = Tr sc d 70 (54, [l0, l1, l2, some (.int x), l4, l5, l6, l7, l8, l9, l10, l11], [.int x, .int i2, .int i1, .ref k0], h) Q := t_iload_n k_70_53 rfl
theorem k_70_54 : lk 70 54 = some (.iload 4, 56, 4, 0, .null) := by decide +kernel
theorem x_70_54 : Tr sc d 70 (54, [l0, l1, l2, l3, some (.int x), l5, l6, l7, l8, l9, l10, l11], [.int i3, .int i2, .int i1, .ref k0], h) Q = Tr sc d 70 (56, [l0, l1, l2, l3, some (.int x), l5, l6, l7, l8, l9, l10, l11], [.int x, .int i3, .int i2, .int i1, .ref k0], h) Q := t_iload k_70_54 rfl
theorem k_70_56 : lk 70 56 = some (.invokevirtual 122, 59, 66, 4, .null) := by decide +kernel
theorem x_70_56 : Tr sc (d + 1) 70 (56, [l0, l1, l2, l3, l4, l5, l6, l7, l8, l9, l10, l11], [.int i4, .int i3, .int i2, .int i1, .ref k0], h) Q = (okp h k0 6 = true ∧ Tr sc d 66 (ent0 66 [.ref k0, .int i1, .int i2, .int i3, .int i4] h) (fun z => Tr sc (d + 1) 70 (59, [l0, l1, l2, l3, l4, l5, l6, l7, l8, l9, l10, l11], z.1.toList ++ [], z.2) Q)) := t_cv (as := [.int i1, .int i2, .int i3, .int i4]) (r := []) k_70_56 rfl rfl (Nat.le_of_ble_eq_true rfl) (Nat.le_of_ble_eq_true rfl) (Nat.le_of_ble_eq_true rfl)
theorem k_70_59 : lk 70 59 = some (.istore 11, 61, 11, 0, .null) := by decide +kernel
theorem x_70_59 : Tr sc d 70 (59, [l0, l1, l2, l3, l4, l5, l6, l7, l8, l9, l10, l11], [.int i0], h) Q = Tr sc d 70 (61, [l0, l1, l2, l3, l4, l5, l6, l7, l8, l9, cl2 l10, some (.int i0)], [], h) Q := t_istore k_70_59 (Nat.le_of_ble_eq_true rfl)
theorem k_70_61 : lk 70 61 = some (.lload 7, 63, 7, 0, .null) := by decide +kernel
theorem x_70_61 : Tr sc d 70 (61, [l0, l1, l2, l3, l4, l5, l6, some (.long xl), l8, l9, l10, l11], [], h) Q = Tr sc d 70 (63, [l0, l1, l2, l3, l4, l5, l6, some (.long xl), l8, l9, l10, l11], [.long xl], h) Q := t_lload k_70_61 rfl
theorem k_70_63 : lk 70 63 = some (.aload_n 0, 64, 0, 0, .null) := by decide +kernel
theorem x_70_63 : Tr sc d 70 (63, [some (.ref xk), l1, l2, l3, l4, l5, l6, l7, l8, l9, l10, l11], [.long j0], h) Q = Tr sc d 70 (64, [some (.ref xk), l1, l2, l3, l4, l5, l6, l7, l8, l9, l10, l11], [.ref xk, .long j0], h) Q := t_aload_n k_70_63 rfl
theorem k_70_64 : lk 70 64 = some (.iload 9, 66, 9, 0, .null) := by decide +kernel
theorem x_70_64 : Tr sc d 70 (64, [l0, l1, l2, l3, l4, l5, l6, l7, l8, some (.int x), l10, l11], [.ref k1, .long j0], h) Q = Tr sc d 70 (66, [l0, l1, l2, l3, l4, l5, l6, l7, l8, some (.int x), l10, l11], [.int x, .ref k1, .long j0], h) Q := t_iload k_70_64 rfl
theorem k_70_66 : lk 70 66 = some (.invokevirtual 57, 69, 56, 1, .null) := by decide +kernel
theorem x_70_66 : Tr sc (d + 1) 70 (66, [l0, l1, l2, l3, l4, l5, l6, l7, l8, l9, l10, l11], [.int i2, .ref k1, .long j0], h) Q = (okp h k1 6 = true ∧ Tr sc d 56 (ent0 56 [.ref k1, .int i2] h) (fun z => Tr sc (d + 1) 70 (69, [l0, l1, l2, l3, l4, l5, l6, l7, l8, l9, l10, l11], z.1.toList ++ [.long j0], z.2) Q)) := t_cv (as := [.int i2]) (r := [.long j0]) k_70_66 rfl rfl (Nat.le_of_ble_eq_true rfl) (Nat.le_of_ble_eq_true rfl) (Nat.le_of_ble_eq_true rfl)
theorem k_70_69 : lk 70 69 = some (.i2l, 70, 0, 0, .null) := by decide +kernel
theorem x_70_69 : Tr sc d 70 (69, [l0, l1, l2, l3, l4, l5, l6, l7, l8, l9, l10, l11], [.int i1, .long j0], h) Q = Tr sc d 70 (70, [l0, l1, l2, l3, l4, l5, l6, l7, l8, l9, l10, l11], [.long i1.toInt64, .long j0], h) Q := t_go k_70_69 rfl
theorem k_70_70 : lk 70 70 = some (.aload_n 0, 71, 0, 0, .null) := by decide +kernel
theorem x_70_70 : Tr sc d 70 (70, [some (.ref xk), l1, l2, l3, l4, l5, l6, l7, l8, l9, l10, l11], [.long j1, .long j0], h) Q = Tr sc d 70 (71, [some (.ref xk), l1, l2, l3, l4, l5, l6, l7, l8, l9, l10, l11], [.ref xk, .long j1, .long j0], h) Q := t_aload_n k_70_70 rfl
theorem k_70_71 : lk 70 71 = some (.iload_n 1, 72, 1, 0, .null) := by decide +kernel
theorem x_70_71 : Tr sc d 70 (71, [l0, some (.int x), l2, l3, l4, l5, l6, l7, l8, l9, l10, l11], [.ref k2, .long j1, .long j0], h) Q = Tr sc d 70 (72, [l0, some (.int x), l2, l3, l4, l5, l6, l7, l8, l9, l10, l11], [.int x, .ref k2, .long j1, .long j0], h) Q := t_iload_n k_70_71 rfl
theorem k_70_72 : lk 70 72 = some (.iconst 1, 73, 0, 0, .int 1) := by decide +kernel
theorem x_70_72 : Tr sc d 70 (72, [l0, l1, l2, l3, l4, l5, l6, l7, l8, l9, l10, l11], [.int i3, .ref k2, .long j1, .long j0], h) Q = Tr sc d 70 (73, [l0, l1, l2, l3, l4, l5, l6, l7, l8, l9, l10, l11], [.int 1, .int i3, .ref k2, .long j1, .long j0], h) Q := t_go k_70_72 rfl
theorem k_70_73 : lk 70 73 = some (.isub, 74, 0, 0, .null) := by decide +kernel
theorem x_70_73 : Tr sc d 70 (73, [l0, l1, l2, l3, l4, l5, l6, l7, l8, l9, l10, l11], [.int i4, .int i3, .ref k2, .long j1, .long j0], h) Q = Tr sc d 70 (74, [l0, l1, l2, l3, l4, l5, l6, l7, l8, l9, l10, l11], [.int (i3 - i4), .ref k2, .long j1, .long j0], h) Q := t_go k_70_73 rfl
theorem k_70_74 : lk 70 74 = some (.iload 10, 76, 10, 0, .null) := by decide +kernel
theorem x_70_74 : Tr sc d 70 (74, [l0, l1, l2, l3, l4, l5, l6, l7, l8, l9, some (.int x), l11], [.int i3, .ref k2, .long j1, .long j0], h) Q = Tr sc d 70 (76, [l0, l1, l2, l3, l4, l5, l6, l7, l8, l9, some (.int x), l11], [.int x, .int i3, .ref k2, .long j1, .long j0], h) Q := t_iload k_70_74 rfl
theorem k_70_76 : lk 70 76 = some (.iload 11, 78, 11, 0, .null) := by decide +kernel
theorem x_70_76 : Tr sc d 70 (76, [l0, l1, l2, l3, l4, l5, l6, l7, l8, l9, l10, some (.int x)], [.int i4, .int i3, .ref k2, .long j1, .long j0], h) Q = Tr sc d 70 (78, [l0, l1, l2, l3, l4, l5, l6, l7, l8, l9, l10, some (.int x)], [.int x, .int i4, .int i3, .ref k2, .long j1, .long j0], h) Q := t_iload k_70_76 rfl
theorem k_70_78 : lk 70 78 = some (.iload 4, 80, 4, 0, .null) := by decide +kernel
theorem x_70_78 : Tr sc d 70 (78, [l0, l1, l2, l3, some (.int x), l5, l6, l7, l8, l9, l10, l11], [.int i5, .int i4, .int i3, .ref k2, .long j1, .long j0], h) Q = Tr sc d 70 (80, [l0, l1, l2, l3, some (.int x), l5, l6, l7, l8, l9, l10, l11], [.int x, .int i5, .int i4, .int i3, .ref k2, .long j1, .long j0], h) Q := t_iload k_70_78 rfl
theorem k_70_80 : lk 70 80 = some (.aload_n 0, 81, 0, 0, .null) := by decide +kernel
theorem x_70_80 : Tr sc d 70 (80, [some (.ref xk), l1, l2, l3, l4, l5, l6, l7, l8, l9, l10, l11], [.int i6, .int i5, .int i4, .int i3, .ref k2, .long j1, .long j0], h) Q = Tr sc d 70 (81, [some (.ref xk), l1, l2, l3, l4, l5, l6, l7, l8, l9, l10, l11], [.ref xk, .int i6, .int i5, .int i4, .int i3, .ref k2, .long j1, .long j0], h) Q := t_aload_n k_70_80 rfl
theorem k_70_81 : lk 70 81 = some (.getfield 35, 84, 6, 7, .int 0) := by decide +kernel
theorem x_70_81 : Tr sc d 70 (81, [l0, l1, l2, l3, l4, l5, l6, l7, l8, l9, l10, l11], [.ref k7, .int i6, .int i5, .int i4, .int i3, .ref k2, .long j1, .long j0], h) Q = (okp h k7 6 = true ∧ Tr sc d 70 (84, [l0, l1, l2, l3, l4, l5, l6, l7, l8, l9, l10, l11], [.int (hI h k7 7), .int i6, .int i5, .int i4, .int i3, .ref k2, .long j1, .long j0], h) Q) := t_gd k_70_81 rfl
theorem k_70_84 : lk 70 84 = some (.imul, 85, 0, 0, .null) := by decide +kernel
theorem x_70_84 : Tr sc d 70 (84, [l0, l1, l2, l3, l4, l5, l6, l7, l8, l9, l10, l11], [.int i7, .int i6, .int i5, .int i4, .int i3, .ref k2, .long j1, .long j0], h) Q = Tr sc d 70 (85, [l0, l1, l2, l3, l4, l5, l6, l7, l8, l9, l10, l11], [.int (i6 * i7), .int i5, .int i4, .int i3, .ref k2, .long j1, .long j0], h) Q := t_go k_70_84 rfl
theorem k_70_85 : lk 70 85 = some (.iload 5, 87, 5, 0, .null) := by decide +kernel
theorem x_70_85 : Tr sc d 70 (85, [l0, l1, l2, l3, l4, some (.int x), l6, l7, l8, l9, l10, l11], [.int i6, .int i5, .int i4, .int i3, .ref k2, .long j1, .long j0], h) Q = Tr sc d 70 (87, [l0, l1, l2, l3, l4, some (.int x), l6, l7, l8, l9, l10, l11], [.int x, .int i6, .int i5, .int i4, .int i3, .ref k2, .long j1, .long j0], h) Q := t_iload k_70_85 rfl
theorem k_70_87 : lk 70 87 = some (.iload 6, 89, 6, 0, .null) := by decide +kernel
theorem x_70_87 : Tr sc d 70 (87, [l0, l1, l2, l3, l4, l5, some (.int x), l7, l8, l9, l10, l11], [.int i7, .int i6, .int i5, .int i4, .int i3, .ref k2, .long j1, .long j0], h) Q = Tr sc d 70 (89, [l0, l1, l2, l3, l4, l5, some (.int x), l7, l8, l9, l10, l11], [.int x, .int i7, .int i6, .int i5, .int i4, .int i3, .ref k2, .long j1, .long j0], h) Q := t_iload k_70_87 rfl
theorem k_70_89 : lk 70 89 = some (.invokevirtual 114, 92, 70, 6, .null) := by decide +kernel
theorem x_70_89 : Tr sc (d + 1) 70 (89, [l0, l1, l2, l3, l4, l5, l6, l7, l8, l9, l10, l11], [.int i8, .int i7, .int i6, .int i5, .int i4, .int i3, .ref k2, .long j1, .long j0], h) Q = (okp h k2 6 = true ∧ Tr sc d 70 (ent0 70 [.ref k2, .int i3, .int i4, .int i5, .int i6, .int i7, .int i8] h) (fun z => Tr sc (d + 1) 70 (92, [l0, l1, l2, l3, l4, l5, l6, l7, l8, l9, l10, l11], z.1.toList ++ [.long j1, .long j0], z.2) Q)) := t_cv (as := [.int i3, .int i4, .int i5, .int i6, .int i7, .int i8]) (r := [.long j1, .long j0]) k_70_89 rfl rfl (Nat.le_of_ble_eq_true rfl) (Nat.le_of_ble_eq_true rfl) (Nat.le_of_ble_eq_true rfl)
theorem k_70_92 : lk 70 92 = some (.lmul, 93, 0, 0, .null) := by decide +kernel
theorem x_70_92 : Tr sc d 70 (92, [l0, l1, l2, l3, l4, l5, l6, l7, l8, l9, l10, l11], [.long j2, .long j1, .long j0], h) Q = Tr sc d 70 (93, [l0, l1, l2, l3, l4, l5, l6, l7, l8, l9, l10, l11], [.long (j1 * j2), .long j0], h) Q := t_go k_70_92 rfl
theorem k_70_93 : lk 70 93 = some (.ladd, 94, 0, 0, .null) := by decide +kernel
theorem x_70_93 : Tr sc d 70 (93, [l0, l1, l2, l3, l4, l5, l6, l7, l8, l9, l10, l11], [.long j1, .long j0], h) Q = Tr sc d 70 (94, [l0, l1, l2, l3, l4, l5, l6, l7, l8, l9, l10, l11], [.long (j0 + j1)], h) Q := t_go k_70_93 rfl
theorem k_70_94 : lk 70 94 = some (.lstore 7, 96, 7, 0, .null) := by decide +kernel
theorem x_70_94 : Tr sc d 70 (94, [l0, l1, l2, l3, l4, l5, l6, l7, l8, l9, l10, l11], [.long j0], h) Q = Tr sc d 70 (96, [l0, l1, l2, l3, l4, l5, cl2 l6, some (.long j0), none, l9, l10, l11], [], h) Q := t_lstore k_70_94 (Nat.le_of_ble_eq_true rfl)
theorem k_70_96 : lk 70 96 = some (.iinc 9 1, 99, 9, 0, .int 1) := by decide +kernel
theorem x_70_96 : Tr sc d 70 (96, [l0, l1, l2, l3, l4, l5, l6, l7, l8, some (.int x), l10, l11], [], h) Q = Tr sc d 70 (99, [l0, l1, l2, l3, l4, l5, l6, l7, cl2 l8, some (.int (x + 1)), l10, l11], [], h) Q := t_inc k_70_96 rfl (Nat.le_of_ble_eq_true rfl)
theorem k_70_99 : lk 70 99 = some (.goto (-71), 102, 28, 0, .null) := by decide +kernel
theorem x_70_99 : Tr sc d 70 (99, [l0, l1, l2, l3, l4, l5, l6, l7, l8, l9, l10, l11], [], h) Q = Tr sc d 70 (28, [l0, l1, l2, l3, l4, l5, l6, l7, l8, l9, l10, l11], [], h) Q := t_go k_70_99 rfl
theorem k_70_102 : lk 70 102 = some (.lload 7, 104, 7, 0, .null) := by decide +kernel
theorem x_70_102 : Tr sc d 70 (102, [l0, l1, l2, l3, l4, l5, l6, some (.long xl), l8, l9, l10, l11], [], h) Q = Tr sc d 70 (104, [l0, l1, l2, l3, l4, l5, l6, some (.long xl), l8, l9, l10, l11], [.long xl], h) Q := t_lload k_70_102 rfl
theorem k_70_104 : lk 70 104 = some (.lreturn, 105, 0, 0, .null) := by decide +kernel
theorem x_70_104 : Tr sc d 70 (104, [l0, l1, l2, l3, l4, l5, l6, l7, l8, l9, l10, l11], [.long j0], h) Q = Q (some (.long j0), h) := t_ret k_70_104 (by rw [r_70]; rfl)
theorem e_70 : Tr sc d 70 (ent0 70 [.ref k0, .int i1, .int i2, .int i3, .int i4, .int i5, .int i6] h) Q = Tr sc d 70 (0, [some (.ref k0), some (.int i1), some (.int i2), some (.int i3), some (.int i4), some (.int i5), some (.int i6), none, none, none, none, none], [], h) Q := by
  have e : mL 70 = 12 := by decide +kernel
  unfold ent0
  rw [e]
  rfl
theorem r_71 : mR 71 = some .long := by decide +kernel
theorem k_71_0 : lk 71 0 = some (.aload_n 0, 1, 0, 0, .null) := by decide +kernel
theorem x_71_0 : Tr sc d 71 (0, [some (.ref xk), l1, l2, l3], [], h) Q = Tr sc d 71 (1, [some (.ref xk), l1, l2, l3], [.ref xk], h) Q := t_aload_n k_71_0 rfl
theorem k_71_1 : lk 71 1 = some (.invokevirtual 125, 4, 48, 0, .null) := by decide +kernel
theorem x_71_1 : Tr sc (d + 1) 71 (1, [l0, l1, l2, l3], [.ref k0], h) Q = (okp h k0 6 = true ∧ Tr sc d 48 (ent0 48 [.ref k0] h) (fun z => Tr sc (d + 1) 71 (4, [l0, l1, l2, l3], z.1.toList ++ [], z.2) Q)) := t_cv (as := []) (r := []) k_71_1 rfl rfl (Nat.le_of_ble_eq_true rfl) (Nat.le_of_ble_eq_true rfl) (Nat.le_of_ble_eq_true rfl)
theorem k_71_4 : lk 71 4 = some (.ifCond .eq 11, 7, 15, 0, .null) := by decide +kernel
theorem x_71_4 : Tr sc d 71 (4, [l0, l1, l2, l3], [.int i0], h) Q = if i0 = 0 then Tr sc d 71 (15, [l0, l1, l2, l3], [], h) Q else Tr sc d 71 (7, [l0, l1, l2, l3], [], h) Q := t_if k_71_4 rfl
theorem k_71_7 : lk 71 7 = some (.ldc2_w 129, 10, 0, 1167, .long 31) := by decide +kernel
theorem x_71_7 : Tr sc d 71 (7, [l0, l1, l2, l3], [], h) Q = Tr sc d 71 (10, [l0, l1, l2, l3], [.long 31], h) Q := t_go k_71_7 rfl
theorem k_71_10 : lk 71 10 = some (.lload_n 1, 11, 1, 0, .null) := by decide +kernel
theorem x_71_10 : Tr sc d 71 (10, [l0, some (.long xl), l2, l3], [.long j0], h) Q = Tr sc d 71 (11, [l0, some (.long xl), l2, l3], [.long xl, .long j0], h) Q := t_lload_n k_71_10 rfl
theorem k_71_11 : lk 71 11 = some (.lmul, 12, 0, 0, .null) := by decide +kernel
theorem x_71_11 : Tr sc d 71 (11, [l0, l1, l2, l3], [.long j1, .long j0], h) Q = Tr sc d 71 (12, [l0, l1, l2, l3], [.long (j0 * j1)], h) Q := t_go k_71_11 rfl
theorem k_71_12 : lk 71 12 = some (.lconst 1, 13, 0, 0, .long 1) := by decide +kernel
theorem x_71_12 : Tr sc d 71 (12, [l0, l1, l2, l3], [.long j0], h) Q = Tr sc d 71 (13, [l0, l1, l2, l3], [.long 1, .long j0], h) Q := t_go k_71_12 rfl
theorem k_71_13 : lk 71 13 = some (.lsub, 14, 0, 0, .null) := by decide +kernel
theorem x_71_13 : Tr sc d 71 (13, [l0, l1, l2, l3], [.long j1, .long j0], h) Q = Tr sc d 71 (14, [l0, l1, l2, l3], [.long (j0 - j1)], h) Q := t_go k_71_13 rfl
theorem k_71_14 : lk 71 14 = some (.lreturn, 15, 0, 0, .null) := by decide +kernel
theorem x_71_14 : Tr sc d 71 (14, [l0, l1, l2, l3], [.long j0], h) Q = Q (some (.long j0), h) := t_ret k_71_14 (by rw [r_71]; rfl)
theorem k_71_15 : lk 71 15 = some (.ldc2_w 129, 18, 0, 1167, .long 31) := by decide +kernel
theorem x_71_15 : Tr sc d 71 (15, [l0, l1, l2, l3], [], h) Q = Tr sc d 71 (18, [l0, l1, l2, l3], [.long 31], h) Q := t_go k_71_15 rfl
theorem k_71_18 : lk 71 18 = some (.lload_n 1, 19, 1, 0, .null) := by decide +kernel
theorem x_71_18 : Tr sc d 71 (18, [l0, some (.long xl), l2, l3], [.long j0], h) Q = Tr sc d 71 (19, [l0, some (.long xl), l2, l3], [.long xl, .long j0], h) Q := t_lload_n k_71_18 rfl
theorem k_71_19 : lk 71 19 = some (.lmul, 20, 0, 0, .null) := by decide +kernel
theorem x_71_19 : Tr sc d 71 (19, [l0, l1, l2, l3], [.long j1, .long j0], h) Q = Tr sc d 71 (20, [l0, l1, l2, l3], [.long (j0 * j1)], h) Q := t_go k_71_19 rfl
theorem k_71_20 : lk 71 20 = some (.aload_n 0, 21, 0, 0, .null) := by decide +kernel
theorem x_71_20 : Tr sc d 71 (20, [some (.ref xk), l1, l2, l3], [.long j0], h) Q = Tr sc d 71 (21, [some (.ref xk), l1, l2, l3], [.ref xk, .long j0], h) Q := t_aload_n k_71_20 rfl
theorem k_71_21 : lk 71 21 = some (.getfield 31, 24, 6, 6, .int 0) := by decide +kernel
theorem x_71_21 : Tr sc d 71 (21, [l0, l1, l2, l3], [.ref k1, .long j0], h) Q = (okp h k1 6 = true ∧ Tr sc d 71 (24, [l0, l1, l2, l3], [.int (hI h k1 6), .long j0], h) Q) := t_gd k_71_21 rfl
theorem k_71_24 : lk 71 24 = some (.i2l, 25, 0, 0, .null) := by decide +kernel
theorem x_71_24 : Tr sc d 71 (24, [l0, l1, l2, l3], [.int i1, .long j0], h) Q = Tr sc d 71 (25, [l0, l1, l2, l3], [.long i1.toInt64, .long j0], h) Q := t_go k_71_24 rfl
theorem k_71_25 : lk 71 25 = some (.ladd, 26, 0, 0, .null) := by decide +kernel
theorem x_71_25 : Tr sc d 71 (25, [l0, l1, l2, l3], [.long j1, .long j0], h) Q = Tr sc d 71 (26, [l0, l1, l2, l3], [.long (j0 + j1)], h) Q := t_go k_71_25 rfl
theorem k_71_26 : lk 71 26 = some (.lstore_n 1, 27, 1, 0, .null) := by decide +kernel
theorem x_71_26 : Tr sc d 71 (26, [l0, l1, l2, l3], [.long j0], h) Q = Tr sc d 71 (27, [cl2 l0, some (.long j0), none, l3], [], h) Q := t_lstore_n k_71_26 (Nat.le_of_ble_eq_true rfl)
theorem k_71_27 : lk 71 27 = some (.ldc2_w 129, 30, 0, 1167, .long 31) := by decide +kernel
theorem x_71_27 : Tr sc d 71 (27, [l0, l1, l2, l3], [], h) Q = Tr sc d 71 (30, [l0, l1, l2, l3], [.long 31], h) Q := t_go k_71_27 rfl
theorem k_71_30 : lk 71 30 = some (.lload_n 1, 31, 1, 0, .null) := by decide +kernel
theorem x_71_30 : Tr sc d 71 (30, [l0, some (.long xl), l2, l3], [.long j0], h) Q = Tr sc d 71 (31, [l0, some (.long xl), l2, l3], [.long xl, .long j0], h) Q := t_lload_n k_71_30 rfl
theorem k_71_31 : lk 71 31 = some (.lmul, 32, 0, 0, .null) := by decide +kernel
theorem x_71_31 : Tr sc d 71 (31, [l0, l1, l2, l3], [.long j1, .long j0], h) Q = Tr sc d 71 (32, [l0, l1, l2, l3], [.long (j0 * j1)], h) Q := t_go k_71_31 rfl
theorem k_71_32 : lk 71 32 = some (.aload_n 0, 33, 0, 0, .null) := by decide +kernel
theorem x_71_32 : Tr sc d 71 (32, [some (.ref xk), l1, l2, l3], [.long j0], h) Q = Tr sc d 71 (33, [some (.ref xk), l1, l2, l3], [.ref xk, .long j0], h) Q := t_aload_n k_71_32 rfl
theorem k_71_33 : lk 71 33 = some (.getfield 35, 36, 6, 7, .int 0) := by decide +kernel
theorem x_71_33 : Tr sc d 71 (33, [l0, l1, l2, l3], [.ref k1, .long j0], h) Q = (okp h k1 6 = true ∧ Tr sc d 71 (36, [l0, l1, l2, l3], [.int (hI h k1 7), .long j0], h) Q) := t_gd k_71_33 rfl
theorem k_71_36 : lk 71 36 = some (.i2l, 37, 0, 0, .null) := by decide +kernel
theorem x_71_36 : Tr sc d 71 (36, [l0, l1, l2, l3], [.int i1, .long j0], h) Q = Tr sc d 71 (37, [l0, l1, l2, l3], [.long i1.toInt64, .long j0], h) Q := t_go k_71_36 rfl
theorem k_71_37 : lk 71 37 = some (.ladd, 38, 0, 0, .null) := by decide +kernel
theorem x_71_37 : Tr sc d 71 (37, [l0, l1, l2, l3], [.long j1, .long j0], h) Q = Tr sc d 71 (38, [l0, l1, l2, l3], [.long (j0 + j1)], h) Q := t_go k_71_37 rfl
theorem k_71_38 : lk 71 38 = some (.lstore_n 1, 39, 1, 0, .null) := by decide +kernel
theorem x_71_38 : Tr sc d 71 (38, [l0, l1, l2, l3], [.long j0], h) Q = Tr sc d 71 (39, [cl2 l0, some (.long j0), none, l3], [], h) Q := t_lstore_n k_71_38 (Nat.le_of_ble_eq_true rfl)
theorem k_71_39 : lk 71 39 = some (.ldc2_w 129, 42, 0, 1167, .long 31) := by decide +kernel
theorem x_71_39 : Tr sc d 71 (39, [l0, l1, l2, l3], [], h) Q = Tr sc d 71 (42, [l0, l1, l2, l3], [.long 31], h) Q := t_go k_71_39 rfl
theorem k_71_42 : lk 71 42 = some (.lload_n 1, 43, 1, 0, .null) := by decide +kernel
theorem x_71_42 : Tr sc d 71 (42, [l0, some (.long xl), l2, l3], [.long j0], h) Q = Tr sc d 71 (43, [l0, some (.long xl), l2, l3], [.long xl, .long j0], h) Q := t_lload_n k_71_42 rfl
theorem k_71_43 : lk 71 43 = some (.lmul, 44, 0, 0, .null) := by decide +kernel
theorem x_71_43 : Tr sc d 71 (43, [l0, l1, l2, l3], [.long j1, .long j0], h) Q = Tr sc d 71 (44, [l0, l1, l2, l3], [.long (j0 * j1)], h) Q := t_go k_71_43 rfl
theorem k_71_44 : lk 71 44 = some (.aload_n 0, 45, 0, 0, .null) := by decide +kernel
theorem x_71_44 : Tr sc d 71 (44, [some (.ref xk), l1, l2, l3], [.long j0], h) Q = Tr sc d 71 (45, [some (.ref xk), l1, l2, l3], [.ref xk, .long j0], h) Q := t_aload_n k_71_44 rfl
theorem k_71_45 : lk 71 45 = some (.getfield 38, 48, 6, 8, .int 0) := by decide +kernel
theorem x_71_45 : Tr sc d 71 (45, [l0, l1, l2, l3], [.ref k1, .long j0], h) Q = (okp h k1 6 = true ∧ Tr sc d 71 (48, [l0, l1, l2, l3], [.int (hI h k1 8), .long j0], h) Q) := t_gd k_71_45 rfl
theorem k_71_48 : lk 71 48 = some (.i2l, 49, 0, 0, .null) := by decide +kernel
theorem x_71_48 : Tr sc d 71 (48, [l0, l1, l2, l3], [.int i1, .long j0], h) Q = Tr sc d 71 (49, [l0, l1, l2, l3], [.long i1.toInt64, .long j0], h) Q := t_go k_71_48 rfl
theorem k_71_49 : lk 71 49 = some (.ladd, 50, 0, 0, .null) := by decide +kernel
theorem x_71_49 : Tr sc d 71 (49, [l0, l1, l2, l3], [.long j1, .long j0], h) Q = Tr sc d 71 (50, [l0, l1, l2, l3], [.long (j0 + j1)], h) Q := t_go k_71_49 rfl
theorem k_71_50 : lk 71 50 = some (.lstore_n 1, 51, 1, 0, .null) := by decide +kernel
theorem x_71_50 : Tr sc d 71 (50, [l0, l1, l2, l3], [.long j0], h) Q = Tr sc d 71 (51, [cl2 l0, some (.long j0), none, l3], [], h) Q := t_lstore_n k_71_50 (Nat.le_of_ble_eq_true rfl)
theorem k_71_51 : lk 71 51 = some (.iconst 0, 52, 0, 0, .int 0) := by decide +kernel
theorem x_71_51 : Tr sc d 71 (51, [l0, l1, l2, l3], [], h) Q = Tr sc d 71 (52, [l0, l1, l2, l3], [.int 0], h) Q := t_go k_71_51 rfl
theorem k_71_52 : lk 71 52 = some (.istore_n 3, 53, 3, 0, .null) := by decide +kernel
theorem x_71_52 : Tr sc d 71 (52, [l0, l1, l2, l3], [.int i0], h) Q = Tr sc d 71 (53, [l0, l1, cl2 l2, some (.int i0)], [], h) Q := t_istore_n k_71_52 (Nat.le_of_ble_eq_true rfl)
theorem k_71_53 : lk 71 53 = some (.iload_n 3, 54, 3, 0, .null) := by decide +kernel
theorem x_71_53 : Tr sc d 71 (53, [l0, l1, l2, some (.int x)], [], h) Q = Tr sc d 71 (54, [l0, l1, l2, some (.int x)], [.int x], h) Q := t_iload_n k_71_53 rfl
theorem k_71_54 : lk 71 54 = some (.aload_n 0, 55, 0, 0, .null) := by decide +kernel
theorem x_71_54 : Tr sc d 71 (54, [some (.ref xk), l1, l2, l3], [.int i0], h) Q = Tr sc d 71 (55, [some (.ref xk), l1, l2, l3], [.ref xk, .int i0], h) Q := t_aload_n k_71_54 rfl
theorem k_71_55 : lk 71 55 = some (.getfield 38, 58, 6, 8, .int 0) := by decide +kernel
theorem x_71_55 : Tr sc d 71 (55, [l0, l1, l2, l3], [.ref k1, .int i0], h) Q = (okp h k1 6 = true ∧ Tr sc d 71 (58, [l0, l1, l2, l3], [.int (hI h k1 8), .int i0], h) Q) := t_gd k_71_55 rfl
theorem k_71_58 : lk 71 58 = some (.if_icmp .ge 81, 61, 139, 0, .null) := by decide +kernel
theorem x_71_58 : Tr sc d 71 (58, [l0, l1, l2, l3], [.int i1, .int i0], h) Q = if i1 ≤ i0 then Tr sc d 71 (139, [l0, l1, l2, l3], [], h) Q else Tr sc d 71 (61, [l0, l1, l2, l3], [], h) Q := t_if k_71_58 rfl
theorem k_71_61 : lk 71 61 = some (.ldc2_w 129, 64, 0, 1167, .long 31) := by decide +kernel
theorem x_71_61 : Tr sc d 71 (61, [l0, l1, l2, l3], [], h) Q = Tr sc d 71 (64, [l0, l1, l2, l3], [.long 31], h) Q := t_go k_71_61 rfl
theorem k_71_64 : lk 71 64 = some (.lload_n 1, 65, 1, 0, .null) := by decide +kernel
theorem x_71_64 : Tr sc d 71 (64, [l0, some (.long xl), l2, l3], [.long j0], h) Q = Tr sc d 71 (65, [l0, some (.long xl), l2, l3], [.long xl, .long j0], h) Q := t_lload_n k_71_64 rfl
theorem k_71_65 : lk 71 65 = some (.lmul, 66, 0, 0, .null) := by decide +kernel
theorem x_71_65 : Tr sc d 71 (65, [l0, l1, l2, l3], [.long j1, .long j0], h) Q = Tr sc d 71 (66, [l0, l1, l2, l3], [.long (j0 * j1)], h) Q := t_go k_71_65 rfl
theorem k_71_66 : lk 71 66 = some (.aload_n 0, 67, 0, 0, .null) := by decide +kernel
theorem x_71_66 : Tr sc d 71 (66, [some (.ref xk), l1, l2, l3], [.long j0], h) Q = Tr sc d 71 (67, [some (.ref xk), l1, l2, l3], [.ref xk, .long j0], h) Q := t_aload_n k_71_66 rfl
theorem k_71_67 : lk 71 67 = some (.getfield 9, 70, 6, 0, .null) := by decide +kernel
theorem x_71_67 : Tr sc d 71 (67, [l0, l1, l2, l3], [.ref k1, .long j0], h) Q = (okp h k1 6 = true ∧ ∃ q, hR h k1 0 = some q ∧ Tr sc d 71 (70, [l0, l1, l2, l3], [.ref q, .long j0], h) Q) := t_getr k_71_67
theorem k_71_70 : lk 71 70 = some (.iload_n 3, 71, 3, 0, .null) := by decide +kernel
theorem x_71_70 : Tr sc d 71 (70, [l0, l1, l2, some (.int x)], [.ref k1, .long j0], h) Q = Tr sc d 71 (71, [l0, l1, l2, some (.int x)], [.int x, .ref k1, .long j0], h) Q := t_iload_n k_71_70 rfl
theorem k_71_71 : lk 71 71 = some (.iaload, 72, 0, 0, .null) := by decide +kernel
theorem x_71_71 : Tr sc d 71 (71, [l0, l1, l2, l3], [.int i2, .ref k1, .long j0], h) Q = (iOk sc h k1 i2 ∧ Tr sc d 71 (72, [l0, l1, l2, l3], [.int (iRd sc h k1 i2), .long j0], h) Q) := t_iald k_71_71
theorem k_71_72 : lk 71 72 = some (.i2l, 73, 0, 0, .null) := by decide +kernel
theorem x_71_72 : Tr sc d 71 (72, [l0, l1, l2, l3], [.int i1, .long j0], h) Q = Tr sc d 71 (73, [l0, l1, l2, l3], [.long i1.toInt64, .long j0], h) Q := t_go k_71_72 rfl
theorem k_71_73 : lk 71 73 = some (.ladd, 74, 0, 0, .null) := by decide +kernel
theorem x_71_73 : Tr sc d 71 (73, [l0, l1, l2, l3], [.long j1, .long j0], h) Q = Tr sc d 71 (74, [l0, l1, l2, l3], [.long (j0 + j1)], h) Q := t_go k_71_73 rfl
theorem k_71_74 : lk 71 74 = some (.lstore_n 1, 75, 1, 0, .null) := by decide +kernel
theorem x_71_74 : Tr sc d 71 (74, [l0, l1, l2, l3], [.long j0], h) Q = Tr sc d 71 (75, [cl2 l0, some (.long j0), none, l3], [], h) Q := t_lstore_n k_71_74 (Nat.le_of_ble_eq_true rfl)
theorem k_71_75 : lk 71 75 = some (.ldc2_w 129, 78, 0, 1167, .long 31) := by decide +kernel
theorem x_71_75 : Tr sc d 71 (75, [l0, l1, l2, l3], [], h) Q = Tr sc d 71 (78, [l0, l1, l2, l3], [.long 31], h) Q := t_go k_71_75 rfl
theorem k_71_78 : lk 71 78 = some (.lload_n 1, 79, 1, 0, .null) := by decide +kernel
theorem x_71_78 : Tr sc d 71 (78, [l0, some (.long xl), l2, l3], [.long j0], h) Q = Tr sc d 71 (79, [l0, some (.long xl), l2, l3], [.long xl, .long j0], h) Q := t_lload_n k_71_78 rfl
theorem k_71_79 : lk 71 79 = some (.lmul, 80, 0, 0, .null) := by decide +kernel
theorem x_71_79 : Tr sc d 71 (79, [l0, l1, l2, l3], [.long j1, .long j0], h) Q = Tr sc d 71 (80, [l0, l1, l2, l3], [.long (j0 * j1)], h) Q := t_go k_71_79 rfl
theorem k_71_80 : lk 71 80 = some (.aload_n 0, 81, 0, 0, .null) := by decide +kernel
theorem x_71_80 : Tr sc d 71 (80, [some (.ref xk), l1, l2, l3], [.long j0], h) Q = Tr sc d 71 (81, [some (.ref xk), l1, l2, l3], [.ref xk, .long j0], h) Q := t_aload_n k_71_80 rfl
theorem k_71_81 : lk 71 81 = some (.getfield 15, 84, 6, 1, .null) := by decide +kernel
theorem x_71_81 : Tr sc d 71 (81, [l0, l1, l2, l3], [.ref k1, .long j0], h) Q = (okp h k1 6 = true ∧ ∃ q, hR h k1 1 = some q ∧ Tr sc d 71 (84, [l0, l1, l2, l3], [.ref q, .long j0], h) Q) := t_getr k_71_81
theorem k_71_84 : lk 71 84 = some (.iload_n 3, 85, 3, 0, .null) := by decide +kernel
theorem x_71_84 : Tr sc d 71 (84, [l0, l1, l2, some (.int x)], [.ref k1, .long j0], h) Q = Tr sc d 71 (85, [l0, l1, l2, some (.int x)], [.int x, .ref k1, .long j0], h) Q := t_iload_n k_71_84 rfl
theorem k_71_85 : lk 71 85 = some (.iaload, 86, 0, 0, .null) := by decide +kernel
theorem x_71_85 : Tr sc d 71 (85, [l0, l1, l2, l3], [.int i2, .ref k1, .long j0], h) Q = (iOk sc h k1 i2 ∧ Tr sc d 71 (86, [l0, l1, l2, l3], [.int (iRd sc h k1 i2), .long j0], h) Q) := t_iald k_71_85
theorem k_71_86 : lk 71 86 = some (.i2l, 87, 0, 0, .null) := by decide +kernel
theorem x_71_86 : Tr sc d 71 (86, [l0, l1, l2, l3], [.int i1, .long j0], h) Q = Tr sc d 71 (87, [l0, l1, l2, l3], [.long i1.toInt64, .long j0], h) Q := t_go k_71_86 rfl
theorem k_71_87 : lk 71 87 = some (.ladd, 88, 0, 0, .null) := by decide +kernel
theorem x_71_87 : Tr sc d 71 (87, [l0, l1, l2, l3], [.long j1, .long j0], h) Q = Tr sc d 71 (88, [l0, l1, l2, l3], [.long (j0 + j1)], h) Q := t_go k_71_87 rfl
theorem k_71_88 : lk 71 88 = some (.lstore_n 1, 89, 1, 0, .null) := by decide +kernel
theorem x_71_88 : Tr sc d 71 (88, [l0, l1, l2, l3], [.long j0], h) Q = Tr sc d 71 (89, [cl2 l0, some (.long j0), none, l3], [], h) Q := t_lstore_n k_71_88 (Nat.le_of_ble_eq_true rfl)
theorem k_71_89 : lk 71 89 = some (.ldc2_w 129, 92, 0, 1167, .long 31) := by decide +kernel
theorem x_71_89 : Tr sc d 71 (89, [l0, l1, l2, l3], [], h) Q = Tr sc d 71 (92, [l0, l1, l2, l3], [.long 31], h) Q := t_go k_71_89 rfl
theorem k_71_92 : lk 71 92 = some (.lload_n 1, 93, 1, 0, .null) := by decide +kernel
theorem x_71_92 : Tr sc d 71 (92, [l0, some (.long xl), l2, l3], [.long j0], h) Q = Tr sc d 71 (93, [l0, some (.long xl), l2, l3], [.long xl, .long j0], h) Q := t_lload_n k_71_92 rfl
theorem k_71_93 : lk 71 93 = some (.lmul, 94, 0, 0, .null) := by decide +kernel
theorem x_71_93 : Tr sc d 71 (93, [l0, l1, l2, l3], [.long j1, .long j0], h) Q = Tr sc d 71 (94, [l0, l1, l2, l3], [.long (j0 * j1)], h) Q := t_go k_71_93 rfl
theorem k_71_94 : lk 71 94 = some (.aload_n 0, 95, 0, 0, .null) := by decide +kernel
theorem x_71_94 : Tr sc d 71 (94, [some (.ref xk), l1, l2, l3], [.long j0], h) Q = Tr sc d 71 (95, [some (.ref xk), l1, l2, l3], [.ref xk, .long j0], h) Q := t_aload_n k_71_94 rfl
theorem k_71_95 : lk 71 95 = some (.getfield 18, 98, 6, 2, .null) := by decide +kernel
theorem x_71_95 : Tr sc d 71 (95, [l0, l1, l2, l3], [.ref k1, .long j0], h) Q = (okp h k1 6 = true ∧ ∃ q, hR h k1 2 = some q ∧ Tr sc d 71 (98, [l0, l1, l2, l3], [.ref q, .long j0], h) Q) := t_getr k_71_95
theorem k_71_98 : lk 71 98 = some (.iload_n 3, 99, 3, 0, .null) := by decide +kernel
theorem x_71_98 : Tr sc d 71 (98, [l0, l1, l2, some (.int x)], [.ref k1, .long j0], h) Q = Tr sc d 71 (99, [l0, l1, l2, some (.int x)], [.int x, .ref k1, .long j0], h) Q := t_iload_n k_71_98 rfl
theorem k_71_99 : lk 71 99 = some (.iaload, 100, 0, 0, .null) := by decide +kernel
theorem x_71_99 : Tr sc d 71 (99, [l0, l1, l2, l3], [.int i2, .ref k1, .long j0], h) Q = (iOk sc h k1 i2 ∧ Tr sc d 71 (100, [l0, l1, l2, l3], [.int (iRd sc h k1 i2), .long j0], h) Q) := t_iald k_71_99
theorem k_71_100 : lk 71 100 = some (.i2l, 101, 0, 0, .null) := by decide +kernel
theorem x_71_100 : Tr sc d 71 (100, [l0, l1, l2, l3], [.int i1, .long j0], h) Q = Tr sc d 71 (101, [l0, l1, l2, l3], [.long i1.toInt64, .long j0], h) Q := t_go k_71_100 rfl
theorem k_71_101 : lk 71 101 = some (.ladd, 102, 0, 0, .null) := by decide +kernel
theorem x_71_101 : Tr sc d 71 (101, [l0, l1, l2, l3], [.long j1, .long j0], h) Q = Tr sc d 71 (102, [l0, l1, l2, l3], [.long (j0 + j1)], h) Q := t_go k_71_101 rfl
theorem k_71_102 : lk 71 102 = some (.lstore_n 1, 103, 1, 0, .null) := by decide +kernel
theorem x_71_102 : Tr sc d 71 (102, [l0, l1, l2, l3], [.long j0], h) Q = Tr sc d 71 (103, [cl2 l0, some (.long j0), none, l3], [], h) Q := t_lstore_n k_71_102 (Nat.le_of_ble_eq_true rfl)
theorem k_71_103 : lk 71 103 = some (.aload_n 0, 104, 0, 0, .null) := by decide +kernel
theorem x_71_103 : Tr sc d 71 (103, [some (.ref xk), l1, l2, l3], [], h) Q = Tr sc d 71 (104, [some (.ref xk), l1, l2, l3], [.ref xk], h) Q := t_aload_n k_71_103 rfl
theorem k_71_104 : lk 71 104 = some (.getfield 31, 107, 6, 6, .int 0) := by decide +kernel
theorem x_71_104 : Tr sc d 71 (104, [l0, l1, l2, l3], [.ref k0], h) Q = (okp h k0 6 = true ∧ Tr sc d 71 (107, [l0, l1, l2, l3], [.int (hI h k0 6)], h) Q) := t_gd k_71_104 rfl
theorem k_71_107 : lk 71 107 = some (.iconst 3, 108, 0, 0, .int 3) := by decide +kernel
theorem x_71_107 : Tr sc d 71 (107, [l0, l1, l2, l3], [.int i0], h) Q = Tr sc d 71 (108, [l0, l1, l2, l3], [.int 3, .int i0], h) Q := t_go k_71_107 rfl
theorem k_71_108 : lk 71 108 = some (.if_icmp .eq 11, 111, 119, 0, .null) := by decide +kernel
theorem x_71_108 : Tr sc d 71 (108, [l0, l1, l2, l3], [.int i1, .int i0], h) Q = if i0 = i1 then Tr sc d 71 (119, [l0, l1, l2, l3], [], h) Q else Tr sc d 71 (111, [l0, l1, l2, l3], [], h) Q := t_if k_71_108 rfl
theorem k_71_111 : lk 71 111 = some (.aload_n 0, 112, 0, 0, .null) := by decide +kernel
theorem x_71_111 : Tr sc d 71 (111, [some (.ref xk), l1, l2, l3], [], h) Q = Tr sc d 71 (112, [some (.ref xk), l1, l2, l3], [.ref xk], h) Q := t_aload_n k_71_111 rfl
theorem k_71_112 : lk 71 112 = some (.getfield 31, 115, 6, 6, .int 0) := by decide +kernel
theorem x_71_112 : Tr sc d 71 (112, [l0, l1, l2, l3], [.ref k0], h) Q = (okp h k0 6 = true ∧ Tr sc d 71 (115, [l0, l1, l2, l3], [.int (hI h k0 6)], h) Q) := t_gd k_71_112 rfl
theorem k_71_115 : lk 71 115 = some (.iconst 4, 116, 0, 0, .int 4) := by decide +kernel
theorem x_71_115 : Tr sc d 71 (115, [l0, l1, l2, l3], [.int i0], h) Q = Tr sc d 71 (116, [l0, l1, l2, l3], [.int 4, .int i0], h) Q := t_go k_71_115 rfl
theorem k_71_116 : lk 71 116 = some (.if_icmp .ne 17, 119, 133, 0, .null) := by decide +kernel
theorem x_71_116 : Tr sc d 71 (116, [l0, l1, l2, l3], [.int i1, .int i0], h) Q = if i0 = i1 then Tr sc d 71 (119, [l0, l1, l2, l3], [], h) Q else Tr sc d 71 (133, [l0, l1, l2, l3], [], h) Q := t_if k_71_116 rfl
theorem k_71_119 : lk 71 119 = some (.ldc2_w 129, 122, 0, 1167, .long 31) := by decide +kernel
theorem x_71_119 : Tr sc d 71 (119, [l0, l1, l2, l3], [], h) Q = Tr sc d 71 (122, [l0, l1, l2, l3], [.long 31], h) Q := t_go k_71_119 rfl
theorem k_71_122 : lk 71 122 = some (.lload_n 1, 123, 1, 0, .null) := by decide +kernel
theorem x_71_122 : Tr sc d 71 (122, [l0, some (.long xl), l2, l3], [.long j0], h) Q = Tr sc d 71 (123, [l0, some (.long xl), l2, l3], [.long xl, .long j0], h) Q := t_lload_n k_71_122 rfl
theorem k_71_123 : lk 71 123 = some (.lmul, 124, 0, 0, .null) := by decide +kernel
theorem x_71_123 : Tr sc d 71 (123, [l0, l1, l2, l3], [.long j1, .long j0], h) Q = Tr sc d 71 (124, [l0, l1, l2, l3], [.long (j0 * j1)], h) Q := t_go k_71_123 rfl
theorem k_71_124 : lk 71 124 = some (.aload_n 0, 125, 0, 0, .null) := by decide +kernel
theorem x_71_124 : Tr sc d 71 (124, [some (.ref xk), l1, l2, l3], [.long j0], h) Q = Tr sc d 71 (125, [some (.ref xk), l1, l2, l3], [.ref xk, .long j0], h) Q := t_aload_n k_71_124 rfl
theorem k_71_125 : lk 71 125 = some (.getfield 21, 128, 6, 3, .null) := by decide +kernel
theorem x_71_125 : Tr sc d 71 (125, [l0, l1, l2, l3], [.ref k1, .long j0], h) Q = (okp h k1 6 = true ∧ ∃ q, hR h k1 3 = some q ∧ Tr sc d 71 (128, [l0, l1, l2, l3], [.ref q, .long j0], h) Q) := t_getr k_71_125
theorem k_71_128 : lk 71 128 = some (.iload_n 3, 129, 3, 0, .null) := by decide +kernel
theorem x_71_128 : Tr sc d 71 (128, [l0, l1, l2, some (.int x)], [.ref k1, .long j0], h) Q = Tr sc d 71 (129, [l0, l1, l2, some (.int x)], [.int x, .ref k1, .long j0], h) Q := t_iload_n k_71_128 rfl
theorem k_71_129 : lk 71 129 = some (.iaload, 130, 0, 0, .null) := by decide +kernel
theorem x_71_129 : Tr sc d 71 (129, [l0, l1, l2, l3], [.int i2, .ref k1, .long j0], h) Q = (iOk sc h k1 i2 ∧ Tr sc d 71 (130, [l0, l1, l2, l3], [.int (iRd sc h k1 i2), .long j0], h) Q) := t_iald k_71_129
theorem k_71_130 : lk 71 130 = some (.i2l, 131, 0, 0, .null) := by decide +kernel
theorem x_71_130 : Tr sc d 71 (130, [l0, l1, l2, l3], [.int i1, .long j0], h) Q = Tr sc d 71 (131, [l0, l1, l2, l3], [.long i1.toInt64, .long j0], h) Q := t_go k_71_130 rfl
theorem k_71_131 : lk 71 131 = some (.ladd, 132, 0, 0, .null) := by decide +kernel
theorem x_71_131 : Tr sc d 71 (131, [l0, l1, l2, l3], [.long j1, .long j0], h) Q = Tr sc d 71 (132, [l0, l1, l2, l3], [.long (j0 + j1)], h) Q := t_go k_71_131 rfl
theorem k_71_132 : lk 71 132 = some (.lstore_n 1, 133, 1, 0, .null) := by decide +kernel
theorem x_71_132 : Tr sc d 71 (132, [l0, l1, l2, l3], [.long j0], h) Q = Tr sc d 71 (133, [cl2 l0, some (.long j0), none, l3], [], h) Q := t_lstore_n k_71_132 (Nat.le_of_ble_eq_true rfl)
theorem k_71_133 : lk 71 133 = some (.iinc 3 1, 136, 3, 0, .int 1) := by decide +kernel
theorem x_71_133 : Tr sc d 71 (133, [l0, l1, l2, some (.int x)], [], h) Q = Tr sc d 71 (136, [l0, l1, cl2 l2, some (.int (x + 1))], [], h) Q := t_inc k_71_133 rfl (Nat.le_of_ble_eq_true rfl)
theorem k_71_136 : lk 71 136 = some (.goto (-83), 139, 53, 0, .null) := by decide +kernel
theorem x_71_136 : Tr sc d 71 (136, [l0, l1, l2, l3], [], h) Q = Tr sc d 71 (53, [l0, l1, l2, l3], [], h) Q := t_go k_71_136 rfl
theorem k_71_139 : lk 71 139 = some (.lload_n 1, 140, 1, 0, .null) := by decide +kernel
theorem x_71_139 : Tr sc d 71 (139, [l0, some (.long xl), l2, l3], [], h) Q = Tr sc d 71 (140, [l0, some (.long xl), l2, l3], [.long xl], h) Q := t_lload_n k_71_139 rfl
theorem k_71_140 : lk 71 140 = some (.lreturn, 141, 0, 0, .null) := by decide +kernel
theorem x_71_140 : Tr sc d 71 (140, [l0, l1, l2, l3], [.long j0], h) Q = Q (some (.long j0), h) := t_ret k_71_140 (by rw [r_71]; rfl)
theorem e_71 : Tr sc d 71 (ent0 71 [.ref k0, .long j1] h) Q = Tr sc d 71 (0, [some (.ref k0), some (.long j1), none, none], [], h) Q := by
  have e : mL 71 = 4 := by decide +kernel
  unfold ent0
  rw [e]
  rfl
theorem r_72 : mR 72 = none := by decide +kernel
theorem k_72_0 : lk 72 0 = some (.aload_n 0, 1, 0, 0, .null) := by decide +kernel
theorem x_72_0 : Tr sc d 72 (0, [some (.ref xk)], [], h) Q = Tr sc d 72 (1, [some (.ref xk)], [.ref xk], h) Q := t_aload_n k_72_0 rfl
theorem k_72_1 : lk 72 1 = some (.invokespecial 3, 4, 9000, 0, .null) := by decide +kernel
theorem x_72_1 : Tr sc d 72 (1, [l0], [.ref k0], h) Q = Tr sc d 72 (4, [l0], [], h) Q := t_go k_72_1 rfl
theorem k_72_4 : lk 72 4 = some (.aload_n 0, 5, 0, 0, .null) := by decide +kernel
theorem x_72_4 : Tr sc d 72 (4, [some (.ref xk)], [], h) Q = Tr sc d 72 (5, [some (.ref xk)], [.ref xk], h) Q := t_aload_n k_72_4 rfl
theorem k_72_5 : lk 72 5 = some (.sipush 1369, 8, 0, 0, .int 1369) := by decide +kernel
theorem x_72_5 : Tr sc d 72 (5, [l0], [.ref k0], h) Q = Tr sc d 72 (8, [l0], [.int 1369, .ref k0], h) Q := t_go k_72_5 rfl
theorem k_72_8 : lk 72 8 = some (.newarray .boolean, 10, 13, 0, .null) := by decide +kernel
theorem x_72_8 : Tr sc d 72 (8, [l0], [.int i1, .ref k0], h) Q = ((hN h < 1000 ∧ TG (hN h) = 13 ∧ (¬ i1 < 0) ∧ LN (hN h) = i1.toNatClampNeg ∧ LN (hN h) ≤ 60000) ∧ Tr sc d 72 (10, [l0], [.ref (hN h), .ref k0], nH h) Q) := t_gd k_72_8 rfl
theorem k_72_10 : lk 72 10 = some (.putfield 11, 13, 7, 0, .null) := by decide +kernel
theorem x_72_10 : Tr sc d 72 (10, [l0], [.ref k1, .ref k0], h) Q = (okp h k0 7 = true ∧ Tr sc d 72 (13, [l0], [], (sR h k0 0 (some k1))) Q) := t_gd k_72_10 rfl
theorem k_72_13 : lk 72 13 = some (.aload_n 0, 14, 0, 0, .null) := by decide +kernel
theorem x_72_13 : Tr sc d 72 (13, [some (.ref xk)], [], h) Q = Tr sc d 72 (14, [some (.ref xk)], [.ref xk], h) Q := t_aload_n k_72_13 rfl
theorem k_72_14 : lk 72 14 = some (.sipush 1369, 17, 0, 0, .int 1369) := by decide +kernel
theorem x_72_14 : Tr sc d 72 (14, [l0], [.ref k0], h) Q = Tr sc d 72 (17, [l0], [.int 1369, .ref k0], h) Q := t_go k_72_14 rfl
theorem k_72_17 : lk 72 17 = some (.newarray .boolean, 19, 13, 0, .null) := by decide +kernel
theorem x_72_17 : Tr sc d 72 (17, [l0], [.int i1, .ref k0], h) Q = ((hN h < 1000 ∧ TG (hN h) = 13 ∧ (¬ i1 < 0) ∧ LN (hN h) = i1.toNatClampNeg ∧ LN (hN h) ≤ 60000) ∧ Tr sc d 72 (19, [l0], [.ref (hN h), .ref k0], nH h) Q) := t_gd k_72_17 rfl
theorem k_72_19 : lk 72 19 = some (.putfield 15, 22, 7, 1, .null) := by decide +kernel
theorem x_72_19 : Tr sc d 72 (19, [l0], [.ref k1, .ref k0], h) Q = (okp h k0 7 = true ∧ Tr sc d 72 (22, [l0], [], (sR h k0 1 (some k1))) Q) := t_gd k_72_19 rfl
theorem k_72_22 : lk 72 22 = some (.aload_n 0, 23, 0, 0, .null) := by decide +kernel
theorem x_72_22 : Tr sc d 72 (22, [some (.ref xk)], [], h) Q = Tr sc d 72 (23, [some (.ref xk)], [.ref xk], h) Q := t_aload_n k_72_22 rfl
theorem k_72_23 : lk 72 23 = some (.sipush 1369, 26, 0, 0, .int 1369) := by decide +kernel
theorem x_72_23 : Tr sc d 72 (23, [l0], [.ref k0], h) Q = Tr sc d 72 (26, [l0], [.int 1369, .ref k0], h) Q := t_go k_72_23 rfl
theorem k_72_26 : lk 72 26 = some (.newarray .int, 28, 11, 0, .null) := by decide +kernel
theorem x_72_26 : Tr sc d 72 (26, [l0], [.int i1, .ref k0], h) Q = ((hN h < 1000 ∧ TG (hN h) = 11 ∧ (¬ i1 < 0) ∧ LN (hN h) = i1.toNatClampNeg ∧ LN (hN h) ≤ 60000) ∧ Tr sc d 72 (28, [l0], [.ref (hN h), .ref k0], nH h) Q) := t_gd k_72_26 rfl
theorem k_72_28 : lk 72 28 = some (.putfield 18, 31, 7, 2, .null) := by decide +kernel
theorem x_72_28 : Tr sc d 72 (28, [l0], [.ref k1, .ref k0], h) Q = (okp h k0 7 = true ∧ Tr sc d 72 (31, [l0], [], (sR h k0 2 (some k1))) Q) := t_gd k_72_28 rfl
theorem k_72_31 : lk 72 31 = some (.aload_n 0, 32, 0, 0, .null) := by decide +kernel
theorem x_72_31 : Tr sc d 72 (31, [some (.ref xk)], [], h) Q = Tr sc d 72 (32, [some (.ref xk)], [.ref xk], h) Q := t_aload_n k_72_31 rfl
theorem k_72_32 : lk 72 32 = some (.sipush 1369, 35, 0, 0, .int 1369) := by decide +kernel
theorem x_72_32 : Tr sc d 72 (32, [l0], [.ref k0], h) Q = Tr sc d 72 (35, [l0], [.int 1369, .ref k0], h) Q := t_go k_72_32 rfl
theorem k_72_35 : lk 72 35 = some (.newarray .long, 37, 12, 0, .null) := by decide +kernel
theorem x_72_35 : Tr sc d 72 (35, [l0], [.int i1, .ref k0], h) Q = ((hN h < 1000 ∧ TG (hN h) = 12 ∧ (¬ i1 < 0) ∧ LN (hN h) = i1.toNatClampNeg ∧ LN (hN h) ≤ 60000) ∧ Tr sc d 72 (37, [l0], [.ref (hN h), .ref k0], nH h) Q) := t_gd k_72_35 rfl
theorem k_72_37 : lk 72 37 = some (.putfield 22, 40, 7, 3, .null) := by decide +kernel
theorem x_72_37 : Tr sc d 72 (37, [l0], [.ref k1, .ref k0], h) Q = (okp h k0 7 = true ∧ Tr sc d 72 (40, [l0], [], (sR h k0 3 (some k1))) Q) := t_gd k_72_37 rfl
theorem k_72_40 : lk 72 40 = some (.aload_n 0, 41, 0, 0, .null) := by decide +kernel
theorem x_72_40 : Tr sc d 72 (40, [some (.ref xk)], [], h) Q = Tr sc d 72 (41, [some (.ref xk)], [.ref xk], h) Q := t_aload_n k_72_40 rfl
theorem k_72_41 : lk 72 41 = some (.sipush 1369, 44, 0, 0, .int 1369) := by decide +kernel
theorem x_72_41 : Tr sc d 72 (41, [l0], [.ref k0], h) Q = Tr sc d 72 (44, [l0], [.int 1369, .ref k0], h) Q := t_go k_72_41 rfl
theorem k_72_44 : lk 72 44 = some (.newarray .long, 46, 12, 0, .null) := by decide +kernel
theorem x_72_44 : Tr sc d 72 (44, [l0], [.int i1, .ref k0], h) Q = ((hN h < 1000 ∧ TG (hN h) = 12 ∧ (¬ i1 < 0) ∧ LN (hN h) = i1.toNatClampNeg ∧ LN (hN h) ≤ 60000) ∧ Tr sc d 72 (46, [l0], [.ref (hN h), .ref k0], nH h) Q) := t_gd k_72_44 rfl
theorem k_72_46 : lk 72 46 = some (.putfield 26, 49, 7, 4, .null) := by decide +kernel
theorem x_72_46 : Tr sc d 72 (46, [l0], [.ref k1, .ref k0], h) Q = (okp h k0 7 = true ∧ Tr sc d 72 (49, [l0], [], (sR h k0 4 (some k1))) Q) := t_gd k_72_46 rfl
theorem k_72_49 : lk 72 49 = some (.aload_n 0, 50, 0, 0, .null) := by decide +kernel
theorem x_72_49 : Tr sc d 72 (49, [some (.ref xk)], [], h) Q = Tr sc d 72 (50, [some (.ref xk)], [.ref xk], h) Q := t_aload_n k_72_49 rfl
theorem k_72_50 : lk 72 50 = some (.bipush 36, 52, 0, 0, .int 36) := by decide +kernel
theorem x_72_50 : Tr sc d 72 (50, [l0], [.ref k0], h) Q = Tr sc d 72 (52, [l0], [.int 36, .ref k0], h) Q := t_go k_72_50 rfl
theorem k_72_52 : lk 72 52 = some (.newarray .int, 54, 11, 0, .null) := by decide +kernel
theorem x_72_52 : Tr sc d 72 (52, [l0], [.int i1, .ref k0], h) Q = ((hN h < 1000 ∧ TG (hN h) = 11 ∧ (¬ i1 < 0) ∧ LN (hN h) = i1.toNatClampNeg ∧ LN (hN h) ≤ 60000) ∧ Tr sc d 72 (54, [l0], [.ref (hN h), .ref k0], nH h) Q) := t_gd k_72_52 rfl
theorem k_72_54 : lk 72 54 = some (.putfield 29, 57, 7, 5, .null) := by decide +kernel
theorem x_72_54 : Tr sc d 72 (54, [l0], [.ref k1, .ref k0], h) Q = (okp h k0 7 = true ∧ Tr sc d 72 (57, [l0], [], (sR h k0 5 (some k1))) Q) := t_gd k_72_54 rfl
theorem k_72_57 : lk 72 57 = some (.aload_n 0, 58, 0, 0, .null) := by decide +kernel
theorem x_72_57 : Tr sc d 72 (57, [some (.ref xk)], [], h) Q = Tr sc d 72 (58, [some (.ref xk)], [.ref xk], h) Q := t_aload_n k_72_57 rfl
theorem k_72_58 : lk 72 58 = some (.bipush 36, 60, 0, 0, .int 36) := by decide +kernel
theorem x_72_58 : Tr sc d 72 (58, [l0], [.ref k0], h) Q = Tr sc d 72 (60, [l0], [.int 36, .ref k0], h) Q := t_go k_72_58 rfl
theorem k_72_60 : lk 72 60 = some (.newarray .int, 62, 11, 0, .null) := by decide +kernel
theorem x_72_60 : Tr sc d 72 (60, [l0], [.int i1, .ref k0], h) Q = ((hN h < 1000 ∧ TG (hN h) = 11 ∧ (¬ i1 < 0) ∧ LN (hN h) = i1.toNatClampNeg ∧ LN (hN h) ≤ 60000) ∧ Tr sc d 72 (62, [l0], [.ref (hN h), .ref k0], nH h) Q) := t_gd k_72_60 rfl
theorem k_72_62 : lk 72 62 = some (.putfield 32, 65, 7, 6, .null) := by decide +kernel
theorem x_72_62 : Tr sc d 72 (62, [l0], [.ref k1, .ref k0], h) Q = (okp h k0 7 = true ∧ Tr sc d 72 (65, [l0], [], (sR h k0 6 (some k1))) Q) := t_gd k_72_62 rfl
theorem k_72_65 : lk 72 65 = some (.aload_n 0, 66, 0, 0, .null) := by decide +kernel
theorem x_72_65 : Tr sc d 72 (65, [some (.ref xk)], [], h) Q = Tr sc d 72 (66, [some (.ref xk)], [.ref xk], h) Q := t_aload_n k_72_65 rfl
theorem k_72_66 : lk 72 66 = some (.iconst 0, 67, 0, 0, .int 0) := by decide +kernel
theorem x_72_66 : Tr sc d 72 (66, [l0], [.ref k0], h) Q = Tr sc d 72 (67, [l0], [.int 0, .ref k0], h) Q := t_go k_72_66 rfl
theorem k_72_67 : lk 72 67 = some (.putfield 35, 70, 7, 7, .int 0) := by decide +kernel
theorem x_72_67 : Tr sc d 72 (67, [l0], [.int i1, .ref k0], h) Q = (okp h k0 7 = true ∧ Tr sc d 72 (70, [l0], [], (sI h k0 7 i1)) Q) := t_gd k_72_67 rfl
theorem k_72_70 : lk 72 70 = some (.aload_n 0, 71, 0, 0, .null) := by decide +kernel
theorem x_72_70 : Tr sc d 72 (70, [some (.ref xk)], [], h) Q = Tr sc d 72 (71, [some (.ref xk)], [.ref xk], h) Q := t_aload_n k_72_70 rfl
theorem k_72_71 : lk 72 71 = some (.iconst 0, 72, 0, 0, .int 0) := by decide +kernel
theorem x_72_71 : Tr sc d 72 (71, [l0], [.ref k0], h) Q = Tr sc d 72 (72, [l0], [.int 0, .ref k0], h) Q := t_go k_72_71 rfl
theorem k_72_72 : lk 72 72 = some (.putfield 39, 75, 7, 8, .int 0) := by decide +kernel
theorem x_72_72 : Tr sc d 72 (72, [l0], [.int i1, .ref k0], h) Q = (okp h k0 7 = true ∧ Tr sc d 72 (75, [l0], [], (sI h k0 8 i1)) Q) := t_gd k_72_72 rfl
theorem k_72_75 : lk 72 75 = some (.aload_n 0, 76, 0, 0, .null) := by decide +kernel
theorem x_72_75 : Tr sc d 72 (75, [some (.ref xk)], [], h) Q = Tr sc d 72 (76, [some (.ref xk)], [.ref xk], h) Q := t_aload_n k_72_75 rfl
theorem k_72_76 : lk 72 76 = some (.iconst 2, 77, 0, 0, .int 2) := by decide +kernel
theorem x_72_76 : Tr sc d 72 (76, [l0], [.ref k0], h) Q = Tr sc d 72 (77, [l0], [.int 2, .ref k0], h) Q := t_go k_72_76 rfl
theorem k_72_77 : lk 72 77 = some (.putfield 42, 80, 7, 9, .int 0) := by decide +kernel
theorem x_72_77 : Tr sc d 72 (77, [l0], [.int i1, .ref k0], h) Q = (okp h k0 7 = true ∧ Tr sc d 72 (80, [l0], [], (sI h k0 9 i1)) Q) := t_gd k_72_77 rfl
theorem k_72_80 : lk 72 80 = some (.aload_n 0, 81, 0, 0, .null) := by decide +kernel
theorem x_72_80 : Tr sc d 72 (80, [some (.ref xk)], [], h) Q = Tr sc d 72 (81, [some (.ref xk)], [.ref xk], h) Q := t_aload_n k_72_80 rfl
theorem k_72_81 : lk 72 81 = some (.iconst 0, 82, 0, 0, .int 0) := by decide +kernel
theorem x_72_81 : Tr sc d 72 (81, [l0], [.ref k0], h) Q = Tr sc d 72 (82, [l0], [.int 0, .ref k0], h) Q := t_go k_72_81 rfl
theorem k_72_82 : lk 72 82 = some (.putfield 45, 85, 7, 10, .int 0) := by decide +kernel
theorem x_72_82 : Tr sc d 72 (82, [l0], [.int i1, .ref k0], h) Q = (okp h k0 7 = true ∧ Tr sc d 72 (85, [l0], [], (sI h k0 10 i1)) Q) := t_gd k_72_82 rfl
theorem k_72_85 : lk 72 85 = some (.aload_n 0, 86, 0, 0, .null) := by decide +kernel
theorem x_72_85 : Tr sc d 72 (85, [some (.ref xk)], [], h) Q = Tr sc d 72 (86, [some (.ref xk)], [.ref xk], h) Q := t_aload_n k_72_85 rfl
theorem k_72_86 : lk 72 86 = some (.iconst 1, 87, 0, 0, .int 1) := by decide +kernel
theorem x_72_86 : Tr sc d 72 (86, [l0], [.ref k0], h) Q = Tr sc d 72 (87, [l0], [.int 1, .ref k0], h) Q := t_go k_72_86 rfl
theorem k_72_87 : lk 72 87 = some (.putfield 48, 90, 7, 11, .int 0) := by decide +kernel
theorem x_72_87 : Tr sc d 72 (87, [l0], [.int i1, .ref k0], h) Q = (okp h k0 7 = true ∧ Tr sc d 72 (90, [l0], [], (sI h k0 11 i1)) Q) := t_gd k_72_87 rfl
theorem k_72_90 : lk 72 90 = some (.aload_n 0, 91, 0, 0, .null) := by decide +kernel
theorem x_72_90 : Tr sc d 72 (90, [some (.ref xk)], [], h) Q = Tr sc d 72 (91, [some (.ref xk)], [.ref xk], h) Q := t_aload_n k_72_90 rfl
theorem k_72_91 : lk 72 91 = some (.iconst 1, 92, 0, 0, .int 1) := by decide +kernel
theorem x_72_91 : Tr sc d 72 (91, [l0], [.ref k0], h) Q = Tr sc d 72 (92, [l0], [.int 1, .ref k0], h) Q := t_go k_72_91 rfl
theorem k_72_92 : lk 72 92 = some (.putfield 51, 95, 7, 12, .int 0) := by decide +kernel
theorem x_72_92 : Tr sc d 72 (92, [l0], [.int i1, .ref k0], h) Q = (okp h k0 7 = true ∧ Tr sc d 72 (95, [l0], [], (sI h k0 12 i1)) Q) := t_gd k_72_92 rfl
theorem k_72_95 : lk 72 95 = some (.return_, 96, 0, 0, .null) := by decide +kernel
theorem x_72_95 : Tr sc d 72 (95, [l0], [], h) Q = Q (none, h) := t_ret k_72_95 (by rw [r_72]; rfl)
theorem e_72 : Tr sc d 72 (ent0 72 [.ref k0] h) Q = Tr sc d 72 (0, [some (.ref k0)], [], h) Q := by
  have e : mL 72 = 1 := by decide +kernel
  unfold ent0
  rw [e]
  rfl
theorem r_73 : mR 73 = none := by decide +kernel
theorem k_73_0 : lk 73 0 = some (.aload_n 0, 1, 0, 0, .null) := by decide +kernel
theorem x_73_0 : Tr sc d 73 (0, [some (.ref xk), l1, l2, l3], [], h) Q = Tr sc d 73 (1, [some (.ref xk), l1, l2, l3], [.ref xk], h) Q := t_aload_n k_73_0 rfl
theorem k_73_1 : lk 73 1 = some (.aload_n 1, 2, 1, 0, .null) := by decide +kernel
theorem x_73_1 : Tr sc d 73 (1, [l0, some (.ref xk), l2, l3], [.ref k0], h) Q = Tr sc d 73 (2, [l0, some (.ref xk), l2, l3], [.ref xk, .ref k0], h) Q := t_aload_n k_73_1 rfl
theorem k_73_2 : lk 73 2 = some (.getfield 54, 5, 6, 7, .int 0) := by decide +kernel
theorem x_73_2 : Tr sc d 73 (2, [l0, l1, l2, l3], [.ref k1, .ref k0], h) Q = (okp h k1 6 = true ∧ Tr sc d 73 (5, [l0, l1, l2, l3], [.int (hI h k1 7), .ref k0], h) Q) := t_gd k_73_2 rfl
theorem k_73_5 : lk 73 5 = some (.putfield 42, 8, 7, 9, .int 0) := by decide +kernel
theorem x_73_5 : Tr sc d 73 (5, [l0, l1, l2, l3], [.int i1, .ref k0], h) Q = (okp h k0 7 = true ∧ Tr sc d 73 (8, [l0, l1, l2, l3], [], (sI h k0 9 i1)) Q) := t_gd k_73_5 rfl
theorem k_73_8 : lk 73 8 = some (.aload_n 0, 9, 0, 0, .null) := by decide +kernel
theorem x_73_8 : Tr sc d 73 (8, [some (.ref xk), l1, l2, l3], [], h) Q = Tr sc d 73 (9, [some (.ref xk), l1, l2, l3], [.ref xk], h) Q := t_aload_n k_73_8 rfl
theorem k_73_9 : lk 73 9 = some (.aload_n 1, 10, 1, 0, .null) := by decide +kernel
theorem x_73_9 : Tr sc d 73 (9, [l0, some (.ref xk), l2, l3], [.ref k0], h) Q = Tr sc d 73 (10, [l0, some (.ref xk), l2, l3], [.ref xk, .ref k0], h) Q := t_aload_n k_73_9 rfl
theorem k_73_10 : lk 73 10 = some (.invokevirtual 57, 13, 64, 0, .null) := by decide +kernel
theorem x_73_10 : Tr sc (d + 1) 73 (10, [l0, l1, l2, l3], [.ref k1, .ref k0], h) Q = (okp h k1 6 = true ∧ Tr sc d 64 (ent0 64 [.ref k1] h) (fun z => Tr sc (d + 1) 73 (13, [l0, l1, l2, l3], z.1.toList ++ [.ref k0], z.2) Q)) := t_cv (as := []) (r := [.ref k0]) k_73_10 rfl rfl (Nat.le_of_ble_eq_true rfl) (Nat.le_of_ble_eq_true rfl) (Nat.le_of_ble_eq_true rfl)
theorem k_73_13 : lk 73 13 = some (.putfield 45, 16, 7, 10, .int 0) := by decide +kernel
theorem x_73_13 : Tr sc d 73 (13, [l0, l1, l2, l3], [.int i1, .ref k0], h) Q = (okp h k0 7 = true ∧ Tr sc d 73 (16, [l0, l1, l2, l3], [], (sI h k0 10 i1)) Q) := t_gd k_73_13 rfl
theorem k_73_16 : lk 73 16 = some (.aload_n 0, 17, 0, 0, .null) := by decide +kernel
theorem x_73_16 : Tr sc d 73 (16, [some (.ref xk), l1, l2, l3], [], h) Q = Tr sc d 73 (17, [some (.ref xk), l1, l2, l3], [.ref xk], h) Q := t_aload_n k_73_16 rfl
theorem k_73_17 : lk 73 17 = some (.iconst 2, 18, 0, 0, .int 2) := by decide +kernel
theorem x_73_17 : Tr sc d 73 (17, [l0, l1, l2, l3], [.ref k0], h) Q = Tr sc d 73 (18, [l0, l1, l2, l3], [.int 2, .ref k0], h) Q := t_go k_73_17 rfl
theorem k_73_18 : lk 73 18 = some (.aload_n 0, 19, 0, 0, .null) := by decide +kernel
theorem x_73_18 : Tr sc d 73 (18, [some (.ref xk), l1, l2, l3], [.int i1, .ref k0], h) Q = Tr sc d 73 (19, [some (.ref xk), l1, l2, l3], [.ref xk, .int i1, .ref k0], h) Q := t_aload_n k_73_18 rfl
theorem k_73_19 : lk 73 19 = some (.getfield 45, 22, 7, 10, .int 0) := by decide +kernel
theorem x_73_19 : Tr sc d 73 (19, [l0, l1, l2, l3], [.ref k2, .int i1, .ref k0], h) Q = (okp h k2 7 = true ∧ Tr sc d 73 (22, [l0, l1, l2, l3], [.int (hI h k2 10), .int i1, .ref k0], h) Q) := t_gd k_73_19 rfl
theorem k_73_22 : lk 73 22 = some (.imul, 23, 0, 0, .null) := by decide +kernel
theorem x_73_22 : Tr sc d 73 (22, [l0, l1, l2, l3], [.int i2, .int i1, .ref k0], h) Q = Tr sc d 73 (23, [l0, l1, l2, l3], [.int (i1 * i2), .ref k0], h) Q := t_go k_73_22 rfl
theorem k_73_23 : lk 73 23 = some (.iconst 1, 24, 0, 0, .int 1) := by decide +kernel
theorem x_73_23 : Tr sc d 73 (23, [l0, l1, l2, l3], [.int i1, .ref k0], h) Q = Tr sc d 73 (24, [l0, l1, l2, l3], [.int 1, .int i1, .ref k0], h) Q := t_go k_73_23 rfl
theorem k_73_24 : lk 73 24 = some (.iadd, 25, 0, 0, .null) := by decide +kernel
theorem x_73_24 : Tr sc d 73 (24, [l0, l1, l2, l3], [.int i2, .int i1, .ref k0], h) Q = Tr sc d 73 (25, [l0, l1, l2, l3], [.int (i1 + i2), .ref k0], h) Q := t_go k_73_24 rfl
theorem k_73_25 : lk 73 25 = some (.putfield 48, 28, 7, 11, .int 0) := by decide +kernel
theorem x_73_25 : Tr sc d 73 (25, [l0, l1, l2, l3], [.int i1, .ref k0], h) Q = (okp h k0 7 = true ∧ Tr sc d 73 (28, [l0, l1, l2, l3], [], (sI h k0 11 i1)) Q) := t_gd k_73_25 rfl
theorem k_73_28 : lk 73 28 = some (.aload_n 0, 29, 0, 0, .null) := by decide +kernel
theorem x_73_28 : Tr sc d 73 (28, [some (.ref xk), l1, l2, l3], [], h) Q = Tr sc d 73 (29, [some (.ref xk), l1, l2, l3], [.ref xk], h) Q := t_aload_n k_73_28 rfl
theorem k_73_29 : lk 73 29 = some (.aload_n 0, 30, 0, 0, .null) := by decide +kernel
theorem x_73_29 : Tr sc d 73 (29, [some (.ref xk), l1, l2, l3], [.ref k0], h) Q = Tr sc d 73 (30, [some (.ref xk), l1, l2, l3], [.ref xk, .ref k0], h) Q := t_aload_n k_73_29 rfl
theorem k_73_30 : lk 73 30 = some (.getfield 48, 33, 7, 11, .int 0) := by decide +kernel
theorem x_73_30 : Tr sc d 73 (30, [l0, l1, l2, l3], [.ref k1, .ref k0], h) Q = (okp h k1 7 = true ∧ Tr sc d 73 (33, [l0, l1, l2, l3], [.int (hI h k1 11), .ref k0], h) Q) := t_gd k_73_30 rfl
theorem k_73_33 : lk 73 33 = some (.aload_n 0, 34, 0, 0, .null) := by decide +kernel
theorem x_73_33 : Tr sc d 73 (33, [some (.ref xk), l1, l2, l3], [.int i1, .ref k0], h) Q = Tr sc d 73 (34, [some (.ref xk), l1, l2, l3], [.ref xk, .int i1, .ref k0], h) Q := t_aload_n k_73_33 rfl
theorem k_73_34 : lk 73 34 = some (.getfield 48, 37, 7, 11, .int 0) := by decide +kernel
theorem x_73_34 : Tr sc d 73 (34, [l0, l1, l2, l3], [.ref k2, .int i1, .ref k0], h) Q = (okp h k2 7 = true ∧ Tr sc d 73 (37, [l0, l1, l2, l3], [.int (hI h k2 11), .int i1, .ref k0], h) Q) := t_gd k_73_34 rfl
theorem k_73_37 : lk 73 37 = some (.imul, 38, 0, 0, .null) := by decide +kernel
theorem x_73_37 : Tr sc d 73 (37, [l0, l1, l2, l3], [.int i2, .int i1, .ref k0], h) Q = Tr sc d 73 (38, [l0, l1, l2, l3], [.int (i1 * i2), .ref k0], h) Q := t_go k_73_37 rfl
theorem k_73_38 : lk 73 38 = some (.putfield 51, 41, 7, 12, .int 0) := by decide +kernel
theorem x_73_38 : Tr sc d 73 (38, [l0, l1, l2, l3], [.int i1, .ref k0], h) Q = (okp h k0 7 = true ∧ Tr sc d 73 (41, [l0, l1, l2, l3], [], (sI h k0 12 i1)) Q) := t_gd k_73_38 rfl
theorem k_73_41 : lk 73 41 = some (.aload_n 0, 42, 0, 0, .null) := by decide +kernel
theorem x_73_41 : Tr sc d 73 (41, [some (.ref xk), l1, l2, l3], [], h) Q = Tr sc d 73 (42, [some (.ref xk), l1, l2, l3], [.ref xk], h) Q := t_aload_n k_73_41 rfl
theorem k_73_42 : lk 73 42 = some (.iconst 0, 43, 0, 0, .int 0) := by decide +kernel
theorem x_73_42 : Tr sc d 73 (42, [l0, l1, l2, l3], [.ref k0], h) Q = Tr sc d 73 (43, [l0, l1, l2, l3], [.int 0, .ref k0], h) Q := t_go k_73_42 rfl
theorem k_73_43 : lk 73 43 = some (.putfield 39, 46, 7, 8, .int 0) := by decide +kernel
theorem x_73_43 : Tr sc d 73 (43, [l0, l1, l2, l3], [.int i1, .ref k0], h) Q = (okp h k0 7 = true ∧ Tr sc d 73 (46, [l0, l1, l2, l3], [], (sI h k0 8 i1)) Q) := t_gd k_73_43 rfl
theorem k_73_46 : lk 73 46 = some (.iconst 0, 47, 0, 0, .int 0) := by decide +kernel
theorem x_73_46 : Tr sc d 73 (46, [l0, l1, l2, l3], [], h) Q = Tr sc d 73 (47, [l0, l1, l2, l3], [.int 0], h) Q := t_go k_73_46 rfl
theorem k_73_47 : lk 73 47 = some (.istore_n 2, 48, 2, 0, .null) := by decide +kernel
theorem x_73_47 : Tr sc d 73 (47, [l0, l1, l2, l3], [.int i0], h) Q = Tr sc d 73 (48, [l0, cl2 l1, some (.int i0), l3], [], h) Q := t_istore_n k_73_47 (Nat.le_of_ble_eq_true rfl)
theorem k_73_48 : lk 73 48 = some (.iload_n 2, 49, 2, 0, .null) := by decide +kernel
theorem x_73_48 : Tr sc d 73 (48, [l0, l1, some (.int x), l3], [], h) Q = Tr sc d 73 (49, [l0, l1, some (.int x), l3], [.int x], h) Q := t_iload_n k_73_48 rfl
theorem k_73_49 : lk 73 49 = some (.aload_n 1, 50, 1, 0, .null) := by decide +kernel
theorem x_73_49 : Tr sc d 73 (49, [l0, some (.ref xk), l2, l3], [.int i0], h) Q = Tr sc d 73 (50, [l0, some (.ref xk), l2, l3], [.ref xk, .int i0], h) Q := t_aload_n k_73_49 rfl
theorem k_73_50 : lk 73 50 = some (.getfield 60, 53, 6, 8, .int 0) := by decide +kernel
theorem x_73_50 : Tr sc d 73 (50, [l0, l1, l2, l3], [.ref k1, .int i0], h) Q = (okp h k1 6 = true ∧ Tr sc d 73 (53, [l0, l1, l2, l3], [.int (hI h k1 8), .int i0], h) Q) := t_gd k_73_50 rfl
theorem k_73_53 : lk 73 53 = some (.if_icmp .ge 79, 56, 132, 0, .null) := by decide +kernel
theorem x_73_53 : Tr sc d 73 (53, [l0, l1, l2, l3], [.int i1, .int i0], h) Q = if i1 ≤ i0 then Tr sc d 73 (132, [l0, l1, l2, l3], [], h) Q else Tr sc d 73 (56, [l0, l1, l2, l3], [], h) Q := t_if k_73_53 rfl
theorem k_73_56 : lk 73 56 = some (.iconst 0, 57, 0, 0, .int 0) := by decide +kernel
theorem x_73_56 : Tr sc d 73 (56, [l0, l1, l2, l3], [], h) Q = Tr sc d 73 (57, [l0, l1, l2, l3], [.int 0], h) Q := t_go k_73_56 rfl
theorem k_73_57 : lk 73 57 = some (.istore_n 3, 58, 3, 0, .null) := by decide +kernel
theorem x_73_57 : Tr sc d 73 (57, [l0, l1, l2, l3], [.int i0], h) Q = Tr sc d 73 (58, [l0, l1, cl2 l2, some (.int i0)], [], h) Q := t_istore_n k_73_57 (Nat.le_of_ble_eq_true rfl)
theorem k_73_58 : lk 73 58 = some (.iload_n 3, 59, 3, 0, .null) := by decide +kernel
theorem x_73_58 : Tr sc d 73 (58, [l0, l1, l2, some (.int x)], [], h) Q = Tr sc d 73 (59, [l0, l1, l2, some (.int x)], [.int x], h) Q := t_iload_n k_73_58 rfl
theorem k_73_59 : lk 73 59 = some (.aload_n 1, 60, 1, 0, .null) := by decide +kernel
theorem x_73_59 : Tr sc d 73 (59, [l0, some (.ref xk), l2, l3], [.int i0], h) Q = Tr sc d 73 (60, [l0, some (.ref xk), l2, l3], [.ref xk, .int i0], h) Q := t_aload_n k_73_59 rfl
theorem k_73_60 : lk 73 60 = some (.getfield 60, 63, 6, 8, .int 0) := by decide +kernel
theorem x_73_60 : Tr sc d 73 (60, [l0, l1, l2, l3], [.ref k1, .int i0], h) Q = (okp h k1 6 = true ∧ Tr sc d 73 (63, [l0, l1, l2, l3], [.int (hI h k1 8), .int i0], h) Q) := t_gd k_73_60 rfl
theorem k_73_63 : lk 73 63 = some (.if_icmp .ge 63, 66, 126, 0, .null) := by decide +kernel
theorem x_73_63 : Tr sc d 73 (63, [l0, l1, l2, l3], [.int i1, .int i0], h) Q = if i1 ≤ i0 then Tr sc d 73 (126, [l0, l1, l2, l3], [], h) Q else Tr sc d 73 (66, [l0, l1, l2, l3], [], h) Q := t_if k_73_63 rfl
theorem k_73_66 : lk 73 66 = some (.aload_n 0, 67, 0, 0, .null) := by decide +kernel
theorem x_73_66 : Tr sc d 73 (66, [some (.ref xk), l1, l2, l3], [], h) Q = Tr sc d 73 (67, [some (.ref xk), l1, l2, l3], [.ref xk], h) Q := t_aload_n k_73_66 rfl
theorem k_73_67 : lk 73 67 = some (.getfield 29, 70, 7, 5, .null) := by decide +kernel
theorem x_73_67 : Tr sc d 73 (67, [l0, l1, l2, l3], [.ref k0], h) Q = (okp h k0 7 = true ∧ ∃ q, hR h k0 5 = some q ∧ Tr sc d 73 (70, [l0, l1, l2, l3], [.ref q], h) Q) := t_getr k_73_67
theorem k_73_70 : lk 73 70 = some (.aload_n 0, 71, 0, 0, .null) := by decide +kernel
theorem x_73_70 : Tr sc d 73 (70, [some (.ref xk), l1, l2, l3], [.ref k0], h) Q = Tr sc d 73 (71, [some (.ref xk), l1, l2, l3], [.ref xk, .ref k0], h) Q := t_aload_n k_73_70 rfl
theorem k_73_71 : lk 73 71 = some (.getfield 39, 74, 7, 8, .int 0) := by decide +kernel
theorem x_73_71 : Tr sc d 73 (71, [l0, l1, l2, l3], [.ref k1, .ref k0], h) Q = (okp h k1 7 = true ∧ Tr sc d 73 (74, [l0, l1, l2, l3], [.int (hI h k1 8), .ref k0], h) Q) := t_gd k_73_71 rfl
theorem k_73_74 : lk 73 74 = some (.aload_n 1, 75, 1, 0, .null) := by decide +kernel
theorem x_73_74 : Tr sc d 73 (74, [l0, some (.ref xk), l2, l3], [.int i1, .ref k0], h) Q = Tr sc d 73 (75, [l0, some (.ref xk), l2, l3], [.ref xk, .int i1, .ref k0], h) Q := t_aload_n k_73_74 rfl
theorem k_73_75 : lk 73 75 = some (.getfield 63, 78, 6, 1, .null) := by decide +kernel
theorem x_73_75 : Tr sc d 73 (75, [l0, l1, l2, l3], [.ref k2, .int i1, .ref k0], h) Q = (okp h k2 6 = true ∧ ∃ q, hR h k2 1 = some q ∧ Tr sc d 73 (78, [l0, l1, l2, l3], [.ref q, .int i1, .ref k0], h) Q) := t_getr k_73_75
theorem k_73_78 : lk 73 78 = some (.iload_n 3, 79, 3, 0, .null) := by decide +kernel
theorem x_73_78 : Tr sc d 73 (78, [l0, l1, l2, some (.int x)], [.ref k2, .int i1, .ref k0], h) Q = Tr sc d 73 (79, [l0, l1, l2, some (.int x)], [.int x, .ref k2, .int i1, .ref k0], h) Q := t_iload_n k_73_78 rfl
theorem k_73_79 : lk 73 79 = some (.iaload, 80, 0, 0, .null) := by decide +kernel
theorem x_73_79 : Tr sc d 73 (79, [l0, l1, l2, l3], [.int i3, .ref k2, .int i1, .ref k0], h) Q = (iOk sc h k2 i3 ∧ Tr sc d 73 (80, [l0, l1, l2, l3], [.int (iRd sc h k2 i3), .int i1, .ref k0], h) Q) := t_iald k_73_79
theorem k_73_80 : lk 73 80 = some (.aload_n 1, 81, 1, 0, .null) := by decide +kernel
theorem x_73_80 : Tr sc d 73 (80, [l0, some (.ref xk), l2, l3], [.int i2, .int i1, .ref k0], h) Q = Tr sc d 73 (81, [l0, some (.ref xk), l2, l3], [.ref xk, .int i2, .int i1, .ref k0], h) Q := t_aload_n k_73_80 rfl
theorem k_73_81 : lk 73 81 = some (.getfield 63, 84, 6, 1, .null) := by decide +kernel
theorem x_73_81 : Tr sc d 73 (81, [l0, l1, l2, l3], [.ref k3, .int i2, .int i1, .ref k0], h) Q = (okp h k3 6 = true ∧ ∃ q, hR h k3 1 = some q ∧ Tr sc d 73 (84, [l0, l1, l2, l3], [.ref q, .int i2, .int i1, .ref k0], h) Q) := t_getr k_73_81
theorem k_73_84 : lk 73 84 = some (.iload_n 2, 85, 2, 0, .null) := by decide +kernel
theorem x_73_84 : Tr sc d 73 (84, [l0, l1, some (.int x), l3], [.ref k3, .int i2, .int i1, .ref k0], h) Q = Tr sc d 73 (85, [l0, l1, some (.int x), l3], [.int x, .ref k3, .int i2, .int i1, .ref k0], h) Q := t_iload_n k_73_84 rfl
theorem k_73_85 : lk 73 85 = some (.iaload, 86, 0, 0, .null) := by decide +kernel
theorem x_73_85 : Tr sc d 73 (85, [l0, l1, l2, l3], [.int i4, .ref k3, .int i2, .int i1, .ref k0], h) Q = (iOk sc h k3 i4 ∧ Tr sc d 73 (86, [l0, l1, l2, l3], [.int (iRd sc h k3 i4), .int i2, .int i1, .ref k0], h) Q) := t_iald k_73_85
theorem k_73_86 : lk 73 86 = some (.isub, 87, 0, 0, .null) := by decide +kernel
theorem x_73_86 : Tr sc d 73 (86, [l0, l1, l2, l3], [.int i3, .int i2, .int i1, .ref k0], h) Q = Tr sc d 73 (87, [l0, l1, l2, l3], [.int (i2 - i3), .int i1, .ref k0], h) Q := t_go k_73_86 rfl
theorem k_73_87 : lk 73 87 = some (.iastore, 88, 0, 0, .null) := by decide +kernel
theorem x_73_87 : Tr sc d 73 (87, [l0, l1, l2, l3], [.int i2, .int i1, .ref k0], h) Q = ((okp h k0 11 && inb i1 (LN k0)) = true ∧ Tr sc d 73 (88, [l0, l1, l2, l3], [], (sI h k0 i1.toNatClampNeg i2)) Q) := t_gd k_73_87 rfl
theorem k_73_88 : lk 73 88 = some (.aload_n 0, 89, 0, 0, .null) := by decide +kernel
theorem x_73_88 : Tr sc d 73 (88, [some (.ref xk), l1, l2, l3], [], h) Q = Tr sc d 73 (89, [some (.ref xk), l1, l2, l3], [.ref xk], h) Q := t_aload_n k_73_88 rfl
theorem k_73_89 : lk 73 89 = some (.getfield 32, 92, 7, 6, .null) := by decide +kernel
theorem x_73_89 : Tr sc d 73 (89, [l0, l1, l2, l3], [.ref k0], h) Q = (okp h k0 7 = true ∧ ∃ q, hR h k0 6 = some q ∧ Tr sc d 73 (92, [l0, l1, l2, l3], [.ref q], h) Q) := t_getr k_73_89
theorem k_73_92 : lk 73 92 = some (.aload_n 0, 93, 0, 0, .null) := by decide +kernel
theorem x_73_92 : Tr sc d 73 (92, [some (.ref xk), l1, l2, l3], [.ref k0], h) Q = Tr sc d 73 (93, [some (.ref xk), l1, l2, l3], [.ref xk, .ref k0], h) Q := t_aload_n k_73_92 rfl
theorem k_73_93 : lk 73 93 = some (.getfield 39, 96, 7, 8, .int 0) := by decide +kernel
theorem x_73_93 : Tr sc d 73 (93, [l0, l1, l2, l3], [.ref k1, .ref k0], h) Q = (okp h k1 7 = true ∧ Tr sc d 73 (96, [l0, l1, l2, l3], [.int (hI h k1 8), .ref k0], h) Q) := t_gd k_73_93 rfl
theorem k_73_96 : lk 73 96 = some (.aload_n 1, 97, 1, 0, .null) := by decide +kernel
theorem x_73_96 : Tr sc d 73 (96, [l0, some (.ref xk), l2, l3], [.int i1, .ref k0], h) Q = Tr sc d 73 (97, [l0, some (.ref xk), l2, l3], [.ref xk, .int i1, .ref k0], h) Q := t_aload_n k_73_96 rfl
theorem k_73_97 : lk 73 97 = some (.getfield 66, 100, 6, 2, .null) := by decide +kernel
theorem x_73_97 : Tr sc d 73 (97, [l0, l1, l2, l3], [.ref k2, .int i1, .ref k0], h) Q = (okp h k2 6 = true ∧ ∃ q, hR h k2 2 = some q ∧ Tr sc d 73 (100, [l0, l1, l2, l3], [.ref q, .int i1, .ref k0], h) Q) := t_getr k_73_97
theorem k_73_100 : lk 73 100 = some (.iload_n 3, 101, 3, 0, .null) := by decide +kernel
theorem x_73_100 : Tr sc d 73 (100, [l0, l1, l2, some (.int x)], [.ref k2, .int i1, .ref k0], h) Q = Tr sc d 73 (101, [l0, l1, l2, some (.int x)], [.int x, .ref k2, .int i1, .ref k0], h) Q := t_iload_n k_73_100 rfl
theorem k_73_101 : lk 73 101 = some (.iaload, 102, 0, 0, .null) := by decide +kernel
theorem x_73_101 : Tr sc d 73 (101, [l0, l1, l2, l3], [.int i3, .ref k2, .int i1, .ref k0], h) Q = (iOk sc h k2 i3 ∧ Tr sc d 73 (102, [l0, l1, l2, l3], [.int (iRd sc h k2 i3), .int i1, .ref k0], h) Q) := t_iald k_73_101
theorem k_73_102 : lk 73 102 = some (.aload_n 1, 103, 1, 0, .null) := by decide +kernel
theorem x_73_102 : Tr sc d 73 (102, [l0, some (.ref xk), l2, l3], [.int i2, .int i1, .ref k0], h) Q = Tr sc d 73 (103, [l0, some (.ref xk), l2, l3], [.ref xk, .int i2, .int i1, .ref k0], h) Q := t_aload_n k_73_102 rfl
theorem k_73_103 : lk 73 103 = some (.getfield 66, 106, 6, 2, .null) := by decide +kernel
theorem x_73_103 : Tr sc d 73 (103, [l0, l1, l2, l3], [.ref k3, .int i2, .int i1, .ref k0], h) Q = (okp h k3 6 = true ∧ ∃ q, hR h k3 2 = some q ∧ Tr sc d 73 (106, [l0, l1, l2, l3], [.ref q, .int i2, .int i1, .ref k0], h) Q) := t_getr k_73_103
theorem k_73_106 : lk 73 106 = some (.iload_n 2, 107, 2, 0, .null) := by decide +kernel
theorem x_73_106 : Tr sc d 73 (106, [l0, l1, some (.int x), l3], [.ref k3, .int i2, .int i1, .ref k0], h) Q = Tr sc d 73 (107, [l0, l1, some (.int x), l3], [.int x, .ref k3, .int i2, .int i1, .ref k0], h) Q := t_iload_n k_73_106 rfl
theorem k_73_107 : lk 73 107 = some (.iaload, 108, 0, 0, .null) := by decide +kernel
theorem x_73_107 : Tr sc d 73 (107, [l0, l1, l2, l3], [.int i4, .ref k3, .int i2, .int i1, .ref k0], h) Q = (iOk sc h k3 i4 ∧ Tr sc d 73 (108, [l0, l1, l2, l3], [.int (iRd sc h k3 i4), .int i2, .int i1, .ref k0], h) Q) := t_iald k_73_107
theorem k_73_108 : lk 73 108 = some (.isub, 109, 0, 0, .null) := by decide +kernel
theorem x_73_108 : Tr sc d 73 (108, [l0, l1, l2, l3], [.int i3, .int i2, .int i1, .ref k0], h) Q = Tr sc d 73 (109, [l0, l1, l2, l3], [.int (i2 - i3), .int i1, .ref k0], h) Q := t_go k_73_108 rfl
theorem k_73_109 : lk 73 109 = some (.iastore, 110, 0, 0, .null) := by decide +kernel
theorem x_73_109 : Tr sc d 73 (109, [l0, l1, l2, l3], [.int i2, .int i1, .ref k0], h) Q = ((okp h k0 11 && inb i1 (LN k0)) = true ∧ Tr sc d 73 (110, [l0, l1, l2, l3], [], (sI h k0 i1.toNatClampNeg i2)) Q) := t_gd k_73_109 rfl
theorem k_73_110 : lk 73 110 = some (.aload_n 0, 111, 0, 0, .null) := by decide +kernel
theorem x_73_110 : Tr sc d 73 (110, [some (.ref xk), l1, l2, l3], [], h) Q = Tr sc d 73 (111, [some (.ref xk), l1, l2, l3], [.ref xk], h) Q := t_aload_n k_73_110 rfl
theorem k_73_111 : lk 73 111 = some (.dup, 112, 0, 0, .null) := by decide +kernel
theorem x_73_111 : Tr sc d 73 (111, [l0, l1, l2, l3], [.ref k0], h) Q = Tr sc d 73 (112, [l0, l1, l2, l3], [.ref k0, .ref k0], h) Q := t_go k_73_111 rfl
theorem k_73_112 : lk 73 112 = some (.getfield 39, 115, 7, 8, .int 0) := by decide +kernel
theorem x_73_112 : Tr sc d 73 (112, [l0, l1, l2, l3], [.ref k1, .ref k0], h) Q = (okp h k1 7 = true ∧ Tr sc d 73 (115, [l0, l1, l2, l3], [.int (hI h k1 8), .ref k0], h) Q) := t_gd k_73_112 rfl
theorem k_73_115 : lk 73 115 = some (.iconst 1, 116, 0, 0, .int 1) := by decide +kernel
theorem x_73_115 : Tr sc d 73 (115, [l0, l1, l2, l3], [.int i1, .ref k0], h) Q = Tr sc d 73 (116, [l0, l1, l2, l3], [.int 1, .int i1, .ref k0], h) Q := t_go k_73_115 rfl
theorem k_73_116 : lk 73 116 = some (.iadd, 117, 0, 0, .null) := by decide +kernel
theorem x_73_116 : Tr sc d 73 (116, [l0, l1, l2, l3], [.int i2, .int i1, .ref k0], h) Q = Tr sc d 73 (117, [l0, l1, l2, l3], [.int (i1 + i2), .ref k0], h) Q := t_go k_73_116 rfl
theorem k_73_117 : lk 73 117 = some (.putfield 39, 120, 7, 8, .int 0) := by decide +kernel
theorem x_73_117 : Tr sc d 73 (117, [l0, l1, l2, l3], [.int i1, .ref k0], h) Q = (okp h k0 7 = true ∧ Tr sc d 73 (120, [l0, l1, l2, l3], [], (sI h k0 8 i1)) Q) := t_gd k_73_117 rfl
theorem k_73_120 : lk 73 120 = some (.iinc 3 1, 123, 3, 0, .int 1) := by decide +kernel
theorem x_73_120 : Tr sc d 73 (120, [l0, l1, l2, some (.int x)], [], h) Q = Tr sc d 73 (123, [l0, l1, cl2 l2, some (.int (x + 1))], [], h) Q := t_inc k_73_120 rfl (Nat.le_of_ble_eq_true rfl)
theorem k_73_123 : lk 73 123 = some (.goto (-65), 126, 58, 0, .null) := by decide +kernel
theorem x_73_123 : Tr sc d 73 (123, [l0, l1, l2, l3], [], h) Q = Tr sc d 73 (58, [l0, l1, l2, l3], [], h) Q := t_go k_73_123 rfl
theorem k_73_126 : lk 73 126 = some (.iinc 2 1, 129, 2, 0, .int 1) := by decide +kernel
theorem x_73_126 : Tr sc d 73 (126, [l0, l1, some (.int x), l3], [], h) Q = Tr sc d 73 (129, [l0, cl2 l1, some (.int (x + 1)), l3], [], h) Q := t_inc k_73_126 rfl (Nat.le_of_ble_eq_true rfl)
theorem k_73_129 : lk 73 129 = some (.goto (-81), 132, 48, 0, .null) := by decide +kernel
theorem x_73_129 : Tr sc d 73 (129, [l0, l1, l2, l3], [], h) Q = Tr sc d 73 (48, [l0, l1, l2, l3], [], h) Q := t_go k_73_129 rfl
theorem k_73_132 : lk 73 132 = some (.iconst 0, 133, 0, 0, .int 0) := by decide +kernel
theorem x_73_132 : Tr sc d 73 (132, [l0, l1, l2, l3], [], h) Q = Tr sc d 73 (133, [l0, l1, l2, l3], [.int 0], h) Q := t_go k_73_132 rfl
theorem k_73_133 : lk 73 133 = some (.istore_n 2, 134, 2, 0, .null) := by decide +kernel
theorem x_73_133 : Tr sc d 73 (133, [l0, l1, l2, l3], [.int i0], h) Q = Tr sc d 73 (134, [l0, cl2 l1, some (.int i0), l3], [], h) Q := t_istore_n k_73_133 (Nat.le_of_ble_eq_true rfl)
theorem k_73_134 : lk 73 134 = some (.iload_n 2, 135, 2, 0, .null) := by decide +kernel
theorem x_73_134 : Tr sc d 73 (134, [l0, l1, some (.int x), l3], [], h) Q = Tr sc d 73 (135, [l0, l1, some (.int x), l3], [.int x], h) Q := t_iload_n k_73_134 rfl
theorem k_73_135 : lk 73 135 = some (.aload_n 0, 136, 0, 0, .null) := by decide +kernel
theorem x_73_135 : Tr sc d 73 (135, [some (.ref xk), l1, l2, l3], [.int i0], h) Q = Tr sc d 73 (136, [some (.ref xk), l1, l2, l3], [.ref xk, .int i0], h) Q := t_aload_n k_73_135 rfl
theorem k_73_136 : lk 73 136 = some (.getfield 51, 139, 7, 12, .int 0) := by decide +kernel
theorem x_73_136 : Tr sc d 73 (136, [l0, l1, l2, l3], [.ref k1, .int i0], h) Q = (okp h k1 7 = true ∧ Tr sc d 73 (139, [l0, l1, l2, l3], [.int (hI h k1 12), .int i0], h) Q) := t_gd k_73_136 rfl
theorem k_73_139 : lk 73 139 = some (.if_icmp .ge 16, 142, 155, 0, .null) := by decide +kernel
theorem x_73_139 : Tr sc d 73 (139, [l0, l1, l2, l3], [.int i1, .int i0], h) Q = if i1 ≤ i0 then Tr sc d 73 (155, [l0, l1, l2, l3], [], h) Q else Tr sc d 73 (142, [l0, l1, l2, l3], [], h) Q := t_if k_73_139 rfl
theorem k_73_142 : lk 73 142 = some (.aload_n 0, 143, 0, 0, .null) := by decide +kernel
theorem x_73_142 : Tr sc d 73 (142, [some (.ref xk), l1, l2, l3], [], h) Q = Tr sc d 73 (143, [some (.ref xk), l1, l2, l3], [.ref xk], h) Q := t_aload_n k_73_142 rfl
theorem k_73_143 : lk 73 143 = some (.getfield 11, 146, 7, 0, .null) := by decide +kernel
theorem x_73_143 : Tr sc d 73 (143, [l0, l1, l2, l3], [.ref k0], h) Q = (okp h k0 7 = true ∧ ∃ q, hR h k0 0 = some q ∧ Tr sc d 73 (146, [l0, l1, l2, l3], [.ref q], h) Q) := t_getr k_73_143
theorem k_73_146 : lk 73 146 = some (.iload_n 2, 147, 2, 0, .null) := by decide +kernel
theorem x_73_146 : Tr sc d 73 (146, [l0, l1, some (.int x), l3], [.ref k0], h) Q = Tr sc d 73 (147, [l0, l1, some (.int x), l3], [.int x, .ref k0], h) Q := t_iload_n k_73_146 rfl
theorem k_73_147 : lk 73 147 = some (.iconst 1, 148, 0, 0, .int 1) := by decide +kernel
theorem x_73_147 : Tr sc d 73 (147, [l0, l1, l2, l3], [.int i1, .ref k0], h) Q = Tr sc d 73 (148, [l0, l1, l2, l3], [.int 1, .int i1, .ref k0], h) Q := t_go k_73_147 rfl
theorem k_73_148 : lk 73 148 = some (.bastore, 149, 0, 0, .null) := by decide +kernel
theorem x_73_148 : Tr sc d 73 (148, [l0, l1, l2, l3], [.int i2, .int i1, .ref k0], h) Q = ((okp h k0 13 && inb i1 (LN k0)) = true ∧ Tr sc d 73 (149, [l0, l1, l2, l3], [], (sI h k0 i1.toNatClampNeg (vp_nar .boolean i2))) Q) := t_gd k_73_148 rfl
theorem k_73_149 : lk 73 149 = some (.iinc 2 1, 152, 2, 0, .int 1) := by decide +kernel
theorem x_73_149 : Tr sc d 73 (149, [l0, l1, some (.int x), l3], [], h) Q = Tr sc d 73 (152, [l0, cl2 l1, some (.int (x + 1)), l3], [], h) Q := t_inc k_73_149 rfl (Nat.le_of_ble_eq_true rfl)
theorem k_73_152 : lk 73 152 = some (.goto (-18), 155, 134, 0, .null) := by decide +kernel
theorem x_73_152 : Tr sc d 73 (152, [l0, l1, l2, l3], [], h) Q = Tr sc d 73 (134, [l0, l1, l2, l3], [], h) Q := t_go k_73_152 rfl
theorem k_73_155 : lk 73 155 = some (.iconst 1, 156, 0, 0, .int 1) := by decide +kernel
theorem x_73_155 : Tr sc d 73 (155, [l0, l1, l2, l3], [], h) Q = Tr sc d 73 (156, [l0, l1, l2, l3], [.int 1], h) Q := t_go k_73_155 rfl
theorem k_73_156 : lk 73 156 = some (.istore_n 2, 157, 2, 0, .null) := by decide +kernel
theorem x_73_156 : Tr sc d 73 (156, [l0, l1, l2, l3], [.int i0], h) Q = Tr sc d 73 (157, [l0, cl2 l1, some (.int i0), l3], [], h) Q := t_istore_n k_73_156 (Nat.le_of_ble_eq_true rfl)
theorem k_73_157 : lk 73 157 = some (.iconst 0, 158, 0, 0, .int 0) := by decide +kernel
theorem x_73_157 : Tr sc d 73 (157, [l0, l1, l2, l3], [], h) Q = Tr sc d 73 (158, [l0, l1, l2, l3], [.int 0], h) Q := t_go k_73_157 rfl
theorem k_73_158 : lk 73 158 = some (.istore_n 3, 159, 3, 0, .null) := by decide +kernel
theorem x_73_158 : Tr sc d 73 (158, [l0, l1, l2, l3], [.int i0], h) Q = Tr sc d 73 (159, [l0, l1, cl2 l2, some (.int i0)], [], h) Q := t_istore_n k_73_158 (Nat.le_of_ble_eq_true rfl)
theorem k_73_159 : lk 73 159 = some (.iload_n 3, 160, 3, 0, .null) := by decide +kernel
theorem x_73_159 : Tr sc d 73 (159, [l0, l1, l2, some (.int x)], [], h) Q = Tr sc d 73 (160, [l0, l1, l2, some (.int x)], [.int x], h) Q := t_iload_n k_73_159 rfl
theorem k_73_160 : lk 73 160 = some (.sipush 1369, 163, 0, 0, .int 1369) := by decide +kernel
theorem x_73_160 : Tr sc d 73 (160, [l0, l1, l2, l3], [.int i0], h) Q = Tr sc d 73 (163, [l0, l1, l2, l3], [.int 1369, .int i0], h) Q := t_go k_73_160 rfl
theorem k_73_163 : lk 73 163 = some (.if_icmp .gt 18, 166, 181, 0, .null) := by decide +kernel
theorem x_73_163 : Tr sc d 73 (163, [l0, l1, l2, l3], [.int i1, .int i0], h) Q = if i1 < i0 then Tr sc d 73 (181, [l0, l1, l2, l3], [], h) Q else Tr sc d 73 (166, [l0, l1, l2, l3], [], h) Q := t_if k_73_163 rfl
theorem k_73_166 : lk 73 166 = some (.iload_n 2, 167, 2, 0, .null) := by decide +kernel
theorem x_73_166 : Tr sc d 73 (166, [l0, l1, some (.int x), l3], [], h) Q = Tr sc d 73 (167, [l0, l1, some (.int x), l3], [.int x], h) Q := t_iload_n k_73_166 rfl
theorem k_73_167 : lk 73 167 = some (.ifCond .eq 14, 170, 181, 0, .null) := by decide +kernel
theorem x_73_167 : Tr sc d 73 (167, [l0, l1, l2, l3], [.int i0], h) Q = if i0 = 0 then Tr sc d 73 (181, [l0, l1, l2, l3], [], h) Q else Tr sc d 73 (170, [l0, l1, l2, l3], [], h) Q := t_if k_73_167 rfl
theorem k_73_170 : lk 73 170 = some (.aload_n 0, 171, 0, 0, .null) := by decide +kernel
theorem x_73_170 : Tr sc d 73 (170, [some (.ref xk), l1, l2, l3], [], h) Q = Tr sc d 73 (171, [some (.ref xk), l1, l2, l3], [.ref xk], h) Q := t_aload_n k_73_170 rfl
theorem k_73_171 : lk 73 171 = some (.invokevirtual 69, 174, 74, 0, .null) := by decide +kernel
theorem x_73_171 : Tr sc (d + 1) 73 (171, [l0, l1, l2, l3], [.ref k0], h) Q = (okp h k0 7 = true ∧ Tr sc d 74 (ent0 74 [.ref k0] h) (fun z => Tr sc (d + 1) 73 (174, [l0, l1, l2, l3], z.1.toList ++ [], z.2) Q)) := t_cv (as := []) (r := []) k_73_171 rfl rfl (Nat.le_of_ble_eq_true rfl) (Nat.le_of_ble_eq_true rfl) (Nat.le_of_ble_eq_true rfl)
theorem k_73_174 : lk 73 174 = some (.istore_n 2, 175, 2, 0, .null) := by decide +kernel
theorem x_73_174 : Tr sc d 73 (174, [l0, l1, l2, l3], [.int i0], h) Q = Tr sc d 73 (175, [l0, cl2 l1, some (.int i0), l3], [], h) Q := t_istore_n k_73_174 (Nat.le_of_ble_eq_true rfl)
theorem k_73_175 : lk 73 175 = some (.iinc 3 1, 178, 3, 0, .int 1) := by decide +kernel
theorem x_73_175 : Tr sc d 73 (175, [l0, l1, l2, some (.int x)], [], h) Q = Tr sc d 73 (178, [l0, l1, cl2 l2, some (.int (x + 1))], [], h) Q := t_inc k_73_175 rfl (Nat.le_of_ble_eq_true rfl)
theorem k_73_178 : lk 73 178 = some (.goto (-19), 181, 159, 0, .null) := by decide +kernel
theorem x_73_178 : Tr sc d 73 (178, [l0, l1, l2, l3], [], h) Q = Tr sc d 73 (159, [l0, l1, l2, l3], [], h) Q := t_go k_73_178 rfl
theorem k_73_181 : lk 73 181 = some (.return_, 182, 0, 0, .null) := by decide +kernel
theorem x_73_181 : Tr sc d 73 (181, [l0, l1, l2, l3], [], h) Q = Q (none, h) := t_ret k_73_181 (by rw [r_73]; rfl)
theorem e_73 : Tr sc d 73 (ent0 73 [.ref k0, .ref k1] h) Q = Tr sc d 73 (0, [some (.ref k0), some (.ref k1), none, none], [], h) Q := by
  have e : mL 73 = 4 := by decide +kernel
  unfold ent0
  rw [e]
  rfl
theorem r_74 : mR 74 = some .boolean := by decide +kernel
theorem k_74_0 : lk 74 0 = some (.iconst 0, 1, 0, 0, .int 0) := by decide +kernel
theorem x_74_0 : Tr sc d 74 (0, [l0, l1, l2], [], h) Q = Tr sc d 74 (1, [l0, l1, l2], [.int 0], h) Q := t_go k_74_0 rfl
theorem k_74_1 : lk 74 1 = some (.istore_n 1, 2, 1, 0, .null) := by decide +kernel
theorem x_74_1 : Tr sc d 74 (1, [l0, l1, l2], [.int i0], h) Q = Tr sc d 74 (2, [cl2 l0, some (.int i0), l2], [], h) Q := t_istore_n k_74_1 (Nat.le_of_ble_eq_true rfl)
theorem k_74_2 : lk 74 2 = some (.iconst 0, 3, 0, 0, .int 0) := by decide +kernel
theorem x_74_2 : Tr sc d 74 (2, [l0, l1, l2], [], h) Q = Tr sc d 74 (3, [l0, l1, l2], [.int 0], h) Q := t_go k_74_2 rfl
theorem k_74_3 : lk 74 3 = some (.istore_n 2, 4, 2, 0, .null) := by decide +kernel
theorem x_74_3 : Tr sc d 74 (3, [l0, l1, l2], [.int i0], h) Q = Tr sc d 74 (4, [l0, cl2 l1, some (.int i0)], [], h) Q := t_istore_n k_74_3 (Nat.le_of_ble_eq_true rfl)
theorem k_74_4 : lk 74 4 = some (.iload_n 2, 5, 2, 0, .null) := by decide +kernel
theorem x_74_4 : Tr sc d 74 (4, [l0, l1, some (.int x)], [], h) Q = Tr sc d 74 (5, [l0, l1, some (.int x)], [.int x], h) Q := t_iload_n k_74_4 rfl
theorem k_74_5 : lk 74 5 = some (.aload_n 0, 6, 0, 0, .null) := by decide +kernel
theorem x_74_5 : Tr sc d 74 (5, [some (.ref xk), l1, l2], [.int i0], h) Q = Tr sc d 74 (6, [some (.ref xk), l1, l2], [.ref xk, .int i0], h) Q := t_aload_n k_74_5 rfl
theorem k_74_6 : lk 74 6 = some (.getfield 51, 9, 7, 12, .int 0) := by decide +kernel
theorem x_74_6 : Tr sc d 74 (6, [l0, l1, l2], [.ref k1, .int i0], h) Q = (okp h k1 7 = true ∧ Tr sc d 74 (9, [l0, l1, l2], [.int (hI h k1 12), .int i0], h) Q) := t_gd k_74_6 rfl
theorem k_74_9 : lk 74 9 = some (.if_icmp .ge 35, 12, 44, 0, .null) := by decide +kernel
theorem x_74_9 : Tr sc d 74 (9, [l0, l1, l2], [.int i1, .int i0], h) Q = if i1 ≤ i0 then Tr sc d 74 (44, [l0, l1, l2], [], h) Q else Tr sc d 74 (12, [l0, l1, l2], [], h) Q := t_if k_74_9 rfl
theorem k_74_12 : lk 74 12 = some (.aload_n 0, 13, 0, 0, .null) := by decide +kernel
theorem x_74_12 : Tr sc d 74 (12, [some (.ref xk), l1, l2], [], h) Q = Tr sc d 74 (13, [some (.ref xk), l1, l2], [.ref xk], h) Q := t_aload_n k_74_12 rfl
theorem k_74_13 : lk 74 13 = some (.getfield 11, 16, 7, 0, .null) := by decide +kernel
theorem x_74_13 : Tr sc d 74 (13, [l0, l1, l2], [.ref k0], h) Q = (okp h k0 7 = true ∧ ∃ q, hR h k0 0 = some q ∧ Tr sc d 74 (16, [l0, l1, l2], [.ref q], h) Q) := t_getr k_74_13
theorem k_74_16 : lk 74 16 = some (.iload_n 2, 17, 2, 0, .null) := by decide +kernel
theorem x_74_16 : Tr sc d 74 (16, [l0, l1, some (.int x)], [.ref k0], h) Q = Tr sc d 74 (17, [l0, l1, some (.int x)], [.int x, .ref k0], h) Q := t_iload_n k_74_16 rfl
theorem k_74_17 : lk 74 17 = some (.baload, 18, 0, 0, .null) := by decide +kernel
theorem x_74_17 : Tr sc d 74 (17, [l0, l1, l2], [.int i1, .ref k0], h) Q = ((okp h k0 13 && inb i1 (LN k0)) = true ∧ Tr sc d 74 (18, [l0, l1, l2], [.int (hI h k0 i1.toNatClampNeg)], h) Q) := t_gd k_74_17 rfl
theorem k_74_18 : lk 74 18 = some (.ifCond .eq 20, 21, 38, 0, .null) := by decide +kernel
theorem x_74_18 : Tr sc d 74 (18, [l0, l1, l2], [.int i0], h) Q = if i0 = 0 then Tr sc d 74 (38, [l0, l1, l2], [], h) Q else Tr sc d 74 (21, [l0, l1, l2], [], h) Q := t_if k_74_18 rfl
theorem k_74_21 : lk 74 21 = some (.aload_n 0, 22, 0, 0, .null) := by decide +kernel
theorem x_74_21 : Tr sc d 74 (21, [some (.ref xk), l1, l2], [], h) Q = Tr sc d 74 (22, [some (.ref xk), l1, l2], [.ref xk], h) Q := t_aload_n k_74_21 rfl
theorem k_74_22 : lk 74 22 = some (.iload_n 2, 23, 2, 0, .null) := by decide +kernel
theorem x_74_22 : Tr sc d 74 (22, [l0, l1, some (.int x)], [.ref k0], h) Q = Tr sc d 74 (23, [l0, l1, some (.int x)], [.int x, .ref k0], h) Q := t_iload_n k_74_22 rfl
theorem k_74_23 : lk 74 23 = some (.invokevirtual 73, 26, 75, 1, .null) := by decide +kernel
theorem x_74_23 : Tr sc (d + 1) 74 (23, [l0, l1, l2], [.int i1, .ref k0], h) Q = (okp h k0 7 = true ∧ Tr sc d 75 (ent0 75 [.ref k0, .int i1] h) (fun z => Tr sc (d + 1) 74 (26, [l0, l1, l2], z.1.toList ++ [], z.2) Q)) := t_cv (as := [.int i1]) (r := []) k_74_23 rfl rfl (Nat.le_of_ble_eq_true rfl) (Nat.le_of_ble_eq_true rfl) (Nat.le_of_ble_eq_true rfl)
theorem k_74_26 : lk 74 26 = some (.ifCond .ne 12, 29, 38, 0, .null) := by decide +kernel
theorem x_74_26 : Tr sc d 74 (26, [l0, l1, l2], [.int i0], h) Q = if i0 = 0 then Tr sc d 74 (29, [l0, l1, l2], [], h) Q else Tr sc d 74 (38, [l0, l1, l2], [], h) Q := t_if k_74_26 rfl
theorem k_74_29 : lk 74 29 = some (.aload_n 0, 30, 0, 0, .null) := by decide +kernel
theorem x_74_29 : Tr sc d 74 (29, [some (.ref xk), l1, l2], [], h) Q = Tr sc d 74 (30, [some (.ref xk), l1, l2], [.ref xk], h) Q := t_aload_n k_74_29 rfl
theorem k_74_30 : lk 74 30 = some (.getfield 11, 33, 7, 0, .null) := by decide +kernel
theorem x_74_30 : Tr sc d 74 (30, [l0, l1, l2], [.ref k0], h) Q = (okp h k0 7 = true ∧ ∃ q, hR h k0 0 = some q ∧ Tr sc d 74 (33, [l0, l1, l2], [.ref q], h) Q) := t_getr k_74_30
theorem k_74_33 : lk 74 33 = some (.iload_n 2, 34, 2, 0, .null) := by decide +kernel
theorem x_74_33 : Tr sc d 74 (33, [l0, l1, some (.int x)], [.ref k0], h) Q = Tr sc d 74 (34, [l0, l1, some (.int x)], [.int x, .ref k0], h) Q := t_iload_n k_74_33 rfl
theorem k_74_34 : lk 74 34 = some (.iconst 0, 35, 0, 0, .int 0) := by decide +kernel
theorem x_74_34 : Tr sc d 74 (34, [l0, l1, l2], [.int i1, .ref k0], h) Q = Tr sc d 74 (35, [l0, l1, l2], [.int 0, .int i1, .ref k0], h) Q := t_go k_74_34 rfl
theorem k_74_35 : lk 74 35 = some (.bastore, 36, 0, 0, .null) := by decide +kernel
theorem x_74_35 : Tr sc d 74 (35, [l0, l1, l2], [.int i2, .int i1, .ref k0], h) Q = ((okp h k0 13 && inb i1 (LN k0)) = true ∧ Tr sc d 74 (36, [l0, l1, l2], [], (sI h k0 i1.toNatClampNeg (vp_nar .boolean i2))) Q) := t_gd k_74_35 rfl
theorem k_74_36 : lk 74 36 = some (.iconst 1, 37, 0, 0, .int 1) := by decide +kernel
theorem x_74_36 : Tr sc d 74 (36, [l0, l1, l2], [], h) Q = Tr sc d 74 (37, [l0, l1, l2], [.int 1], h) Q := t_go k_74_36 rfl
theorem k_74_37 : lk 74 37 = some (.istore_n 1, 38, 1, 0, .null) := by decide +kernel
theorem x_74_37 : Tr sc d 74 (37, [l0, l1, l2], [.int i0], h) Q = Tr sc d 74 (38, [cl2 l0, some (.int i0), l2], [], h) Q := t_istore_n k_74_37 (Nat.le_of_ble_eq_true rfl)
theorem k_74_38 : lk 74 38 = some (.iinc 2 1, 41, 2, 0, .int 1) := by decide +kernel
theorem x_74_38 : Tr sc d 74 (38, [l0, l1, some (.int x)], [], h) Q = Tr sc d 74 (41, [l0, cl2 l1, some (.int (x + 1))], [], h) Q := t_inc k_74_38 rfl (Nat.le_of_ble_eq_true rfl)
theorem k_74_41 : lk 74 41 = some (.goto (-37), 44, 4, 0, .null) := by decide +kernel
theorem x_74_41 : Tr sc d 74 (41, [l0, l1, l2], [], h) Q = Tr sc d 74 (4, [l0, l1, l2], [], h) Q := t_go k_74_41 rfl
theorem k_74_44 : lk 74 44 = some (.iload_n 1, 45, 1, 0, .null) := by decide +kernel
theorem x_74_44 : Tr sc d 74 (44, [l0, some (.int x), l2], [], h) Q = Tr sc d 74 (45, [l0, some (.int x), l2], [.int x], h) Q := t_iload_n k_74_44 rfl
theorem k_74_45 : lk 74 45 = some (.ireturn, 46, 0, 0, .null) := by decide +kernel
theorem x_74_45 : Tr sc d 74 (45, [l0, l1, l2], [.int i0], h) Q = (vp_nar .boolean i0 = i0 ∧ Q (some (.int i0), h)) := t_zret k_74_45 r_74
theorem e_74 : Tr sc d 74 (ent0 74 [.ref k0] h) Q = Tr sc d 74 (0, [some (.ref k0), none, none], [], h) Q := by
  have e : mL 74 = 3 := by decide +kernel
  unfold ent0
  rw [e]
  rfl
theorem r_75 : mR 75 = some .boolean := by decide +kernel
theorem k_75_0 : lk 75 0 = some (.aload_n 0, 1, 0, 0, .null) := by decide +kernel
theorem x_75_0 : Tr sc d 75 (0, [some (.ref xk), l1, l2, l3, l4], [], h) Q = Tr sc d 75 (1, [some (.ref xk), l1, l2, l3, l4], [.ref xk], h) Q := t_aload_n k_75_0 rfl
theorem k_75_1 : lk 75 1 = some (.getfield 42, 4, 7, 9, .int 0) := by decide +kernel
theorem x_75_1 : Tr sc d 75 (1, [l0, l1, l2, l3, l4], [.ref k0], h) Q = (okp h k0 7 = true ∧ Tr sc d 75 (4, [l0, l1, l2, l3, l4], [.int (hI h k0 9)], h) Q) := t_gd k_75_1 rfl
theorem k_75_4 : lk 75 4 = some (.aload_n 0, 5, 0, 0, .null) := by decide +kernel
theorem x_75_4 : Tr sc d 75 (4, [some (.ref xk), l1, l2, l3, l4], [.int i0], h) Q = Tr sc d 75 (5, [some (.ref xk), l1, l2, l3, l4], [.ref xk, .int i0], h) Q := t_aload_n k_75_4 rfl
theorem k_75_5 : lk 75 5 = some (.iload_n 1, 6, 1, 0, .null) := by decide +kernel
theorem x_75_5 : Tr sc d 75 (5, [l0, some (.int x), l2, l3, l4], [.ref k1, .int i0], h) Q = Tr sc d 75 (6, [l0, some (.int x), l2, l3, l4], [.int x, .ref k1, .int i0], h) Q := t_iload_n k_75_5 rfl
theorem k_75_6 : lk 75 6 = some (.invokevirtual 77, 9, 76, 1, .null) := by decide +kernel
theorem x_75_6 : Tr sc (d + 1) 75 (6, [l0, l1, l2, l3, l4], [.int i2, .ref k1, .int i0], h) Q = (okp h k1 7 = true ∧ Tr sc d 76 (ent0 76 [.ref k1, .int i2] h) (fun z => Tr sc (d + 1) 75 (9, [l0, l1, l2, l3, l4], z.1.toList ++ [.int i0], z.2) Q)) := t_cv (as := [.int i2]) (r := [.int i0]) k_75_6 rfl rfl (Nat.le_of_ble_eq_true rfl) (Nat.le_of_ble_eq_true rfl) (Nat.le_of_ble_eq_true rfl)
theorem k_75_9 : lk 75 9 = some (.imul, 10, 0, 0, .null) := by decide +kernel
theorem x_75_9 : Tr sc d 75 (9, [l0, l1, l2, l3, l4], [.int i1, .int i0], h) Q = Tr sc d 75 (10, [l0, l1, l2, l3, l4], [.int (i0 * i1)], h) Q := t_go k_75_9 rfl
theorem k_75_10 : lk 75 10 = some (.istore_n 2, 11, 2, 0, .null) := by decide +kernel
theorem x_75_10 : Tr sc d 75 (10, [l0, l1, l2, l3, l4], [.int i0], h) Q = Tr sc d 75 (11, [l0, cl2 l1, some (.int i0), l3, l4], [], h) Q := t_istore_n k_75_10 (Nat.le_of_ble_eq_true rfl)
theorem k_75_11 : lk 75 11 = some (.aload_n 0, 12, 0, 0, .null) := by decide +kernel
theorem x_75_11 : Tr sc d 75 (11, [some (.ref xk), l1, l2, l3, l4], [], h) Q = Tr sc d 75 (12, [some (.ref xk), l1, l2, l3, l4], [.ref xk], h) Q := t_aload_n k_75_11 rfl
theorem k_75_12 : lk 75 12 = some (.getfield 42, 15, 7, 9, .int 0) := by decide +kernel
theorem x_75_12 : Tr sc d 75 (12, [l0, l1, l2, l3, l4], [.ref k0], h) Q = (okp h k0 7 = true ∧ Tr sc d 75 (15, [l0, l1, l2, l3, l4], [.int (hI h k0 9)], h) Q) := t_gd k_75_12 rfl
theorem k_75_15 : lk 75 15 = some (.aload_n 0, 16, 0, 0, .null) := by decide +kernel
theorem x_75_15 : Tr sc d 75 (15, [some (.ref xk), l1, l2, l3, l4], [.int i0], h) Q = Tr sc d 75 (16, [some (.ref xk), l1, l2, l3, l4], [.ref xk, .int i0], h) Q := t_aload_n k_75_15 rfl
theorem k_75_16 : lk 75 16 = some (.iload_n 1, 17, 1, 0, .null) := by decide +kernel
theorem x_75_16 : Tr sc d 75 (16, [l0, some (.int x), l2, l3, l4], [.ref k1, .int i0], h) Q = Tr sc d 75 (17, [l0, some (.int x), l2, l3, l4], [.int x, .ref k1, .int i0], h) Q := t_iload_n k_75_16 rfl
theorem k_75_17 : lk 75 17 = some (.invokevirtual 81, 20, 77, 1, .null) := by decide +kernel
theorem x_75_17 : Tr sc (d + 1) 75 (17, [l0, l1, l2, l3, l4], [.int i2, .ref k1, .int i0], h) Q = (okp h k1 7 = true ∧ Tr sc d 77 (ent0 77 [.ref k1, .int i2] h) (fun z => Tr sc (d + 1) 75 (20, [l0, l1, l2, l3, l4], z.1.toList ++ [.int i0], z.2) Q)) := t_cv (as := [.int i2]) (r := [.int i0]) k_75_17 rfl rfl (Nat.le_of_ble_eq_true rfl) (Nat.le_of_ble_eq_true rfl) (Nat.le_of_ble_eq_true rfl)
theorem k_75_20 : lk 75 20 = some (.imul, 21, 0, 0, .null) := by decide +kernel
theorem x_75_20 : Tr sc d 75 (20, [l0, l1, l2, l3, l4], [.int i1, .int i0], h) Q = Tr sc d 75 (21, [l0, l1, l2, l3, l4], [.int (i0 * i1)], h) Q := t_go k_75_20 rfl
theorem k_75_21 : lk 75 21 = some (.istore_n 3, 22, 3, 0, .null) := by decide +kernel
theorem x_75_21 : Tr sc d 75 (21, [l0, l1, l2, l3, l4], [.int i0], h) Q = Tr sc d 75 (22, [l0, l1, cl2 l2, some (.int i0), l4], [], h) Q := t_istore_n k_75_21 (Nat.le_of_ble_eq_true rfl)
theorem k_75_22 : lk 75 22 = some (.iconst 0, 23, 0, 0, .int 0) := by decide +kernel
theorem x_75_22 : Tr sc d 75 (22, [l0, l1, l2, l3, l4], [], h) Q = Tr sc d 75 (23, [l0, l1, l2, l3, l4], [.int 0], h) Q := t_go k_75_22 rfl
theorem k_75_23 : lk 75 23 = some (.istore 4, 25, 4, 0, .null) := by decide +kernel
theorem x_75_23 : Tr sc d 75 (23, [l0, l1, l2, l3, l4], [.int i0], h) Q = Tr sc d 75 (25, [l0, l1, l2, cl2 l3, some (.int i0)], [], h) Q := t_istore k_75_23 (Nat.le_of_ble_eq_true rfl)
theorem k_75_25 : lk 75 25 = some (.iload 4, 27, 4, 0, .null) := by decide +kernel
theorem x_75_25 : Tr sc d 75 (25, [l0, l1, l2, l3, some (.int x)], [], h) Q = Tr sc d 75 (27, [l0, l1, l2, l3, some (.int x)], [.int x], h) Q := t_iload k_75_25 rfl
theorem k_75_27 : lk 75 27 = some (.aload_n 0, 28, 0, 0, .null) := by decide +kernel
theorem x_75_27 : Tr sc d 75 (27, [some (.ref xk), l1, l2, l3, l4], [.int i0], h) Q = Tr sc d 75 (28, [some (.ref xk), l1, l2, l3, l4], [.ref xk, .int i0], h) Q := t_aload_n k_75_27 rfl
theorem k_75_28 : lk 75 28 = some (.getfield 39, 31, 7, 8, .int 0) := by decide +kernel
theorem x_75_28 : Tr sc d 75 (28, [l0, l1, l2, l3, l4], [.ref k1, .int i0], h) Q = (okp h k1 7 = true ∧ Tr sc d 75 (31, [l0, l1, l2, l3, l4], [.int (hI h k1 8), .int i0], h) Q) := t_gd k_75_28 rfl
theorem k_75_31 : lk 75 31 = some (.if_icmp .ge 36, 34, 67, 0, .null) := by decide +kernel
theorem x_75_31 : Tr sc d 75 (31, [l0, l1, l2, l3, l4], [.int i1, .int i0], h) Q = if i1 ≤ i0 then Tr sc d 75 (67, [l0, l1, l2, l3, l4], [], h) Q else Tr sc d 75 (34, [l0, l1, l2, l3, l4], [], h) Q := t_if k_75_31 rfl
theorem k_75_34 : lk 75 34 = some (.aload_n 0, 35, 0, 0, .null) := by decide +kernel
theorem x_75_34 : Tr sc d 75 (34, [some (.ref xk), l1, l2, l3, l4], [], h) Q = Tr sc d 75 (35, [some (.ref xk), l1, l2, l3, l4], [.ref xk], h) Q := t_aload_n k_75_34 rfl
theorem k_75_35 : lk 75 35 = some (.iload_n 2, 36, 2, 0, .null) := by decide +kernel
theorem x_75_35 : Tr sc d 75 (35, [l0, l1, some (.int x), l3, l4], [.ref k0], h) Q = Tr sc d 75 (36, [l0, l1, some (.int x), l3, l4], [.int x, .ref k0], h) Q := t_iload_n k_75_35 rfl
theorem k_75_36 : lk 75 36 = some (.aload_n 0, 37, 0, 0, .null) := by decide +kernel
theorem x_75_36 : Tr sc d 75 (36, [some (.ref xk), l1, l2, l3, l4], [.int i1, .ref k0], h) Q = Tr sc d 75 (37, [some (.ref xk), l1, l2, l3, l4], [.ref xk, .int i1, .ref k0], h) Q := t_aload_n k_75_36 rfl
theorem k_75_37 : lk 75 37 = some (.getfield 29, 40, 7, 5, .null) := by decide +kernel
theorem x_75_37 : Tr sc d 75 (37, [l0, l1, l2, l3, l4], [.ref k2, .int i1, .ref k0], h) Q = (okp h k2 7 = true ∧ ∃ q, hR h k2 5 = some q ∧ Tr sc d 75 (40, [l0, l1, l2, l3, l4], [.ref q, .int i1, .ref k0], h) Q) := t_getr k_75_37
theorem k_75_40 : lk 75 40 = some (.iload 4, 42, 4, 0, .null) := by decide +kernel
theorem x_75_40 : Tr sc d 75 (40, [l0, l1, l2, l3, some (.int x)], [.ref k2, .int i1, .ref k0], h) Q = Tr sc d 75 (42, [l0, l1, l2, l3, some (.int x)], [.int x, .ref k2, .int i1, .ref k0], h) Q := t_iload k_75_40 rfl
theorem k_75_42 : lk 75 42 = some (.iaload, 43, 0, 0, .null) := by decide +kernel
theorem x_75_42 : Tr sc d 75 (42, [l0, l1, l2, l3, l4], [.int i3, .ref k2, .int i1, .ref k0], h) Q = (iOk sc h k2 i3 ∧ Tr sc d 75 (43, [l0, l1, l2, l3, l4], [.int (iRd sc h k2 i3), .int i1, .ref k0], h) Q) := t_iald k_75_42
theorem k_75_43 : lk 75 43 = some (.iadd, 44, 0, 0, .null) := by decide +kernel
theorem x_75_43 : Tr sc d 75 (43, [l0, l1, l2, l3, l4], [.int i2, .int i1, .ref k0], h) Q = Tr sc d 75 (44, [l0, l1, l2, l3, l4], [.int (i1 + i2), .ref k0], h) Q := t_go k_75_43 rfl
theorem k_75_44 : lk 75 44 = some (.iload_n 3, 45, 3, 0, .null) := by decide +kernel
theorem x_75_44 : Tr sc d 75 (44, [l0, l1, l2, some (.int x), l4], [.int i1, .ref k0], h) Q = Tr sc d 75 (45, [l0, l1, l2, some (.int x), l4], [.int x, .int i1, .ref k0], h) Q := t_iload_n k_75_44 rfl
theorem k_75_45 : lk 75 45 = some (.aload_n 0, 46, 0, 0, .null) := by decide +kernel
theorem x_75_45 : Tr sc d 75 (45, [some (.ref xk), l1, l2, l3, l4], [.int i2, .int i1, .ref k0], h) Q = Tr sc d 75 (46, [some (.ref xk), l1, l2, l3, l4], [.ref xk, .int i2, .int i1, .ref k0], h) Q := t_aload_n k_75_45 rfl
theorem k_75_46 : lk 75 46 = some (.getfield 32, 49, 7, 6, .null) := by decide +kernel
theorem x_75_46 : Tr sc d 75 (46, [l0, l1, l2, l3, l4], [.ref k3, .int i2, .int i1, .ref k0], h) Q = (okp h k3 7 = true ∧ ∃ q, hR h k3 6 = some q ∧ Tr sc d 75 (49, [l0, l1, l2, l3, l4], [.ref q, .int i2, .int i1, .ref k0], h) Q) := t_getr k_75_46
theorem k_75_49 : lk 75 49 = some (.iload 4, 51, 4, 0, .null) := by decide +kernel
theorem x_75_49 : Tr sc d 75 (49, [l0, l1, l2, l3, some (.int x)], [.ref k3, .int i2, .int i1, .ref k0], h) Q = Tr sc d 75 (51, [l0, l1, l2, l3, some (.int x)], [.int x, .ref k3, .int i2, .int i1, .ref k0], h) Q := t_iload k_75_49 rfl
theorem k_75_51 : lk 75 51 = some (.iaload, 52, 0, 0, .null) := by decide +kernel
theorem x_75_51 : Tr sc d 75 (51, [l0, l1, l2, l3, l4], [.int i4, .ref k3, .int i2, .int i1, .ref k0], h) Q = (iOk sc h k3 i4 ∧ Tr sc d 75 (52, [l0, l1, l2, l3, l4], [.int (iRd sc h k3 i4), .int i2, .int i1, .ref k0], h) Q) := t_iald k_75_51
theorem k_75_52 : lk 75 52 = some (.iadd, 53, 0, 0, .null) := by decide +kernel
theorem x_75_52 : Tr sc d 75 (52, [l0, l1, l2, l3, l4], [.int i3, .int i2, .int i1, .ref k0], h) Q = Tr sc d 75 (53, [l0, l1, l2, l3, l4], [.int (i2 + i3), .int i1, .ref k0], h) Q := t_go k_75_52 rfl
theorem k_75_53 : lk 75 53 = some (.invokevirtual 84, 56, 78, 2, .null) := by decide +kernel
theorem x_75_53 : Tr sc (d + 1) 75 (53, [l0, l1, l2, l3, l4], [.int i2, .int i1, .ref k0], h) Q = (okp h k0 7 = true ∧ Tr sc d 78 (ent0 78 [.ref k0, .int i1, .int i2] h) (fun z => Tr sc (d + 1) 75 (56, [l0, l1, l2, l3, l4], z.1.toList ++ [], z.2) Q)) := t_cv (as := [.int i1, .int i2]) (r := []) k_75_53 rfl rfl (Nat.le_of_ble_eq_true rfl) (Nat.le_of_ble_eq_true rfl) (Nat.le_of_ble_eq_true rfl)
theorem k_75_56 : lk 75 56 = some (.ifCond .lt 5, 59, 61, 0, .null) := by decide +kernel
theorem x_75_56 : Tr sc d 75 (56, [l0, l1, l2, l3, l4], [.int i0], h) Q = if i0 < 0 then Tr sc d 75 (61, [l0, l1, l2, l3, l4], [], h) Q else Tr sc d 75 (59, [l0, l1, l2, l3, l4], [], h) Q := t_if k_75_56 rfl
theorem k_75_59 : lk 75 59 = some (.iconst 1, 60, 0, 0, .int 1) := by decide +kernel
theorem x_75_59 : Tr sc d 75 (59, [l0, l1, l2, l3, l4], [], h) Q = Tr sc d 75 (60, [l0, l1, l2, l3, l4], [.int 1], h) Q := t_go k_75_59 rfl
theorem k_75_60 : lk 75 60 = some (.ireturn, 61, 0, 0, .null) := by decide +kernel
theorem x_75_60 : Tr sc d 75 (60, [l0, l1, l2, l3, l4], [.int i0], h) Q = (vp_nar .boolean i0 = i0 ∧ Q (some (.int i0), h)) := t_zret k_75_60 r_75
theorem k_75_61 : lk 75 61 = some (.iinc 4 1, 64, 4, 0, .int 1) := by decide +kernel
theorem x_75_61 : Tr sc d 75 (61, [l0, l1, l2, l3, some (.int x)], [], h) Q = Tr sc d 75 (64, [l0, l1, l2, cl2 l3, some (.int (x + 1))], [], h) Q := t_inc k_75_61 rfl (Nat.le_of_ble_eq_true rfl)
theorem k_75_64 : lk 75 64 = some (.goto (-39), 67, 25, 0, .null) := by decide +kernel
theorem x_75_64 : Tr sc d 75 (64, [l0, l1, l2, l3, l4], [], h) Q = Tr sc d 75 (25, [l0, l1, l2, l3, l4], [], h) Q := t_go k_75_64 rfl
theorem k_75_67 : lk 75 67 = some (.iconst 0, 68, 0, 0, .int 0) := by decide +kernel
theorem x_75_67 : Tr sc d 75 (67, [l0, l1, l2, l3, l4], [], h) Q = Tr sc d 75 (68, [l0, l1, l2, l3, l4], [.int 0], h) Q := t_go k_75_67 rfl
theorem k_75_68 : lk 75 68 = some (.ireturn, 69, 0, 0, .null) := by decide +kernel
theorem x_75_68 : Tr sc d 75 (68, [l0, l1, l2, l3, l4], [.int i0], h) Q = (vp_nar .boolean i0 = i0 ∧ Q (some (.int i0), h)) := t_zret k_75_68 r_75
theorem e_75 : Tr sc d 75 (ent0 75 [.ref k0, .int i1] h) Q = Tr sc d 75 (0, [some (.ref k0), some (.int i1), none, none, none], [], h) Q := by
  have e : mL 75 = 5 := by decide +kernel
  unfold ent0
  rw [e]
  rfl
theorem r_76 : mR 76 = some .int := by decide +kernel
theorem k_76_0 : lk 76 0 = some (.iload_n 1, 1, 1, 0, .null) := by decide +kernel
theorem x_76_0 : Tr sc d 76 (0, [l0, some (.int x)], [], h) Q = Tr sc d 76 (1, [l0, some (.int x)], [.int x], h) Q := t_iload_n k_76_0 rfl
theorem k_76_1 : lk 76 1 = some (.aload_n 0, 2, 0, 0, .null) := by decide +kernel
theorem x_76_1 : Tr sc d 76 (1, [some (.ref xk), l1], [.int i0], h) Q = Tr sc d 76 (2, [some (.ref xk), l1], [.ref xk, .int i0], h) Q := t_aload_n k_76_1 rfl
theorem k_76_2 : lk 76 2 = some (.getfield 48, 5, 7, 11, .int 0) := by decide +kernel
theorem x_76_2 : Tr sc d 76 (2, [l0, l1], [.ref k1, .int i0], h) Q = (okp h k1 7 = true ∧ Tr sc d 76 (5, [l0, l1], [.int (hI h k1 11), .int i0], h) Q) := t_gd k_76_2 rfl
theorem k_76_5 : lk 76 5 = some (.idiv, 6, 0, 0, .null) := by decide +kernel
theorem x_76_5 : Tr sc d 76 (5, [l0, l1], [.int i1, .int i0], h) Q = (¬ i1 = 0 ∧ Tr sc d 76 (6, [l0, l1], [.int (i0 / i1)], h) Q) := t_ng k_76_5 rfl
theorem k_76_6 : lk 76 6 = some (.aload_n 0, 7, 0, 0, .null) := by decide +kernel
theorem x_76_6 : Tr sc d 76 (6, [some (.ref xk), l1], [.int i0], h) Q = Tr sc d 76 (7, [some (.ref xk), l1], [.ref xk, .int i0], h) Q := t_aload_n k_76_6 rfl
theorem k_76_7 : lk 76 7 = some (.getfield 45, 10, 7, 10, .int 0) := by decide +kernel
theorem x_76_7 : Tr sc d 76 (7, [l0, l1], [.ref k1, .int i0], h) Q = (okp h k1 7 = true ∧ Tr sc d 76 (10, [l0, l1], [.int (hI h k1 10), .int i0], h) Q) := t_gd k_76_7 rfl
theorem k_76_10 : lk 76 10 = some (.isub, 11, 0, 0, .null) := by decide +kernel
theorem x_76_10 : Tr sc d 76 (10, [l0, l1], [.int i1, .int i0], h) Q = Tr sc d 76 (11, [l0, l1], [.int (i0 - i1)], h) Q := t_go k_76_10 rfl
theorem k_76_11 : lk 76 11 = some (.ireturn, 12, 0, 0, .null) := by decide +kernel
theorem x_76_11 : Tr sc d 76 (11, [l0, l1], [.int i0], h) Q = Q (some (.int i0), h) := t_ret k_76_11 (by rw [r_76]; rfl)
theorem e_76 : Tr sc d 76 (ent0 76 [.ref k0, .int i1] h) Q = Tr sc d 76 (0, [some (.ref k0), some (.int i1)], [], h) Q := by
  have e : mL 76 = 2 := by decide +kernel
  unfold ent0
  rw [e]
  rfl
theorem r_77 : mR 77 = some .int := by decide +kernel
theorem k_77_0 : lk 77 0 = some (.iload_n 1, 1, 1, 0, .null) := by decide +kernel
theorem x_77_0 : Tr sc d 77 (0, [l0, some (.int x)], [], h) Q = Tr sc d 77 (1, [l0, some (.int x)], [.int x], h) Q := t_iload_n k_77_0 rfl
theorem k_77_1 : lk 77 1 = some (.aload_n 0, 2, 0, 0, .null) := by decide +kernel
theorem x_77_1 : Tr sc d 77 (1, [some (.ref xk), l1], [.int i0], h) Q = Tr sc d 77 (2, [some (.ref xk), l1], [.ref xk, .int i0], h) Q := t_aload_n k_77_1 rfl
theorem k_77_2 : lk 77 2 = some (.getfield 48, 5, 7, 11, .int 0) := by decide +kernel
theorem x_77_2 : Tr sc d 77 (2, [l0, l1], [.ref k1, .int i0], h) Q = (okp h k1 7 = true ∧ Tr sc d 77 (5, [l0, l1], [.int (hI h k1 11), .int i0], h) Q) := t_gd k_77_2 rfl
theorem k_77_5 : lk 77 5 = some (.irem, 6, 0, 0, .null) := by decide +kernel
theorem x_77_5 : Tr sc d 77 (5, [l0, l1], [.int i1, .int i0], h) Q = (¬ i1 = 0 ∧ Tr sc d 77 (6, [l0, l1], [.int (i0 - i0 / i1 * i1)], h) Q) := t_ng k_77_5 rfl
theorem k_77_6 : lk 77 6 = some (.aload_n 0, 7, 0, 0, .null) := by decide +kernel
theorem x_77_6 : Tr sc d 77 (6, [some (.ref xk), l1], [.int i0], h) Q = Tr sc d 77 (7, [some (.ref xk), l1], [.ref xk, .int i0], h) Q := t_aload_n k_77_6 rfl
theorem k_77_7 : lk 77 7 = some (.getfield 45, 10, 7, 10, .int 0) := by decide +kernel
theorem x_77_7 : Tr sc d 77 (7, [l0, l1], [.ref k1, .int i0], h) Q = (okp h k1 7 = true ∧ Tr sc d 77 (10, [l0, l1], [.int (hI h k1 10), .int i0], h) Q) := t_gd k_77_7 rfl
theorem k_77_10 : lk 77 10 = some (.isub, 11, 0, 0, .null) := by decide +kernel
theorem x_77_10 : Tr sc d 77 (10, [l0, l1], [.int i1, .int i0], h) Q = Tr sc d 77 (11, [l0, l1], [.int (i0 - i1)], h) Q := t_go k_77_10 rfl
theorem k_77_11 : lk 77 11 = some (.ireturn, 12, 0, 0, .null) := by decide +kernel
theorem x_77_11 : Tr sc d 77 (11, [l0, l1], [.int i0], h) Q = Q (some (.int i0), h) := t_ret k_77_11 (by rw [r_77]; rfl)
theorem e_77 : Tr sc d 77 (ent0 77 [.ref k0, .int i1] h) Q = Tr sc d 77 (0, [some (.ref k0), some (.int i1)], [], h) Q := by
  have e : mL 77 = 2 := by decide +kernel
  unfold ent0
  rw [e]
  rfl
theorem r_78 : mR 78 = some .int := by decide +kernel
theorem k_78_0 : lk 78 0 = some (.iload_n 1, 1, 1, 0, .null) := by decide +kernel
theorem x_78_0 : Tr sc d 78 (0, [l0, some (.int x), l2, l3], [], h) Q = Tr sc d 78 (1, [l0, some (.int x), l2, l3], [.int x], h) Q := t_iload_n k_78_0 rfl
theorem k_78_1 : lk 78 1 = some (.aload_n 0, 2, 0, 0, .null) := by decide +kernel
theorem x_78_1 : Tr sc d 78 (1, [some (.ref xk), l1, l2, l3], [.int i0], h) Q = Tr sc d 78 (2, [some (.ref xk), l1, l2, l3], [.ref xk, .int i0], h) Q := t_aload_n k_78_1 rfl
theorem k_78_2 : lk 78 2 = some (.getfield 45, 5, 7, 10, .int 0) := by decide +kernel
theorem x_78_2 : Tr sc d 78 (2, [l0, l1, l2, l3], [.ref k1, .int i0], h) Q = (okp h k1 7 = true ∧ Tr sc d 78 (5, [l0, l1, l2, l3], [.int (hI h k1 10), .int i0], h) Q) := t_gd k_78_2 rfl
theorem k_78_5 : lk 78 5 = some (.ineg, 6, 0, 0, .null) := by decide +kernel
theorem x_78_5 : Tr sc d 78 (5, [l0, l1, l2, l3], [.int i1, .int i0], h) Q = Tr sc d 78 (6, [l0, l1, l2, l3], [.int (-i1), .int i0], h) Q := t_go k_78_5 rfl
theorem k_78_6 : lk 78 6 = some (.if_icmp .lt 28, 9, 34, 0, .null) := by decide +kernel
theorem x_78_6 : Tr sc d 78 (6, [l0, l1, l2, l3], [.int i1, .int i0], h) Q = if i0 < i1 then Tr sc d 78 (34, [l0, l1, l2, l3], [], h) Q else Tr sc d 78 (9, [l0, l1, l2, l3], [], h) Q := t_if k_78_6 rfl
theorem k_78_9 : lk 78 9 = some (.iload_n 1, 10, 1, 0, .null) := by decide +kernel
theorem x_78_9 : Tr sc d 78 (9, [l0, some (.int x), l2, l3], [], h) Q = Tr sc d 78 (10, [l0, some (.int x), l2, l3], [.int x], h) Q := t_iload_n k_78_9 rfl
theorem k_78_10 : lk 78 10 = some (.aload_n 0, 11, 0, 0, .null) := by decide +kernel
theorem x_78_10 : Tr sc d 78 (10, [some (.ref xk), l1, l2, l3], [.int i0], h) Q = Tr sc d 78 (11, [some (.ref xk), l1, l2, l3], [.ref xk, .int i0], h) Q := t_aload_n k_78_10 rfl
theorem k_78_11 : lk 78 11 = some (.getfield 45, 14, 7, 10, .int 0) := by decide +kernel
theorem x_78_11 : Tr sc d 78 (11, [l0, l1, l2, l3], [.ref k1, .int i0], h) Q = (okp h k1 7 = true ∧ Tr sc d 78 (14, [l0, l1, l2, l3], [.int (hI h k1 10), .int i0], h) Q) := t_gd k_78_11 rfl
theorem k_78_14 : lk 78 14 = some (.if_icmp .gt 20, 17, 34, 0, .null) := by decide +kernel
theorem x_78_14 : Tr sc d 78 (14, [l0, l1, l2, l3], [.int i1, .int i0], h) Q = if i1 < i0 then Tr sc d 78 (34, [l0, l1, l2, l3], [], h) Q else Tr sc d 78 (17, [l0, l1, l2, l3], [], h) Q := t_if k_78_14 rfl
theorem k_78_17 : lk 78 17 = some (.iload_n 2, 18, 2, 0, .null) := by decide +kernel
theorem x_78_17 : Tr sc d 78 (17, [l0, l1, some (.int x), l3], [], h) Q = Tr sc d 78 (18, [l0, l1, some (.int x), l3], [.int x], h) Q := t_iload_n k_78_17 rfl
theorem k_78_18 : lk 78 18 = some (.aload_n 0, 19, 0, 0, .null) := by decide +kernel
theorem x_78_18 : Tr sc d 78 (18, [some (.ref xk), l1, l2, l3], [.int i0], h) Q = Tr sc d 78 (19, [some (.ref xk), l1, l2, l3], [.ref xk, .int i0], h) Q := t_aload_n k_78_18 rfl
theorem k_78_19 : lk 78 19 = some (.getfield 45, 22, 7, 10, .int 0) := by decide +kernel
theorem x_78_19 : Tr sc d 78 (19, [l0, l1, l2, l3], [.ref k1, .int i0], h) Q = (okp h k1 7 = true ∧ Tr sc d 78 (22, [l0, l1, l2, l3], [.int (hI h k1 10), .int i0], h) Q) := t_gd k_78_19 rfl
theorem k_78_22 : lk 78 22 = some (.ineg, 23, 0, 0, .null) := by decide +kernel
theorem x_78_22 : Tr sc d 78 (22, [l0, l1, l2, l3], [.int i1, .int i0], h) Q = Tr sc d 78 (23, [l0, l1, l2, l3], [.int (-i1), .int i0], h) Q := t_go k_78_22 rfl
theorem k_78_23 : lk 78 23 = some (.if_icmp .lt 11, 26, 34, 0, .null) := by decide +kernel
theorem x_78_23 : Tr sc d 78 (23, [l0, l1, l2, l3], [.int i1, .int i0], h) Q = if i0 < i1 then Tr sc d 78 (34, [l0, l1, l2, l3], [], h) Q else Tr sc d 78 (26, [l0, l1, l2, l3], [], h) Q := t_if k_78_23 rfl
theorem k_78_26 : lk 78 26 = some (.iload_n 2, 27, 2, 0, .null) := by decide +kernel
theorem x_78_26 : Tr sc d 78 (26, [l0, l1, some (.int x), l3], [], h) Q = Tr sc d 78 (27, [l0, l1, some (.int x), l3], [.int x], h) Q := t_iload_n k_78_26 rfl
theorem k_78_27 : lk 78 27 = some (.aload_n 0, 28, 0, 0, .null) := by decide +kernel
theorem x_78_27 : Tr sc d 78 (27, [some (.ref xk), l1, l2, l3], [.int i0], h) Q = Tr sc d 78 (28, [some (.ref xk), l1, l2, l3], [.ref xk, .int i0], h) Q := t_aload_n k_78_27 rfl
theorem k_78_28 : lk 78 28 = some (.getfield 45, 31, 7, 10, .int 0) := by decide +kernel
theorem x_78_28 : Tr sc d 78 (28, [l0, l1, l2, l3], [.ref k1, .int i0], h) Q = (okp h k1 7 = true ∧ Tr sc d 78 (31, [l0, l1, l2, l3], [.int (hI h k1 10), .int i0], h) Q) := t_gd k_78_28 rfl
theorem k_78_31 : lk 78 31 = some (.if_icmp .le 5, 34, 36, 0, .null) := by decide +kernel
theorem x_78_31 : Tr sc d 78 (31, [l0, l1, l2, l3], [.int i1, .int i0], h) Q = if i0 ≤ i1 then Tr sc d 78 (36, [l0, l1, l2, l3], [], h) Q else Tr sc d 78 (34, [l0, l1, l2, l3], [], h) Q := t_if k_78_31 rfl
theorem k_78_34 : lk 78 34 = some (.iconst (-1), 35, 0, 0, .int (-1)) := by decide +kernel
theorem x_78_34 : Tr sc d 78 (34, [l0, l1, l2, l3], [], h) Q = Tr sc d 78 (35, [l0, l1, l2, l3], [.int (-1)], h) Q := t_go k_78_34 rfl
theorem k_78_35 : lk 78 35 = some (.ireturn, 36, 0, 0, .null) := by decide +kernel
theorem x_78_35 : Tr sc d 78 (35, [l0, l1, l2, l3], [.int i0], h) Q = Q (some (.int i0), h) := t_ret k_78_35 (by rw [r_78]; rfl)
theorem k_78_36 : lk 78 36 = some (.iload_n 1, 37, 1, 0, .null) := by decide +kernel
theorem x_78_36 : Tr sc d 78 (36, [l0, some (.int x), l2, l3], [], h) Q = Tr sc d 78 (37, [l0, some (.int x), l2, l3], [.int x], h) Q := t_iload_n k_78_36 rfl
theorem k_78_37 : lk 78 37 = some (.aload_n 0, 38, 0, 0, .null) := by decide +kernel
theorem x_78_37 : Tr sc d 78 (37, [some (.ref xk), l1, l2, l3], [.int i0], h) Q = Tr sc d 78 (38, [some (.ref xk), l1, l2, l3], [.ref xk, .int i0], h) Q := t_aload_n k_78_37 rfl
theorem k_78_38 : lk 78 38 = some (.getfield 45, 41, 7, 10, .int 0) := by decide +kernel
theorem x_78_38 : Tr sc d 78 (38, [l0, l1, l2, l3], [.ref k1, .int i0], h) Q = (okp h k1 7 = true ∧ Tr sc d 78 (41, [l0, l1, l2, l3], [.int (hI h k1 10), .int i0], h) Q) := t_gd k_78_38 rfl
theorem k_78_41 : lk 78 41 = some (.iadd, 42, 0, 0, .null) := by decide +kernel
theorem x_78_41 : Tr sc d 78 (41, [l0, l1, l2, l3], [.int i1, .int i0], h) Q = Tr sc d 78 (42, [l0, l1, l2, l3], [.int (i0 + i1)], h) Q := t_go k_78_41 rfl
theorem k_78_42 : lk 78 42 = some (.aload_n 0, 43, 0, 0, .null) := by decide +kernel
theorem x_78_42 : Tr sc d 78 (42, [some (.ref xk), l1, l2, l3], [.int i0], h) Q = Tr sc d 78 (43, [some (.ref xk), l1, l2, l3], [.ref xk, .int i0], h) Q := t_aload_n k_78_42 rfl
theorem k_78_43 : lk 78 43 = some (.getfield 48, 46, 7, 11, .int 0) := by decide +kernel
theorem x_78_43 : Tr sc d 78 (43, [l0, l1, l2, l3], [.ref k1, .int i0], h) Q = (okp h k1 7 = true ∧ Tr sc d 78 (46, [l0, l1, l2, l3], [.int (hI h k1 11), .int i0], h) Q) := t_gd k_78_43 rfl
theorem k_78_46 : lk 78 46 = some (.imul, 47, 0, 0, .null) := by decide +kernel
theorem x_78_46 : Tr sc d 78 (46, [l0, l1, l2, l3], [.int i1, .int i0], h) Q = Tr sc d 78 (47, [l0, l1, l2, l3], [.int (i0 * i1)], h) Q := t_go k_78_46 rfl
theorem k_78_47 : lk 78 47 = some (.iload_n 2, 48, 2, 0, .null) := by decide +kernel
theorem x_78_47 : Tr sc d 78 (47, [l0, l1, some (.int x), l3], [.int i0], h) Q = Tr sc d 78 (48, [l0, l1, some (.int x), l3], [.int x, .int i0], h) Q := t_iload_n k_78_47 rfl
theorem k_78_48 : lk 78 48 = some (.iadd, 49, 0, 0, .null) := by decide +kernel
theorem x_78_48 : Tr sc d 78 (48, [l0, l1, l2, l3], [.int i1, .int i0], h) Q = Tr sc d 78 (49, [l0, l1, l2, l3], [.int (i0 + i1)], h) Q := t_go k_78_48 rfl
theorem k_78_49 : lk 78 49 = some (.aload_n 0, 50, 0, 0, .null) := by decide +kernel
theorem x_78_49 : Tr sc d 78 (49, [some (.ref xk), l1, l2, l3], [.int i0], h) Q = Tr sc d 78 (50, [some (.ref xk), l1, l2, l3], [.ref xk, .int i0], h) Q := t_aload_n k_78_49 rfl
theorem k_78_50 : lk 78 50 = some (.getfield 45, 53, 7, 10, .int 0) := by decide +kernel
theorem x_78_50 : Tr sc d 78 (50, [l0, l1, l2, l3], [.ref k1, .int i0], h) Q = (okp h k1 7 = true ∧ Tr sc d 78 (53, [l0, l1, l2, l3], [.int (hI h k1 10), .int i0], h) Q) := t_gd k_78_50 rfl
theorem k_78_53 : lk 78 53 = some (.iadd, 54, 0, 0, .null) := by decide +kernel
theorem x_78_53 : Tr sc d 78 (53, [l0, l1, l2, l3], [.int i1, .int i0], h) Q = Tr sc d 78 (54, [l0, l1, l2, l3], [.int (i0 + i1)], h) Q := t_go k_78_53 rfl
theorem k_78_54 : lk 78 54 = some (.istore_n 3, 55, 3, 0, .null) := by decide +kernel
theorem x_78_54 : Tr sc d 78 (54, [l0, l1, l2, l3], [.int i0], h) Q = Tr sc d 78 (55, [l0, l1, cl2 l2, some (.int i0)], [], h) Q := t_istore_n k_78_54 (Nat.le_of_ble_eq_true rfl)
theorem k_78_55 : lk 78 55 = some (.aload_n 0, 56, 0, 0, .null) := by decide +kernel
theorem x_78_55 : Tr sc d 78 (55, [some (.ref xk), l1, l2, l3], [], h) Q = Tr sc d 78 (56, [some (.ref xk), l1, l2, l3], [.ref xk], h) Q := t_aload_n k_78_55 rfl
theorem k_78_56 : lk 78 56 = some (.getfield 11, 59, 7, 0, .null) := by decide +kernel
theorem x_78_56 : Tr sc d 78 (56, [l0, l1, l2, l3], [.ref k0], h) Q = (okp h k0 7 = true ∧ ∃ q, hR h k0 0 = some q ∧ Tr sc d 78 (59, [l0, l1, l2, l3], [.ref q], h) Q) := t_getr k_78_56
theorem k_78_59 : lk 78 59 = some (.iload_n 3, 60, 3, 0, .null) := by decide +kernel
theorem x_78_59 : Tr sc d 78 (59, [l0, l1, l2, some (.int x)], [.ref k0], h) Q = Tr sc d 78 (60, [l0, l1, l2, some (.int x)], [.int x, .ref k0], h) Q := t_iload_n k_78_59 rfl
theorem k_78_60 : lk 78 60 = some (.baload, 61, 0, 0, .null) := by decide +kernel
theorem x_78_60 : Tr sc d 78 (60, [l0, l1, l2, l3], [.int i1, .ref k0], h) Q = ((okp h k0 13 && inb i1 (LN k0)) = true ∧ Tr sc d 78 (61, [l0, l1, l2, l3], [.int (hI h k0 i1.toNatClampNeg)], h) Q) := t_gd k_78_60 rfl
theorem k_78_61 : lk 78 61 = some (.ifCond .eq 7, 64, 68, 0, .null) := by decide +kernel
theorem x_78_61 : Tr sc d 78 (61, [l0, l1, l2, l3], [.int i0], h) Q = if i0 = 0 then Tr sc d 78 (68, [l0, l1, l2, l3], [], h) Q else Tr sc d 78 (64, [l0, l1, l2, l3], [], h) Q := t_if k_78_61 rfl
theorem k_78_64 : lk 78 64 = some (.iload_n 3, 65, 3, 0, .null) := by decide +kernel
theorem x_78_64 : Tr sc d 78 (64, [l0, l1, l2, some (.int x)], [], h) Q = Tr sc d 78 (65, [l0, l1, l2, some (.int x)], [.int x], h) Q := t_iload_n k_78_64 rfl
theorem k_78_65 : lk 78 65 = some (.goto 4, 68, 69, 0, .null) := by decide +kernel
theorem x_78_65 : Tr sc d 78 (65, [l0, l1, l2, l3], [.int i0], h) Q = Tr sc d 78 (69, [l0, l1, l2, l3], [.int i0], h) Q := t_go k_78_65 rfl
theorem k_78_68 : lk 78 68 = some (.iconst (-1), 69, 0, 0, .int (-1)) := by decide +kernel
theorem x_78_68 : Tr sc d 78 (68, [l0, l1, l2, l3], [], h) Q = Tr sc d 78 (69, [l0, l1, l2, l3], [.int (-1)], h) Q := t_go k_78_68 rfl
theorem k_78_69 : lk 78 69 = some (.ireturn, 70, 0, 0, .null) := by decide +kernel
theorem x_78_69 : Tr sc d 78 (69, [l0, l1, l2, l3], [.int i0], h) Q = Q (some (.int i0), h) := t_ret k_78_69 (by rw [r_78]; rfl)
theorem e_78 : Tr sc d 78 (ent0 78 [.ref k0, .int i1, .int i2] h) Q = Tr sc d 78 (0, [some (.ref k0), some (.int i1), some (.int i2), none], [], h) Q := by
  have e : mL 78 = 4 := by decide +kernel
  unfold ent0
  rw [e]
  rfl
theorem r_79 : mR 79 = some .int := by decide +kernel
theorem k_79_0 : lk 79 0 = some (.iconst 0, 1, 0, 0, .int 0) := by decide +kernel
theorem x_79_0 : Tr sc d 79 (0, [l0, l1, l2], [], h) Q = Tr sc d 79 (1, [l0, l1, l2], [.int 0], h) Q := t_go k_79_0 rfl
theorem k_79_1 : lk 79 1 = some (.istore_n 1, 2, 1, 0, .null) := by decide +kernel
theorem x_79_1 : Tr sc d 79 (1, [l0, l1, l2], [.int i0], h) Q = Tr sc d 79 (2, [cl2 l0, some (.int i0), l2], [], h) Q := t_istore_n k_79_1 (Nat.le_of_ble_eq_true rfl)
theorem k_79_2 : lk 79 2 = some (.iconst 0, 3, 0, 0, .int 0) := by decide +kernel
theorem x_79_2 : Tr sc d 79 (2, [l0, l1, l2], [], h) Q = Tr sc d 79 (3, [l0, l1, l2], [.int 0], h) Q := t_go k_79_2 rfl
theorem k_79_3 : lk 79 3 = some (.istore_n 2, 4, 2, 0, .null) := by decide +kernel
theorem x_79_3 : Tr sc d 79 (3, [l0, l1, l2], [.int i0], h) Q = Tr sc d 79 (4, [l0, cl2 l1, some (.int i0)], [], h) Q := t_istore_n k_79_3 (Nat.le_of_ble_eq_true rfl)
theorem k_79_4 : lk 79 4 = some (.iload_n 2, 5, 2, 0, .null) := by decide +kernel
theorem x_79_4 : Tr sc d 79 (4, [l0, l1, some (.int x)], [], h) Q = Tr sc d 79 (5, [l0, l1, some (.int x)], [.int x], h) Q := t_iload_n k_79_4 rfl
theorem k_79_5 : lk 79 5 = some (.aload_n 0, 6, 0, 0, .null) := by decide +kernel
theorem x_79_5 : Tr sc d 79 (5, [some (.ref xk), l1, l2], [.int i0], h) Q = Tr sc d 79 (6, [some (.ref xk), l1, l2], [.ref xk, .int i0], h) Q := t_aload_n k_79_5 rfl
theorem k_79_6 : lk 79 6 = some (.getfield 51, 9, 7, 12, .int 0) := by decide +kernel
theorem x_79_6 : Tr sc d 79 (6, [l0, l1, l2], [.ref k1, .int i0], h) Q = (okp h k1 7 = true ∧ Tr sc d 79 (9, [l0, l1, l2], [.int (hI h k1 12), .int i0], h) Q) := t_gd k_79_6 rfl
theorem k_79_9 : lk 79 9 = some (.if_icmp .ge 21, 12, 30, 0, .null) := by decide +kernel
theorem x_79_9 : Tr sc d 79 (9, [l0, l1, l2], [.int i1, .int i0], h) Q = if i1 ≤ i0 then Tr sc d 79 (30, [l0, l1, l2], [], h) Q else Tr sc d 79 (12, [l0, l1, l2], [], h) Q := t_if k_79_9 rfl
theorem k_79_12 : lk 79 12 = some (.aload_n 0, 13, 0, 0, .null) := by decide +kernel
theorem x_79_12 : Tr sc d 79 (12, [some (.ref xk), l1, l2], [], h) Q = Tr sc d 79 (13, [some (.ref xk), l1, l2], [.ref xk], h) Q := t_aload_n k_79_12 rfl
theorem k_79_13 : lk 79 13 = some (.getfield 11, 16, 7, 0, .null) := by decide +kernel
theorem x_79_13 : Tr sc d 79 (13, [l0, l1, l2], [.ref k0], h) Q = (okp h k0 7 = true ∧ ∃ q, hR h k0 0 = some q ∧ Tr sc d 79 (16, [l0, l1, l2], [.ref q], h) Q) := t_getr k_79_13
theorem k_79_16 : lk 79 16 = some (.iload_n 2, 17, 2, 0, .null) := by decide +kernel
theorem x_79_16 : Tr sc d 79 (16, [l0, l1, some (.int x)], [.ref k0], h) Q = Tr sc d 79 (17, [l0, l1, some (.int x)], [.int x, .ref k0], h) Q := t_iload_n k_79_16 rfl
theorem k_79_17 : lk 79 17 = some (.baload, 18, 0, 0, .null) := by decide +kernel
theorem x_79_17 : Tr sc d 79 (17, [l0, l1, l2], [.int i1, .ref k0], h) Q = ((okp h k0 13 && inb i1 (LN k0)) = true ∧ Tr sc d 79 (18, [l0, l1, l2], [.int (hI h k0 i1.toNatClampNeg)], h) Q) := t_gd k_79_17 rfl
theorem k_79_18 : lk 79 18 = some (.ifCond .eq 6, 21, 24, 0, .null) := by decide +kernel
theorem x_79_18 : Tr sc d 79 (18, [l0, l1, l2], [.int i0], h) Q = if i0 = 0 then Tr sc d 79 (24, [l0, l1, l2], [], h) Q else Tr sc d 79 (21, [l0, l1, l2], [], h) Q := t_if k_79_18 rfl
theorem k_79_21 : lk 79 21 = some (.iinc 1 1, 24, 1, 0, .int 1) := by decide +kernel
theorem x_79_21 : Tr sc d 79 (21, [l0, some (.int x), l2], [], h) Q = Tr sc d 79 (24, [cl2 l0, some (.int (x + 1)), l2], [], h) Q := t_inc k_79_21 rfl (Nat.le_of_ble_eq_true rfl)
theorem k_79_24 : lk 79 24 = some (.iinc 2 1, 27, 2, 0, .int 1) := by decide +kernel
theorem x_79_24 : Tr sc d 79 (24, [l0, l1, some (.int x)], [], h) Q = Tr sc d 79 (27, [l0, cl2 l1, some (.int (x + 1))], [], h) Q := t_inc k_79_24 rfl (Nat.le_of_ble_eq_true rfl)
theorem k_79_27 : lk 79 27 = some (.goto (-23), 30, 4, 0, .null) := by decide +kernel
theorem x_79_27 : Tr sc d 79 (27, [l0, l1, l2], [], h) Q = Tr sc d 79 (4, [l0, l1, l2], [], h) Q := t_go k_79_27 rfl
theorem k_79_30 : lk 79 30 = some (.iload_n 1, 31, 1, 0, .null) := by decide +kernel
theorem x_79_30 : Tr sc d 79 (30, [l0, some (.int x), l2], [], h) Q = Tr sc d 79 (31, [l0, some (.int x), l2], [.int x], h) Q := t_iload_n k_79_30 rfl
theorem k_79_31 : lk 79 31 = some (.ireturn, 32, 0, 0, .null) := by decide +kernel
theorem x_79_31 : Tr sc d 79 (31, [l0, l1, l2], [.int i0], h) Q = Q (some (.int i0), h) := t_ret k_79_31 (by rw [r_79]; rfl)
theorem e_79 : Tr sc d 79 (ent0 79 [.ref k0] h) Q = Tr sc d 79 (0, [some (.ref k0), none, none], [], h) Q := by
  have e : mL 79 = 3 := by decide +kernel
  unfold ent0
  rw [e]
  rfl
theorem r_80 : mR 80 = some .int := by decide +kernel
theorem k_80_0 : lk 80 0 = some (.iconst 0, 1, 0, 0, .int 0) := by decide +kernel
theorem x_80_0 : Tr sc d 80 (0, [l0, l1, l2, l3, l4, l5, l6], [], h) Q = Tr sc d 80 (1, [l0, l1, l2, l3, l4, l5, l6], [.int 0], h) Q := t_go k_80_0 rfl
theorem k_80_1 : lk 80 1 = some (.istore_n 3, 2, 3, 0, .null) := by decide +kernel
theorem x_80_1 : Tr sc d 80 (1, [l0, l1, l2, l3, l4, l5, l6], [.int i0], h) Q = Tr sc d 80 (2, [l0, l1, cl2 l2, some (.int i0), l4, l5, l6], [], h) Q := t_istore_n k_80_1 (Nat.le_of_ble_eq_true rfl)
theorem k_80_2 : lk 80 2 = some (.iconst 0, 3, 0, 0, .int 0) := by decide +kernel
theorem x_80_2 : Tr sc d 80 (2, [l0, l1, l2, l3, l4, l5, l6], [], h) Q = Tr sc d 80 (3, [l0, l1, l2, l3, l4, l5, l6], [.int 0], h) Q := t_go k_80_2 rfl
theorem k_80_3 : lk 80 3 = some (.istore 4, 5, 4, 0, .null) := by decide +kernel
theorem x_80_3 : Tr sc d 80 (3, [l0, l1, l2, l3, l4, l5, l6], [.int i0], h) Q = Tr sc d 80 (5, [l0, l1, l2, cl2 l3, some (.int i0), l5, l6], [], h) Q := t_istore k_80_3 (Nat.le_of_ble_eq_true rfl)
theorem k_80_5 : lk 80 5 = some (.iload 4, 7, 4, 0, .null) := by decide +kernel
theorem x_80_5 : Tr sc d 80 (5, [l0, l1, l2, l3, some (.int x), l5, l6], [], h) Q = Tr sc d 80 (7, [l0, l1, l2, l3, some (.int x), l5, l6], [.int x], h) Q := t_iload k_80_5 rfl
theorem k_80_7 : lk 80 7 = some (.aload_n 1, 8, 1, 0, .null) := by decide +kernel
theorem x_80_7 : Tr sc d 80 (7, [l0, some (.ref xk), l2, l3, l4, l5, l6], [.int i0], h) Q = Tr sc d 80 (8, [l0, some (.ref xk), l2, l3, l4, l5, l6], [.ref xk, .int i0], h) Q := t_aload_n k_80_7 rfl
theorem k_80_8 : lk 80 8 = some (.getfield 60, 11, 6, 8, .int 0) := by decide +kernel
theorem x_80_8 : Tr sc d 80 (8, [l0, l1, l2, l3, l4, l5, l6], [.ref k1, .int i0], h) Q = (okp h k1 6 = true ∧ Tr sc d 80 (11, [l0, l1, l2, l3, l4, l5, l6], [.int (hI h k1 8), .int i0], h) Q) := t_gd k_80_8 rfl
theorem k_80_11 : lk 80 11 = some (.if_icmp .ge 65, 14, 76, 0, .null) := by decide +kernel
theorem x_80_11 : Tr sc d 80 (11, [l0, l1, l2, l3, l4, l5, l6], [.int i1, .int i0], h) Q = if i1 ≤ i0 then Tr sc d 80 (76, [l0, l1, l2, l3, l4, l5, l6], [], h) Q else Tr sc d 80 (14, [l0, l1, l2, l3, l4, l5, l6], [], h) Q := t_if k_80_11 rfl
theorem k_80_14 : lk 80 14 = some (.aload_n 1, 15, 1, 0, .null) := by decide +kernel
theorem x_80_14 : Tr sc d 80 (14, [l0, some (.ref xk), l2, l3, l4, l5, l6], [], h) Q = Tr sc d 80 (15, [l0, some (.ref xk), l2, l3, l4, l5, l6], [.ref xk], h) Q := t_aload_n k_80_14 rfl
theorem k_80_15 : lk 80 15 = some (.getfield 63, 18, 6, 1, .null) := by decide +kernel
theorem x_80_15 : Tr sc d 80 (15, [l0, l1, l2, l3, l4, l5, l6], [.ref k0], h) Q = (okp h k0 6 = true ∧ ∃ q, hR h k0 1 = some q ∧ Tr sc d 80 (18, [l0, l1, l2, l3, l4, l5, l6], [.ref q], h) Q) := t_getr k_80_15
theorem k_80_18 : lk 80 18 = some (.iload 4, 20, 4, 0, .null) := by decide +kernel
theorem x_80_18 : Tr sc d 80 (18, [l0, l1, l2, l3, some (.int x), l5, l6], [.ref k0], h) Q = Tr sc d 80 (20, [l0, l1, l2, l3, some (.int x), l5, l6], [.int x, .ref k0], h) Q := t_iload k_80_18 rfl
theorem k_80_20 : lk 80 20 = some (.iaload, 21, 0, 0, .null) := by decide +kernel
theorem x_80_20 : Tr sc d 80 (20, [l0, l1, l2, l3, l4, l5, l6], [.int i1, .ref k0], h) Q = (iOk sc h k0 i1 ∧ Tr sc d 80 (21, [l0, l1, l2, l3, l4, l5, l6], [.int (iRd sc h k0 i1)], h) Q) := t_iald k_80_20
theorem k_80_21 : lk 80 21 = some (.aload_n 1, 22, 1, 0, .null) := by decide +kernel
theorem x_80_21 : Tr sc d 80 (21, [l0, some (.ref xk), l2, l3, l4, l5, l6], [.int i0], h) Q = Tr sc d 80 (22, [l0, some (.ref xk), l2, l3, l4, l5, l6], [.ref xk, .int i0], h) Q := t_aload_n k_80_21 rfl
theorem k_80_22 : lk 80 22 = some (.getfield 63, 25, 6, 1, .null) := by decide +kernel
theorem x_80_22 : Tr sc d 80 (22, [l0, l1, l2, l3, l4, l5, l6], [.ref k1, .int i0], h) Q = (okp h k1 6 = true ∧ ∃ q, hR h k1 1 = some q ∧ Tr sc d 80 (25, [l0, l1, l2, l3, l4, l5, l6], [.ref q, .int i0], h) Q) := t_getr k_80_22
theorem k_80_25 : lk 80 25 = some (.iload_n 2, 26, 2, 0, .null) := by decide +kernel
theorem x_80_25 : Tr sc d 80 (25, [l0, l1, some (.int x), l3, l4, l5, l6], [.ref k1, .int i0], h) Q = Tr sc d 80 (26, [l0, l1, some (.int x), l3, l4, l5, l6], [.int x, .ref k1, .int i0], h) Q := t_iload_n k_80_25 rfl
theorem k_80_26 : lk 80 26 = some (.iaload, 27, 0, 0, .null) := by decide +kernel
theorem x_80_26 : Tr sc d 80 (26, [l0, l1, l2, l3, l4, l5, l6], [.int i2, .ref k1, .int i0], h) Q = (iOk sc h k1 i2 ∧ Tr sc d 80 (27, [l0, l1, l2, l3, l4, l5, l6], [.int (iRd sc h k1 i2), .int i0], h) Q) := t_iald k_80_26
theorem k_80_27 : lk 80 27 = some (.isub, 28, 0, 0, .null) := by decide +kernel
theorem x_80_27 : Tr sc d 80 (27, [l0, l1, l2, l3, l4, l5, l6], [.int i1, .int i0], h) Q = Tr sc d 80 (28, [l0, l1, l2, l3, l4, l5, l6], [.int (i0 - i1)], h) Q := t_go k_80_27 rfl
theorem k_80_28 : lk 80 28 = some (.istore 5, 30, 5, 0, .null) := by decide +kernel
theorem x_80_28 : Tr sc d 80 (28, [l0, l1, l2, l3, l4, l5, l6], [.int i0], h) Q = Tr sc d 80 (30, [l0, l1, l2, l3, cl2 l4, some (.int i0), l6], [], h) Q := t_istore k_80_28 (Nat.le_of_ble_eq_true rfl)
theorem k_80_30 : lk 80 30 = some (.aload_n 1, 31, 1, 0, .null) := by decide +kernel
theorem x_80_30 : Tr sc d 80 (30, [l0, some (.ref xk), l2, l3, l4, l5, l6], [], h) Q = Tr sc d 80 (31, [l0, some (.ref xk), l2, l3, l4, l5, l6], [.ref xk], h) Q := t_aload_n k_80_30 rfl
theorem k_80_31 : lk 80 31 = some (.getfield 66, 34, 6, 2, .null) := by decide +kernel
theorem x_80_31 : Tr sc d 80 (31, [l0, l1, l2, l3, l4, l5, l6], [.ref k0], h) Q = (okp h k0 6 = true ∧ ∃ q, hR h k0 2 = some q ∧ Tr sc d 80 (34, [l0, l1, l2, l3, l4, l5, l6], [.ref q], h) Q) := t_getr k_80_31
theorem k_80_34 : lk 80 34 = some (.iload 4, 36, 4, 0, .null) := by decide +kernel
theorem x_80_34 : Tr sc d 80 (34, [l0, l1, l2, l3, some (.int x), l5, l6], [.ref k0], h) Q = Tr sc d 80 (36, [l0, l1, l2, l3, some (.int x), l5, l6], [.int x, .ref k0], h) Q := t_iload k_80_34 rfl
theorem k_80_36 : lk 80 36 = some (.iaload, 37, 0, 0, .null) := by decide +kernel
theorem x_80_36 : Tr sc d 80 (36, [l0, l1, l2, l3, l4, l5, l6], [.int i1, .ref k0], h) Q = (iOk sc h k0 i1 ∧ Tr sc d 80 (37, [l0, l1, l2, l3, l4, l5, l6], [.int (iRd sc h k0 i1)], h) Q) := t_iald k_80_36
theorem k_80_37 : lk 80 37 = some (.aload_n 1, 38, 1, 0, .null) := by decide +kernel
theorem x_80_37 : Tr sc d 80 (37, [l0, some (.ref xk), l2, l3, l4, l5, l6], [.int i0], h) Q = Tr sc d 80 (38, [l0, some (.ref xk), l2, l3, l4, l5, l6], [.ref xk, .int i0], h) Q := t_aload_n k_80_37 rfl
theorem k_80_38 : lk 80 38 = some (.getfield 66, 41, 6, 2, .null) := by decide +kernel
theorem x_80_38 : Tr sc d 80 (38, [l0, l1, l2, l3, l4, l5, l6], [.ref k1, .int i0], h) Q = (okp h k1 6 = true ∧ ∃ q, hR h k1 2 = some q ∧ Tr sc d 80 (41, [l0, l1, l2, l3, l4, l5, l6], [.ref q, .int i0], h) Q) := t_getr k_80_38
theorem k_80_41 : lk 80 41 = some (.iload_n 2, 42, 2, 0, .null) := by decide +kernel
theorem x_80_41 : Tr sc d 80 (41, [l0, l1, some (.int x), l3, l4, l5, l6], [.ref k1, .int i0], h) Q = Tr sc d 80 (42, [l0, l1, some (.int x), l3, l4, l5, l6], [.int x, .ref k1, .int i0], h) Q := t_iload_n k_80_41 rfl
theorem k_80_42 : lk 80 42 = some (.iaload, 43, 0, 0, .null) := by decide +kernel
theorem x_80_42 : Tr sc d 80 (42, [l0, l1, l2, l3, l4, l5, l6], [.int i2, .ref k1, .int i0], h) Q = (iOk sc h k1 i2 ∧ Tr sc d 80 (43, [l0, l1, l2, l3, l4, l5, l6], [.int (iRd sc h k1 i2), .int i0], h) Q) := t_iald k_80_42
theorem k_80_43 : lk 80 43 = some (.isub, 44, 0, 0, .null) := by decide +kernel
theorem x_80_43 : Tr sc d 80 (43, [l0, l1, l2, l3, l4, l5, l6], [.int i1, .int i0], h) Q = Tr sc d 80 (44, [l0, l1, l2, l3, l4, l5, l6], [.int (i0 - i1)], h) Q := t_go k_80_43 rfl
theorem k_80_44 : lk 80 44 = some (.istore 6, 46, 6, 0, .null) := by decide +kernel
theorem x_80_44 : Tr sc d 80 (44, [l0, l1, l2, l3, l4, l5, l6], [.int i0], h) Q = Tr sc d 80 (46, [l0, l1, l2, l3, l4, cl2 l5, some (.int i0)], [], h) Q := t_istore k_80_44 (Nat.le_of_ble_eq_true rfl)
theorem k_80_46 : lk 80 46 = some (.iload 4, 48, 4, 0, .null) := by decide +kernel
theorem x_80_46 : Tr sc d 80 (46, [l0, l1, l2, l3, some (.int x), l5, l6], [], h) Q = Tr sc d 80 (48, [l0, l1, l2, l3, some (.int x), l5, l6], [.int x], h) Q := t_iload k_80_46 rfl
theorem k_80_48 : lk 80 48 = some (.iload_n 2, 49, 2, 0, .null) := by decide +kernel
theorem x_80_48 : Tr sc d 80 (48, [l0, l1, some (.int x), l3, l4, l5, l6], [.int i0], h) Q = Tr sc d 80 (49, [l0, l1, some (.int x), l3, l4, l5, l6], [.int x, .int i0], h) Q := t_iload_n k_80_48 rfl
theorem k_80_49 : lk 80 49 = some (.if_icmp .eq 21, 52, 70, 0, .null) := by decide +kernel
theorem x_80_49 : Tr sc d 80 (49, [l0, l1, l2, l3, l4, l5, l6], [.int i1, .int i0], h) Q = if i0 = i1 then Tr sc d 80 (70, [l0, l1, l2, l3, l4, l5, l6], [], h) Q else Tr sc d 80 (52, [l0, l1, l2, l3, l4, l5, l6], [], h) Q := t_if k_80_49 rfl
theorem k_80_52 : lk 80 52 = some (.aload_n 0, 53, 0, 0, .null) := by decide +kernel
theorem x_80_52 : Tr sc d 80 (52, [some (.ref xk), l1, l2, l3, l4, l5, l6], [], h) Q = Tr sc d 80 (53, [some (.ref xk), l1, l2, l3, l4, l5, l6], [.ref xk], h) Q := t_aload_n k_80_52 rfl
theorem k_80_53 : lk 80 53 = some (.iload 5, 55, 5, 0, .null) := by decide +kernel
theorem x_80_53 : Tr sc d 80 (53, [l0, l1, l2, l3, l4, some (.int x), l6], [.ref k0], h) Q = Tr sc d 80 (55, [l0, l1, l2, l3, l4, some (.int x), l6], [.int x, .ref k0], h) Q := t_iload k_80_53 rfl
theorem k_80_55 : lk 80 55 = some (.iload 6, 57, 6, 0, .null) := by decide +kernel
theorem x_80_55 : Tr sc d 80 (55, [l0, l1, l2, l3, l4, l5, some (.int x)], [.int i1, .ref k0], h) Q = Tr sc d 80 (57, [l0, l1, l2, l3, l4, l5, some (.int x)], [.int x, .int i1, .ref k0], h) Q := t_iload k_80_55 rfl
theorem k_80_57 : lk 80 57 = some (.invokevirtual 84, 60, 78, 2, .null) := by decide +kernel
theorem x_80_57 : Tr sc (d + 1) 80 (57, [l0, l1, l2, l3, l4, l5, l6], [.int i2, .int i1, .ref k0], h) Q = (okp h k0 7 = true ∧ Tr sc d 78 (ent0 78 [.ref k0, .int i1, .int i2] h) (fun z => Tr sc (d + 1) 80 (60, [l0, l1, l2, l3, l4, l5, l6], z.1.toList ++ [], z.2) Q)) := t_cv (as := [.int i1, .int i2]) (r := []) k_80_57 rfl rfl (Nat.le_of_ble_eq_true rfl) (Nat.le_of_ble_eq_true rfl) (Nat.le_of_ble_eq_true rfl)
theorem k_80_60 : lk 80 60 = some (.ifCond .lt 10, 63, 70, 0, .null) := by decide +kernel
theorem x_80_60 : Tr sc d 80 (60, [l0, l1, l2, l3, l4, l5, l6], [.int i0], h) Q = if i0 < 0 then Tr sc d 80 (70, [l0, l1, l2, l3, l4, l5, l6], [], h) Q else Tr sc d 80 (63, [l0, l1, l2, l3, l4, l5, l6], [], h) Q := t_if k_80_60 rfl
theorem k_80_63 : lk 80 63 = some (.iload_n 3, 64, 3, 0, .null) := by decide +kernel
theorem x_80_63 : Tr sc d 80 (63, [l0, l1, l2, some (.int x), l4, l5, l6], [], h) Q = Tr sc d 80 (64, [l0, l1, l2, some (.int x), l4, l5, l6], [.int x], h) Q := t_iload_n k_80_63 rfl
theorem k_80_64 : lk 80 64 = some (.iconst 1, 65, 0, 0, .int 1) := by decide +kernel
theorem x_80_64 : Tr sc d 80 (64, [l0, l1, l2, l3, l4, l5, l6], [.int i0], h) Q = Tr sc d 80 (65, [l0, l1, l2, l3, l4, l5, l6], [.int 1, .int i0], h) Q := t_go k_80_64 rfl
theorem k_80_65 : lk 80 65 = some (.iload 4, 67, 4, 0, .null) := by decide +kernel
theorem x_80_65 : Tr sc d 80 (65, [l0, l1, l2, l3, some (.int x), l5, l6], [.int i1, .int i0], h) Q = Tr sc d 80 (67, [l0, l1, l2, l3, some (.int x), l5, l6], [.int x, .int i1, .int i0], h) Q := t_iload k_80_65 rfl
theorem k_80_67 : lk 80 67 = some (.ishl, 68, 0, 0, .null) := by decide +kernel
theorem x_80_67 : Tr sc d 80 (67, [l0, l1, l2, l3, l4, l5, l6], [.int i2, .int i1, .int i0], h) Q = Tr sc d 80 (68, [l0, l1, l2, l3, l4, l5, l6], [.int (i1 <<< (i2 &&& 31)), .int i0], h) Q := t_go k_80_67 rfl
theorem k_80_68 : lk 80 68 = some (.ior, 69, 0, 0, .null) := by decide +kernel
theorem x_80_68 : Tr sc d 80 (68, [l0, l1, l2, l3, l4, l5, l6], [.int i1, .int i0], h) Q = Tr sc d 80 (69, [l0, l1, l2, l3, l4, l5, l6], [.int (i0 ||| i1)], h) Q := t_go k_80_68 rfl
theorem k_80_69 : lk 80 69 = some (.istore_n 3, 70, 3, 0, .null) := by decide +kernel
theorem x_80_69 : Tr sc d 80 (69, [l0, l1, l2, l3, l4, l5, l6], [.int i0], h) Q = Tr sc d 80 (70, [l0, l1, cl2 l2, some (.int i0), l4, l5, l6], [], h) Q := t_istore_n k_80_69 (Nat.le_of_ble_eq_true rfl)
theorem k_80_70 : lk 80 70 = some (.iinc 4 1, 73, 4, 0, .int 1) := by decide +kernel
theorem x_80_70 : Tr sc d 80 (70, [l0, l1, l2, l3, some (.int x), l5, l6], [], h) Q = Tr sc d 80 (73, [l0, l1, l2, cl2 l3, some (.int (x + 1)), l5, l6], [], h) Q := t_inc k_80_70 rfl (Nat.le_of_ble_eq_true rfl)
theorem k_80_73 : lk 80 73 = some (.goto (-68), 76, 5, 0, .null) := by decide +kernel
theorem x_80_73 : Tr sc d 80 (73, [l0, l1, l2, l3, l4, l5, l6], [], h) Q = Tr sc d 80 (5, [l0, l1, l2, l3, l4, l5, l6], [], h) Q := t_go k_80_73 rfl
theorem k_80_76 : lk 80 76 = some (.iload_n 3, 77, 3, 0, .null) := by decide +kernel
theorem x_80_76 : Tr sc d 80 (76, [l0, l1, l2, some (.int x), l4, l5, l6], [], h) Q = Tr sc d 80 (77, [l0, l1, l2, some (.int x), l4, l5, l6], [.int x], h) Q := t_iload_n k_80_76 rfl
theorem k_80_77 : lk 80 77 = some (.ireturn, 78, 0, 0, .null) := by decide +kernel
theorem x_80_77 : Tr sc d 80 (77, [l0, l1, l2, l3, l4, l5, l6], [.int i0], h) Q = Q (some (.int i0), h) := t_ret k_80_77 (by rw [r_80]; rfl)
theorem e_80 : Tr sc d 80 (ent0 80 [.ref k0, .ref k1, .int i2] h) Q = Tr sc d 80 (0, [some (.ref k0), some (.ref k1), some (.int i2), none, none, none, none], [], h) Q := by
  have e : mL 80 = 7 := by decide +kernel
  unfold ent0
  rw [e]
  rfl
theorem r_81 : mR 81 = some .boolean := by decide +kernel
theorem k_81_0 : lk 81 0 = some (.iconst 1, 1, 0, 0, .int 1) := by decide +kernel
theorem x_81_0 : Tr sc d 81 (0, [l0, l1, l2, l3, l4], [], h) Q = Tr sc d 81 (1, [l0, l1, l2, l3, l4], [.int 1], h) Q := t_go k_81_0 rfl
theorem k_81_1 : lk 81 1 = some (.istore_n 2, 2, 2, 0, .null) := by decide +kernel
theorem x_81_1 : Tr sc d 81 (1, [l0, l1, l2, l3, l4], [.int i0], h) Q = Tr sc d 81 (2, [l0, cl2 l1, some (.int i0), l3, l4], [], h) Q := t_istore_n k_81_1 (Nat.le_of_ble_eq_true rfl)
theorem k_81_2 : lk 81 2 = some (.iconst 0, 3, 0, 0, .int 0) := by decide +kernel
theorem x_81_2 : Tr sc d 81 (2, [l0, l1, l2, l3, l4], [], h) Q = Tr sc d 81 (3, [l0, l1, l2, l3, l4], [.int 0], h) Q := t_go k_81_2 rfl
theorem k_81_3 : lk 81 3 = some (.istore_n 3, 4, 3, 0, .null) := by decide +kernel
theorem x_81_3 : Tr sc d 81 (3, [l0, l1, l2, l3, l4], [.int i0], h) Q = Tr sc d 81 (4, [l0, l1, cl2 l2, some (.int i0), l4], [], h) Q := t_istore_n k_81_3 (Nat.le_of_ble_eq_true rfl)
theorem k_81_4 : lk 81 4 = some (.iload_n 3, 5, 3, 0, .null) := by decide +kernel
theorem x_81_4 : Tr sc d 81 (4, [l0, l1, l2, some (.int x), l4], [], h) Q = Tr sc d 81 (5, [l0, l1, l2, some (.int x), l4], [.int x], h) Q := t_iload_n k_81_4 rfl
theorem k_81_5 : lk 81 5 = some (.aload_n 1, 6, 1, 0, .null) := by decide +kernel
theorem x_81_5 : Tr sc d 81 (5, [l0, some (.ref xk), l2, l3, l4], [.int i0], h) Q = Tr sc d 81 (6, [l0, some (.ref xk), l2, l3, l4], [.ref xk, .int i0], h) Q := t_aload_n k_81_5 rfl
theorem k_81_6 : lk 81 6 = some (.getfield 60, 9, 6, 8, .int 0) := by decide +kernel
theorem x_81_6 : Tr sc d 81 (6, [l0, l1, l2, l3, l4], [.ref k1, .int i0], h) Q = (okp h k1 6 = true ∧ Tr sc d 81 (9, [l0, l1, l2, l3, l4], [.int (hI h k1 8), .int i0], h) Q) := t_gd k_81_6 rfl
theorem k_81_9 : lk 81 9 = some (.if_icmp .ge 46, 12, 55, 0, .null) := by decide +kernel
theorem x_81_9 : Tr sc d 81 (9, [l0, l1, l2, l3, l4], [.int i1, .int i0], h) Q = if i1 ≤ i0 then Tr sc d 81 (55, [l0, l1, l2, l3, l4], [], h) Q else Tr sc d 81 (12, [l0, l1, l2, l3, l4], [], h) Q := t_if k_81_9 rfl
theorem k_81_12 : lk 81 12 = some (.iconst 0, 13, 0, 0, .int 0) := by decide +kernel
theorem x_81_12 : Tr sc d 81 (12, [l0, l1, l2, l3, l4], [], h) Q = Tr sc d 81 (13, [l0, l1, l2, l3, l4], [.int 0], h) Q := t_go k_81_12 rfl
theorem k_81_13 : lk 81 13 = some (.istore 4, 15, 4, 0, .null) := by decide +kernel
theorem x_81_13 : Tr sc d 81 (13, [l0, l1, l2, l3, l4], [.int i0], h) Q = Tr sc d 81 (15, [l0, l1, l2, cl2 l3, some (.int i0)], [], h) Q := t_istore k_81_13 (Nat.le_of_ble_eq_true rfl)
theorem k_81_15 : lk 81 15 = some (.iload 4, 17, 4, 0, .null) := by decide +kernel
theorem x_81_15 : Tr sc d 81 (15, [l0, l1, l2, l3, some (.int x)], [], h) Q = Tr sc d 81 (17, [l0, l1, l2, l3, some (.int x)], [.int x], h) Q := t_iload k_81_15 rfl
theorem k_81_17 : lk 81 17 = some (.aload_n 1, 18, 1, 0, .null) := by decide +kernel
theorem x_81_17 : Tr sc d 81 (17, [l0, some (.ref xk), l2, l3, l4], [.int i0], h) Q = Tr sc d 81 (18, [l0, some (.ref xk), l2, l3, l4], [.ref xk, .int i0], h) Q := t_aload_n k_81_17 rfl
theorem k_81_18 : lk 81 18 = some (.getfield 60, 21, 6, 8, .int 0) := by decide +kernel
theorem x_81_18 : Tr sc d 81 (18, [l0, l1, l2, l3, l4], [.ref k1, .int i0], h) Q = (okp h k1 6 = true ∧ Tr sc d 81 (21, [l0, l1, l2, l3, l4], [.int (hI h k1 8), .int i0], h) Q) := t_gd k_81_18 rfl
theorem k_81_21 : lk 81 21 = some (.if_icmp .ge 28, 24, 49, 0, .null) := by decide +kernel
theorem x_81_21 : Tr sc d 81 (21, [l0, l1, l2, l3, l4], [.int i1, .int i0], h) Q = if i1 ≤ i0 then Tr sc d 81 (49, [l0, l1, l2, l3, l4], [], h) Q else Tr sc d 81 (24, [l0, l1, l2, l3, l4], [], h) Q := t_if k_81_21 rfl
theorem k_81_24 : lk 81 24 = some (.iload_n 2, 25, 2, 0, .null) := by decide +kernel
theorem x_81_24 : Tr sc d 81 (24, [l0, l1, some (.int x), l3, l4], [], h) Q = Tr sc d 81 (25, [l0, l1, some (.int x), l3, l4], [.int x], h) Q := t_iload_n k_81_24 rfl
theorem k_81_25 : lk 81 25 = some (.iload 4, 27, 4, 0, .null) := by decide +kernel
theorem x_81_25 : Tr sc d 81 (25, [l0, l1, l2, l3, some (.int x)], [.int i0], h) Q = Tr sc d 81 (27, [l0, l1, l2, l3, some (.int x)], [.int x, .int i0], h) Q := t_iload k_81_25 rfl
theorem k_81_27 : lk 81 27 = some (.ishr, 28, 0, 0, .null) := by decide +kernel
theorem x_81_27 : Tr sc d 81 (27, [l0, l1, l2, l3, l4], [.int i1, .int i0], h) Q = Tr sc d 81 (28, [l0, l1, l2, l3, l4], [.int (i0 >>> (i1 &&& 31))], h) Q := t_go k_81_27 rfl
theorem k_81_28 : lk 81 28 = some (.iconst 1, 29, 0, 0, .int 1) := by decide +kernel
theorem x_81_28 : Tr sc d 81 (28, [l0, l1, l2, l3, l4], [.int i0], h) Q = Tr sc d 81 (29, [l0, l1, l2, l3, l4], [.int 1, .int i0], h) Q := t_go k_81_28 rfl
theorem k_81_29 : lk 81 29 = some (.iand, 30, 0, 0, .null) := by decide +kernel
theorem x_81_29 : Tr sc d 81 (29, [l0, l1, l2, l3, l4], [.int i1, .int i0], h) Q = Tr sc d 81 (30, [l0, l1, l2, l3, l4], [.int (i0 &&& i1)], h) Q := t_go k_81_29 rfl
theorem k_81_30 : lk 81 30 = some (.ifCond .eq 13, 33, 43, 0, .null) := by decide +kernel
theorem x_81_30 : Tr sc d 81 (30, [l0, l1, l2, l3, l4], [.int i0], h) Q = if i0 = 0 then Tr sc d 81 (43, [l0, l1, l2, l3, l4], [], h) Q else Tr sc d 81 (33, [l0, l1, l2, l3, l4], [], h) Q := t_if k_81_30 rfl
theorem k_81_33 : lk 81 33 = some (.iload_n 2, 34, 2, 0, .null) := by decide +kernel
theorem x_81_33 : Tr sc d 81 (33, [l0, l1, some (.int x), l3, l4], [], h) Q = Tr sc d 81 (34, [l0, l1, some (.int x), l3, l4], [.int x], h) Q := t_iload_n k_81_33 rfl
theorem k_81_34 : lk 81 34 = some (.aload_n 0, 35, 0, 0, .null) := by decide +kernel
theorem x_81_34 : Tr sc d 81 (34, [some (.ref xk), l1, l2, l3, l4], [.int i0], h) Q = Tr sc d 81 (35, [some (.ref xk), l1, l2, l3, l4], [.ref xk, .int i0], h) Q := t_aload_n k_81_34 rfl
theorem k_81_35 : lk 81 35 = some (.aload_n 1, 36, 1, 0, .null) := by decide +kernel
theorem x_81_35 : Tr sc d 81 (35, [l0, some (.ref xk), l2, l3, l4], [.ref k1, .int i0], h) Q = Tr sc d 81 (36, [l0, some (.ref xk), l2, l3, l4], [.ref xk, .ref k1, .int i0], h) Q := t_aload_n k_81_35 rfl
theorem k_81_36 : lk 81 36 = some (.iload 4, 38, 4, 0, .null) := by decide +kernel
theorem x_81_36 : Tr sc d 81 (36, [l0, l1, l2, l3, some (.int x)], [.ref k2, .ref k1, .int i0], h) Q = Tr sc d 81 (38, [l0, l1, l2, l3, some (.int x)], [.int x, .ref k2, .ref k1, .int i0], h) Q := t_iload k_81_36 rfl
theorem k_81_38 : lk 81 38 = some (.invokevirtual 88, 41, 80, 2, .null) := by decide +kernel
theorem x_81_38 : Tr sc (d + 1) 81 (38, [l0, l1, l2, l3, l4], [.int i3, .ref k2, .ref k1, .int i0], h) Q = (okp h k1 7 = true ∧ Tr sc d 80 (ent0 80 [.ref k1, .ref k2, .int i3] h) (fun z => Tr sc (d + 1) 81 (41, [l0, l1, l2, l3, l4], z.1.toList ++ [.int i0], z.2) Q)) := t_cv (as := [.ref k2, .int i3]) (r := [.int i0]) k_81_38 rfl rfl (Nat.le_of_ble_eq_true rfl) (Nat.le_of_ble_eq_true rfl) (Nat.le_of_ble_eq_true rfl)
theorem k_81_41 : lk 81 41 = some (.ior, 42, 0, 0, .null) := by decide +kernel
theorem x_81_41 : Tr sc d 81 (41, [l0, l1, l2, l3, l4], [.int i1, .int i0], h) Q = Tr sc d 81 (42, [l0, l1, l2, l3, l4], [.int (i0 ||| i1)], h) Q := t_go k_81_41 rfl
theorem k_81_42 : lk 81 42 = some (.istore_n 2, 43, 2, 0, .null) := by decide +kernel
theorem x_81_42 : Tr sc d 81 (42, [l0, l1, l2, l3, l4], [.int i0], h) Q = Tr sc d 81 (43, [l0, cl2 l1, some (.int i0), l3, l4], [], h) Q := t_istore_n k_81_42 (Nat.le_of_ble_eq_true rfl)
theorem k_81_43 : lk 81 43 = some (.iinc 4 1, 46, 4, 0, .int 1) := by decide +kernel
theorem x_81_43 : Tr sc d 81 (43, [l0, l1, l2, l3, some (.int x)], [], h) Q = Tr sc d 81 (46, [l0, l1, l2, cl2 l3, some (.int (x + 1))], [], h) Q := t_inc k_81_43 rfl (Nat.le_of_ble_eq_true rfl)
theorem k_81_46 : lk 81 46 = some (.goto (-31), 49, 15, 0, .null) := by decide +kernel
theorem x_81_46 : Tr sc d 81 (46, [l0, l1, l2, l3, l4], [], h) Q = Tr sc d 81 (15, [l0, l1, l2, l3, l4], [], h) Q := t_go k_81_46 rfl
theorem k_81_49 : lk 81 49 = some (.iinc 3 1, 52, 3, 0, .int 1) := by decide +kernel
theorem x_81_49 : Tr sc d 81 (49, [l0, l1, l2, some (.int x), l4], [], h) Q = Tr sc d 81 (52, [l0, l1, cl2 l2, some (.int (x + 1)), l4], [], h) Q := t_inc k_81_49 rfl (Nat.le_of_ble_eq_true rfl)
theorem k_81_52 : lk 81 52 = some (.goto (-48), 55, 4, 0, .null) := by decide +kernel
theorem x_81_52 : Tr sc d 81 (52, [l0, l1, l2, l3, l4], [], h) Q = Tr sc d 81 (4, [l0, l1, l2, l3, l4], [], h) Q := t_go k_81_52 rfl
theorem k_81_55 : lk 81 55 = some (.iload_n 2, 56, 2, 0, .null) := by decide +kernel
theorem x_81_55 : Tr sc d 81 (55, [l0, l1, some (.int x), l3, l4], [], h) Q = Tr sc d 81 (56, [l0, l1, some (.int x), l3, l4], [.int x], h) Q := t_iload_n k_81_55 rfl
theorem k_81_56 : lk 81 56 = some (.iconst 1, 57, 0, 0, .int 1) := by decide +kernel
theorem x_81_56 : Tr sc d 81 (56, [l0, l1, l2, l3, l4], [.int i0], h) Q = Tr sc d 81 (57, [l0, l1, l2, l3, l4], [.int 1, .int i0], h) Q := t_go k_81_56 rfl
theorem k_81_57 : lk 81 57 = some (.aload_n 1, 58, 1, 0, .null) := by decide +kernel
theorem x_81_57 : Tr sc d 81 (57, [l0, some (.ref xk), l2, l3, l4], [.int i1, .int i0], h) Q = Tr sc d 81 (58, [l0, some (.ref xk), l2, l3, l4], [.ref xk, .int i1, .int i0], h) Q := t_aload_n k_81_57 rfl
theorem k_81_58 : lk 81 58 = some (.getfield 60, 61, 6, 8, .int 0) := by decide +kernel
theorem x_81_58 : Tr sc d 81 (58, [l0, l1, l2, l3, l4], [.ref k2, .int i1, .int i0], h) Q = (okp h k2 6 = true ∧ Tr sc d 81 (61, [l0, l1, l2, l3, l4], [.int (hI h k2 8), .int i1, .int i0], h) Q) := t_gd k_81_58 rfl
theorem k_81_61 : lk 81 61 = some (.ishl, 62, 0, 0, .null) := by decide +kernel
theorem x_81_61 : Tr sc d 81 (61, [l0, l1, l2, l3, l4], [.int i2, .int i1, .int i0], h) Q = Tr sc d 81 (62, [l0, l1, l2, l3, l4], [.int (i1 <<< (i2 &&& 31)), .int i0], h) Q := t_go k_81_61 rfl
theorem k_81_62 : lk 81 62 = some (.iconst 1, 63, 0, 0, .int 1) := by decide +kernel
theorem x_81_62 : Tr sc d 81 (62, [l0, l1, l2, l3, l4], [.int i1, .int i0], h) Q = Tr sc d 81 (63, [l0, l1, l2, l3, l4], [.int 1, .int i1, .int i0], h) Q := t_go k_81_62 rfl
theorem k_81_63 : lk 81 63 = some (.isub, 64, 0, 0, .null) := by decide +kernel
theorem x_81_63 : Tr sc d 81 (63, [l0, l1, l2, l3, l4], [.int i2, .int i1, .int i0], h) Q = Tr sc d 81 (64, [l0, l1, l2, l3, l4], [.int (i1 - i2), .int i0], h) Q := t_go k_81_63 rfl
theorem k_81_64 : lk 81 64 = some (.if_icmp .ne 7, 67, 71, 0, .null) := by decide +kernel
theorem x_81_64 : Tr sc d 81 (64, [l0, l1, l2, l3, l4], [.int i1, .int i0], h) Q = if i0 = i1 then Tr sc d 81 (67, [l0, l1, l2, l3, l4], [], h) Q else Tr sc d 81 (71, [l0, l1, l2, l3, l4], [], h) Q := t_if k_81_64 rfl
theorem k_81_67 : lk 81 67 = some (.iconst 1, 68, 0, 0, .int 1) := by decide +kernel
theorem x_81_67 : Tr sc d 81 (67, [l0, l1, l2, l3, l4], [], h) Q = Tr sc d 81 (68, [l0, l1, l2, l3, l4], [.int 1], h) Q := t_go k_81_67 rfl
theorem k_81_68 : lk 81 68 = some (.goto 4, 71, 72, 0, .null) := by decide +kernel
theorem x_81_68 : Tr sc d 81 (68, [l0, l1, l2, l3, l4], [.int i0], h) Q = Tr sc d 81 (72, [l0, l1, l2, l3, l4], [.int i0], h) Q := t_go k_81_68 rfl
theorem k_81_71 : lk 81 71 = some (.iconst 0, 72, 0, 0, .int 0) := by decide +kernel
theorem x_81_71 : Tr sc d 81 (71, [l0, l1, l2, l3, l4], [], h) Q = Tr sc d 81 (72, [l0, l1, l2, l3, l4], [.int 0], h) Q := t_go k_81_71 rfl
theorem k_81_72 : lk 81 72 = some (.ireturn, 73, 0, 0, .null) := by decide +kernel
theorem x_81_72 : Tr sc d 81 (72, [l0, l1, l2, l3, l4], [.int i0], h) Q = (vp_nar .boolean i0 = i0 ∧ Q (some (.int i0), h)) := t_zret k_81_72 r_81
theorem e_81 : Tr sc d 81 (ent0 81 [.ref k0, .ref k1] h) Q = Tr sc d 81 (0, [some (.ref k0), some (.ref k1), none, none, none], [], h) Q := by
  have e : mL 81 = 5 := by decide +kernel
  unfold ent0
  rw [e]
  rfl
theorem r_82 : mR 82 = some .boolean := by decide +kernel
theorem k_82_0 : lk 82 0 = some (.aload_n 0, 1, 0, 0, .null) := by decide +kernel
theorem x_82_0 : Tr sc d 82 (0, [some (.ref xk), l1, l2, l3, l4], [], h) Q = Tr sc d 82 (1, [some (.ref xk), l1, l2, l3, l4], [.ref xk], h) Q := t_aload_n k_82_0 rfl
theorem k_82_1 : lk 82 1 = some (.iconst 0, 2, 0, 0, .int 0) := by decide +kernel
theorem x_82_1 : Tr sc d 82 (1, [l0, l1, l2, l3, l4], [.ref k0], h) Q = Tr sc d 82 (2, [l0, l1, l2, l3, l4], [.int 0, .ref k0], h) Q := t_go k_82_1 rfl
theorem k_82_2 : lk 82 2 = some (.putfield 35, 5, 7, 7, .int 0) := by decide +kernel
theorem x_82_2 : Tr sc d 82 (2, [l0, l1, l2, l3, l4], [.int i1, .ref k0], h) Q = (okp h k0 7 = true ∧ Tr sc d 82 (5, [l0, l1, l2, l3, l4], [], (sI h k0 7 i1)) Q) := t_gd k_82_2 rfl
theorem k_82_5 : lk 82 5 = some (.iconst 0, 6, 0, 0, .int 0) := by decide +kernel
theorem x_82_5 : Tr sc d 82 (5, [l0, l1, l2, l3, l4], [], h) Q = Tr sc d 82 (6, [l0, l1, l2, l3, l4], [.int 0], h) Q := t_go k_82_5 rfl
theorem k_82_6 : lk 82 6 = some (.istore_n 1, 7, 1, 0, .null) := by decide +kernel
theorem x_82_6 : Tr sc d 82 (6, [l0, l1, l2, l3, l4], [.int i0], h) Q = Tr sc d 82 (7, [cl2 l0, some (.int i0), l2, l3, l4], [], h) Q := t_istore_n k_82_6 (Nat.le_of_ble_eq_true rfl)
theorem k_82_7 : lk 82 7 = some (.iload_n 1, 8, 1, 0, .null) := by decide +kernel
theorem x_82_7 : Tr sc d 82 (7, [l0, some (.int x), l2, l3, l4], [], h) Q = Tr sc d 82 (8, [l0, some (.int x), l2, l3, l4], [.int x], h) Q := t_iload_n k_82_7 rfl
theorem k_82_8 : lk 82 8 = some (.aload_n 0, 9, 0, 0, .null) := by decide +kernel
theorem x_82_8 : Tr sc d 82 (8, [some (.ref xk), l1, l2, l3, l4], [.int i0], h) Q = Tr sc d 82 (9, [some (.ref xk), l1, l2, l3, l4], [.ref xk, .int i0], h) Q := t_aload_n k_82_8 rfl
theorem k_82_9 : lk 82 9 = some (.getfield 51, 12, 7, 12, .int 0) := by decide +kernel
theorem x_82_9 : Tr sc d 82 (9, [l0, l1, l2, l3, l4], [.ref k1, .int i0], h) Q = (okp h k1 7 = true ∧ Tr sc d 82 (12, [l0, l1, l2, l3, l4], [.int (hI h k1 12), .int i0], h) Q) := t_gd k_82_9 rfl
theorem k_82_12 : lk 82 12 = some (.if_icmp .ge 16, 15, 28, 0, .null) := by decide +kernel
theorem x_82_12 : Tr sc d 82 (12, [l0, l1, l2, l3, l4], [.int i1, .int i0], h) Q = if i1 ≤ i0 then Tr sc d 82 (28, [l0, l1, l2, l3, l4], [], h) Q else Tr sc d 82 (15, [l0, l1, l2, l3, l4], [], h) Q := t_if k_82_12 rfl
theorem k_82_15 : lk 82 15 = some (.aload_n 0, 16, 0, 0, .null) := by decide +kernel
theorem x_82_15 : Tr sc d 82 (15, [some (.ref xk), l1, l2, l3, l4], [], h) Q = Tr sc d 82 (16, [some (.ref xk), l1, l2, l3, l4], [.ref xk], h) Q := t_aload_n k_82_15 rfl
theorem k_82_16 : lk 82 16 = some (.getfield 15, 19, 7, 1, .null) := by decide +kernel
theorem x_82_16 : Tr sc d 82 (16, [l0, l1, l2, l3, l4], [.ref k0], h) Q = (okp h k0 7 = true ∧ ∃ q, hR h k0 1 = some q ∧ Tr sc d 82 (19, [l0, l1, l2, l3, l4], [.ref q], h) Q) := t_getr k_82_16
theorem k_82_19 : lk 82 19 = some (.iload_n 1, 20, 1, 0, .null) := by decide +kernel
theorem x_82_19 : Tr sc d 82 (19, [l0, some (.int x), l2, l3, l4], [.ref k0], h) Q = Tr sc d 82 (20, [l0, some (.int x), l2, l3, l4], [.int x, .ref k0], h) Q := t_iload_n k_82_19 rfl
theorem k_82_20 : lk 82 20 = some (.iconst 0, 21, 0, 0, .int 0) := by decide +kernel
theorem x_82_20 : Tr sc d 82 (20, [l0, l1, l2, l3, l4], [.int i1, .ref k0], h) Q = Tr sc d 82 (21, [l0, l1, l2, l3, l4], [.int 0, .int i1, .ref k0], h) Q := t_go k_82_20 rfl
theorem k_82_21 : lk 82 21 = some (.bastore, 22, 0, 0, .null) := by decide +kernel
theorem x_82_21 : Tr sc d 82 (21, [l0, l1, l2, l3, l4], [.int i2, .int i1, .ref k0], h) Q = ((okp h k0 13 && inb i1 (LN k0)) = true ∧ Tr sc d 82 (22, [l0, l1, l2, l3, l4], [], (sI h k0 i1.toNatClampNeg (vp_nar .boolean i2))) Q) := t_gd k_82_21 rfl
theorem k_82_22 : lk 82 22 = some (.iinc 1 1, 25, 1, 0, .int 1) := by decide +kernel
theorem x_82_22 : Tr sc d 82 (22, [l0, some (.int x), l2, l3, l4], [], h) Q = Tr sc d 82 (25, [cl2 l0, some (.int (x + 1)), l2, l3, l4], [], h) Q := t_inc k_82_22 rfl (Nat.le_of_ble_eq_true rfl)
theorem k_82_25 : lk 82 25 = some (.goto (-18), 28, 7, 0, .null) := by decide +kernel
theorem x_82_25 : Tr sc d 82 (25, [l0, l1, l2, l3, l4], [], h) Q = Tr sc d 82 (7, [l0, l1, l2, l3, l4], [], h) Q := t_go k_82_25 rfl
theorem k_82_28 : lk 82 28 = some (.iconst 0, 29, 0, 0, .int 0) := by decide +kernel
theorem x_82_28 : Tr sc d 82 (28, [l0, l1, l2, l3, l4], [], h) Q = Tr sc d 82 (29, [l0, l1, l2, l3, l4], [.int 0], h) Q := t_go k_82_28 rfl
theorem k_82_29 : lk 82 29 = some (.istore_n 1, 30, 1, 0, .null) := by decide +kernel
theorem x_82_29 : Tr sc d 82 (29, [l0, l1, l2, l3, l4], [.int i0], h) Q = Tr sc d 82 (30, [cl2 l0, some (.int i0), l2, l3, l4], [], h) Q := t_istore_n k_82_29 (Nat.le_of_ble_eq_true rfl)
theorem k_82_30 : lk 82 30 = some (.iload_n 1, 31, 1, 0, .null) := by decide +kernel
theorem x_82_30 : Tr sc d 82 (30, [l0, some (.int x), l2, l3, l4], [], h) Q = Tr sc d 82 (31, [l0, some (.int x), l2, l3, l4], [.int x], h) Q := t_iload_n k_82_30 rfl
theorem k_82_31 : lk 82 31 = some (.aload_n 0, 32, 0, 0, .null) := by decide +kernel
theorem x_82_31 : Tr sc d 82 (31, [some (.ref xk), l1, l2, l3, l4], [.int i0], h) Q = Tr sc d 82 (32, [some (.ref xk), l1, l2, l3, l4], [.ref xk, .int i0], h) Q := t_aload_n k_82_31 rfl
theorem k_82_32 : lk 82 32 = some (.getfield 39, 35, 7, 8, .int 0) := by decide +kernel
theorem x_82_32 : Tr sc d 82 (32, [l0, l1, l2, l3, l4], [.ref k1, .int i0], h) Q = (okp h k1 7 = true ∧ Tr sc d 82 (35, [l0, l1, l2, l3, l4], [.int (hI h k1 8), .int i0], h) Q) := t_gd k_82_32 rfl
theorem k_82_35 : lk 82 35 = some (.if_icmp .ge 43, 38, 78, 0, .null) := by decide +kernel
theorem x_82_35 : Tr sc d 82 (35, [l0, l1, l2, l3, l4], [.int i1, .int i0], h) Q = if i1 ≤ i0 then Tr sc d 82 (78, [l0, l1, l2, l3, l4], [], h) Q else Tr sc d 82 (38, [l0, l1, l2, l3, l4], [], h) Q := t_if k_82_35 rfl
theorem k_82_38 : lk 82 38 = some (.aload_n 0, 39, 0, 0, .null) := by decide +kernel
theorem x_82_38 : Tr sc d 82 (38, [some (.ref xk), l1, l2, l3, l4], [], h) Q = Tr sc d 82 (39, [some (.ref xk), l1, l2, l3, l4], [.ref xk], h) Q := t_aload_n k_82_38 rfl
theorem k_82_39 : lk 82 39 = some (.getfield 29, 42, 7, 5, .null) := by decide +kernel
theorem x_82_39 : Tr sc d 82 (39, [l0, l1, l2, l3, l4], [.ref k0], h) Q = (okp h k0 7 = true ∧ ∃ q, hR h k0 5 = some q ∧ Tr sc d 82 (42, [l0, l1, l2, l3, l4], [.ref q], h) Q) := t_getr k_82_39
theorem k_82_42 : lk 82 42 = some (.iload_n 1, 43, 1, 0, .null) := by decide +kernel
theorem x_82_42 : Tr sc d 82 (42, [l0, some (.int x), l2, l3, l4], [.ref k0], h) Q = Tr sc d 82 (43, [l0, some (.int x), l2, l3, l4], [.int x, .ref k0], h) Q := t_iload_n k_82_42 rfl
theorem k_82_43 : lk 82 43 = some (.iaload, 44, 0, 0, .null) := by decide +kernel
theorem x_82_43 : Tr sc d 82 (43, [l0, l1, l2, l3, l4], [.int i1, .ref k0], h) Q = (iOk sc h k0 i1 ∧ Tr sc d 82 (44, [l0, l1, l2, l3, l4], [.int (iRd sc h k0 i1)], h) Q) := t_iald k_82_43
theorem k_82_44 : lk 82 44 = some (.ifCond .ne 12, 47, 56, 0, .null) := by decide +kernel
theorem x_82_44 : Tr sc d 82 (44, [l0, l1, l2, l3, l4], [.int i0], h) Q = if i0 = 0 then Tr sc d 82 (47, [l0, l1, l2, l3, l4], [], h) Q else Tr sc d 82 (56, [l0, l1, l2, l3, l4], [], h) Q := t_if k_82_44 rfl
theorem k_82_47 : lk 82 47 = some (.aload_n 0, 48, 0, 0, .null) := by decide +kernel
theorem x_82_47 : Tr sc d 82 (47, [some (.ref xk), l1, l2, l3, l4], [], h) Q = Tr sc d 82 (48, [some (.ref xk), l1, l2, l3, l4], [.ref xk], h) Q := t_aload_n k_82_47 rfl
theorem k_82_48 : lk 82 48 = some (.getfield 32, 51, 7, 6, .null) := by decide +kernel
theorem x_82_48 : Tr sc d 82 (48, [l0, l1, l2, l3, l4], [.ref k0], h) Q = (okp h k0 7 = true ∧ ∃ q, hR h k0 6 = some q ∧ Tr sc d 82 (51, [l0, l1, l2, l3, l4], [.ref q], h) Q) := t_getr k_82_48
theorem k_82_51 : lk 82 51 = some (.iload_n 1, 52, 1, 0, .null) := by decide +kernel
theorem x_82_51 : Tr sc d 82 (51, [l0, some (.int x), l2, l3, l4], [.ref k0], h) Q = Tr sc d 82 (52, [l0, some (.int x), l2, l3, l4], [.int x, .ref k0], h) Q := t_iload_n k_82_51 rfl
theorem k_82_52 : lk 82 52 = some (.iaload, 53, 0, 0, .null) := by decide +kernel
theorem x_82_52 : Tr sc d 82 (52, [l0, l1, l2, l3, l4], [.int i1, .ref k0], h) Q = (iOk sc h k0 i1 ∧ Tr sc d 82 (53, [l0, l1, l2, l3, l4], [.int (iRd sc h k0 i1)], h) Q) := t_iald k_82_52
theorem k_82_53 : lk 82 53 = some (.ifCond .eq 19, 56, 72, 0, .null) := by decide +kernel
theorem x_82_53 : Tr sc d 82 (53, [l0, l1, l2, l3, l4], [.int i0], h) Q = if i0 = 0 then Tr sc d 82 (72, [l0, l1, l2, l3, l4], [], h) Q else Tr sc d 82 (56, [l0, l1, l2, l3, l4], [], h) Q := t_if k_82_53 rfl
theorem k_82_56 : lk 82 56 = some (.aload_n 0, 57, 0, 0, .null) := by decide +kernel
theorem x_82_56 : Tr sc d 82 (56, [some (.ref xk), l1, l2, l3, l4], [], h) Q = Tr sc d 82 (57, [some (.ref xk), l1, l2, l3, l4], [.ref xk], h) Q := t_aload_n k_82_56 rfl
theorem k_82_57 : lk 82 57 = some (.aload_n 0, 58, 0, 0, .null) := by decide +kernel
theorem x_82_57 : Tr sc d 82 (57, [some (.ref xk), l1, l2, l3, l4], [.ref k0], h) Q = Tr sc d 82 (58, [some (.ref xk), l1, l2, l3, l4], [.ref xk, .ref k0], h) Q := t_aload_n k_82_57 rfl
theorem k_82_58 : lk 82 58 = some (.getfield 29, 61, 7, 5, .null) := by decide +kernel
theorem x_82_58 : Tr sc d 82 (58, [l0, l1, l2, l3, l4], [.ref k1, .ref k0], h) Q = (okp h k1 7 = true ∧ ∃ q, hR h k1 5 = some q ∧ Tr sc d 82 (61, [l0, l1, l2, l3, l4], [.ref q, .ref k0], h) Q) := t_getr k_82_58
theorem k_82_61 : lk 82 61 = some (.iload_n 1, 62, 1, 0, .null) := by decide +kernel
theorem x_82_61 : Tr sc d 82 (61, [l0, some (.int x), l2, l3, l4], [.ref k1, .ref k0], h) Q = Tr sc d 82 (62, [l0, some (.int x), l2, l3, l4], [.int x, .ref k1, .ref k0], h) Q := t_iload_n k_82_61 rfl
theorem k_82_62 : lk 82 62 = some (.iaload, 63, 0, 0, .null) := by decide +kernel
theorem x_82_62 : Tr sc d 82 (62, [l0, l1, l2, l3, l4], [.int i2, .ref k1, .ref k0], h) Q = (iOk sc h k1 i2 ∧ Tr sc d 82 (63, [l0, l1, l2, l3, l4], [.int (iRd sc h k1 i2), .ref k0], h) Q) := t_iald k_82_62
theorem k_82_63 : lk 82 63 = some (.aload_n 0, 64, 0, 0, .null) := by decide +kernel
theorem x_82_63 : Tr sc d 82 (63, [some (.ref xk), l1, l2, l3, l4], [.int i1, .ref k0], h) Q = Tr sc d 82 (64, [some (.ref xk), l1, l2, l3, l4], [.ref xk, .int i1, .ref k0], h) Q := t_aload_n k_82_63 rfl
theorem k_82_64 : lk 82 64 = some (.getfield 32, 67, 7, 6, .null) := by decide +kernel
theorem x_82_64 : Tr sc d 82 (64, [l0, l1, l2, l3, l4], [.ref k2, .int i1, .ref k0], h) Q = (okp h k2 7 = true ∧ ∃ q, hR h k2 6 = some q ∧ Tr sc d 82 (67, [l0, l1, l2, l3, l4], [.ref q, .int i1, .ref k0], h) Q) := t_getr k_82_64
theorem k_82_67 : lk 82 67 = some (.iload_n 1, 68, 1, 0, .null) := by decide +kernel
theorem x_82_67 : Tr sc d 82 (67, [l0, some (.int x), l2, l3, l4], [.ref k2, .int i1, .ref k0], h) Q = Tr sc d 82 (68, [l0, some (.int x), l2, l3, l4], [.int x, .ref k2, .int i1, .ref k0], h) Q := t_iload_n k_82_67 rfl
theorem k_82_68 : lk 82 68 = some (.iaload, 69, 0, 0, .null) := by decide +kernel
theorem x_82_68 : Tr sc d 82 (68, [l0, l1, l2, l3, l4], [.int i3, .ref k2, .int i1, .ref k0], h) Q = (iOk sc h k2 i3 ∧ Tr sc d 82 (69, [l0, l1, l2, l3, l4], [.int (iRd sc h k2 i3), .int i1, .ref k0], h) Q) := t_iald k_82_68
theorem k_82_69 : lk 82 69 = some (.invokevirtual 92, 72, 83, 2, .null) := by decide +kernel
theorem x_82_69 : Tr sc (d + 1) 82 (69, [l0, l1, l2, l3, l4], [.int i2, .int i1, .ref k0], h) Q = (okp h k0 7 = true ∧ Tr sc d 83 (ent0 83 [.ref k0, .int i1, .int i2] h) (fun z => Tr sc (d + 1) 82 (72, [l0, l1, l2, l3, l4], z.1.toList ++ [], z.2) Q)) := t_cv (as := [.int i1, .int i2]) (r := []) k_82_69 rfl rfl (Nat.le_of_ble_eq_true rfl) (Nat.le_of_ble_eq_true rfl) (Nat.le_of_ble_eq_true rfl)
theorem k_82_72 : lk 82 72 = some (.iinc 1 1, 75, 1, 0, .int 1) := by decide +kernel
theorem x_82_72 : Tr sc d 82 (72, [l0, some (.int x), l2, l3, l4], [], h) Q = Tr sc d 82 (75, [cl2 l0, some (.int (x + 1)), l2, l3, l4], [], h) Q := t_inc k_82_72 rfl (Nat.le_of_ble_eq_true rfl)
theorem k_82_75 : lk 82 75 = some (.goto (-45), 78, 30, 0, .null) := by decide +kernel
theorem x_82_75 : Tr sc d 82 (75, [l0, l1, l2, l3, l4], [], h) Q = Tr sc d 82 (30, [l0, l1, l2, l3, l4], [], h) Q := t_go k_82_75 rfl
theorem k_82_78 : lk 82 78 = some (.iconst 0, 79, 0, 0, .int 0) := by decide +kernel
theorem x_82_78 : Tr sc d 82 (78, [l0, l1, l2, l3, l4], [], h) Q = Tr sc d 82 (79, [l0, l1, l2, l3, l4], [.int 0], h) Q := t_go k_82_78 rfl
theorem k_82_79 : lk 82 79 = some (.istore_n 1, 80, 1, 0, .null) := by decide +kernel
theorem x_82_79 : Tr sc d 82 (79, [l0, l1, l2, l3, l4], [.int i0], h) Q = Tr sc d 82 (80, [cl2 l0, some (.int i0), l2, l3, l4], [], h) Q := t_istore_n k_82_79 (Nat.le_of_ble_eq_true rfl)
theorem k_82_80 : lk 82 80 = some (.iload_n 1, 81, 1, 0, .null) := by decide +kernel
theorem x_82_80 : Tr sc d 82 (80, [l0, some (.int x), l2, l3, l4], [], h) Q = Tr sc d 82 (81, [l0, some (.int x), l2, l3, l4], [.int x], h) Q := t_iload_n k_82_80 rfl
theorem k_82_81 : lk 82 81 = some (.aload_n 0, 82, 0, 0, .null) := by decide +kernel
theorem x_82_81 : Tr sc d 82 (81, [some (.ref xk), l1, l2, l3, l4], [.int i0], h) Q = Tr sc d 82 (82, [some (.ref xk), l1, l2, l3, l4], [.ref xk, .int i0], h) Q := t_aload_n k_82_81 rfl
theorem k_82_82 : lk 82 82 = some (.getfield 35, 85, 7, 7, .int 0) := by decide +kernel
theorem x_82_82 : Tr sc d 82 (82, [l0, l1, l2, l3, l4], [.ref k1, .int i0], h) Q = (okp h k1 7 = true ∧ Tr sc d 82 (85, [l0, l1, l2, l3, l4], [.int (hI h k1 7), .int i0], h) Q) := t_gd k_82_82 rfl
theorem k_82_85 : lk 82 85 = some (.if_icmp .ge 88, 88, 173, 0, .null) := by decide +kernel
theorem x_82_85 : Tr sc d 82 (85, [l0, l1, l2, l3, l4], [.int i1, .int i0], h) Q = if i1 ≤ i0 then Tr sc d 82 (173, [l0, l1, l2, l3, l4], [], h) Q else Tr sc d 82 (88, [l0, l1, l2, l3, l4], [], h) Q := t_if k_82_85 rfl
theorem k_82_88 : lk 82 88 = some (.iload_n 1, 89, 1, 0, .null) := by decide +kernel
theorem x_82_88 : Tr sc d 82 (88, [l0, some (.int x), l2, l3, l4], [], h) Q = Tr sc d 82 (89, [l0, some (.int x), l2, l3, l4], [.int x], h) Q := t_iload_n k_82_88 rfl
theorem k_82_89 : lk 82 89 = some (.sipush 1369, 92, 0, 0, .int 1369) := by decide +kernel
theorem x_82_89 : Tr sc d 82 (89, [l0, l1, l2, l3, l4], [.int i0], h) Q = Tr sc d 82 (92, [l0, l1, l2, l3, l4], [.int 1369, .int i0], h) Q := t_go k_82_89 rfl
theorem k_82_92 : lk 82 92 = some (.if_icmp .ge 81, 95, 173, 0, .null) := by decide +kernel
theorem x_82_92 : Tr sc d 82 (92, [l0, l1, l2, l3, l4], [.int i1, .int i0], h) Q = if i1 ≤ i0 then Tr sc d 82 (173, [l0, l1, l2, l3, l4], [], h) Q else Tr sc d 82 (95, [l0, l1, l2, l3, l4], [], h) Q := t_if k_82_92 rfl
theorem k_82_95 : lk 82 95 = some (.aload_n 0, 96, 0, 0, .null) := by decide +kernel
theorem x_82_95 : Tr sc d 82 (95, [some (.ref xk), l1, l2, l3, l4], [], h) Q = Tr sc d 82 (96, [some (.ref xk), l1, l2, l3, l4], [.ref xk], h) Q := t_aload_n k_82_95 rfl
theorem k_82_96 : lk 82 96 = some (.getfield 42, 99, 7, 9, .int 0) := by decide +kernel
theorem x_82_96 : Tr sc d 82 (96, [l0, l1, l2, l3, l4], [.ref k0], h) Q = (okp h k0 7 = true ∧ Tr sc d 82 (99, [l0, l1, l2, l3, l4], [.int (hI h k0 9)], h) Q) := t_gd k_82_96 rfl
theorem k_82_99 : lk 82 99 = some (.aload_n 0, 100, 0, 0, .null) := by decide +kernel
theorem x_82_99 : Tr sc d 82 (99, [some (.ref xk), l1, l2, l3, l4], [.int i0], h) Q = Tr sc d 82 (100, [some (.ref xk), l1, l2, l3, l4], [.ref xk, .int i0], h) Q := t_aload_n k_82_99 rfl
theorem k_82_100 : lk 82 100 = some (.aload_n 0, 101, 0, 0, .null) := by decide +kernel
theorem x_82_100 : Tr sc d 82 (100, [some (.ref xk), l1, l2, l3, l4], [.ref k1, .int i0], h) Q = Tr sc d 82 (101, [some (.ref xk), l1, l2, l3, l4], [.ref xk, .ref k1, .int i0], h) Q := t_aload_n k_82_100 rfl
theorem k_82_101 : lk 82 101 = some (.getfield 18, 104, 7, 2, .null) := by decide +kernel
theorem x_82_101 : Tr sc d 82 (101, [l0, l1, l2, l3, l4], [.ref k2, .ref k1, .int i0], h) Q = (okp h k2 7 = true ∧ ∃ q, hR h k2 2 = some q ∧ Tr sc d 82 (104, [l0, l1, l2, l3, l4], [.ref q, .ref k1, .int i0], h) Q) := t_getr k_82_101
theorem k_82_104 : lk 82 104 = some (.iload_n 1, 105, 1, 0, .null) := by decide +kernel
theorem x_82_104 : Tr sc d 82 (104, [l0, some (.int x), l2, l3, l4], [.ref k2, .ref k1, .int i0], h) Q = Tr sc d 82 (105, [l0, some (.int x), l2, l3, l4], [.int x, .ref k2, .ref k1, .int i0], h) Q := t_iload_n k_82_104 rfl
theorem k_82_105 : lk 82 105 = some (.iaload, 106, 0, 0, .null) := by decide +kernel
theorem x_82_105 : Tr sc d 82 (105, [l0, l1, l2, l3, l4], [.int i3, .ref k2, .ref k1, .int i0], h) Q = (iOk sc h k2 i3 ∧ Tr sc d 82 (106, [l0, l1, l2, l3, l4], [.int (iRd sc h k2 i3), .ref k1, .int i0], h) Q) := t_iald k_82_105
theorem k_82_106 : lk 82 106 = some (.invokevirtual 77, 109, 76, 1, .null) := by decide +kernel
theorem x_82_106 : Tr sc (d + 1) 82 (106, [l0, l1, l2, l3, l4], [.int i2, .ref k1, .int i0], h) Q = (okp h k1 7 = true ∧ Tr sc d 76 (ent0 76 [.ref k1, .int i2] h) (fun z => Tr sc (d + 1) 82 (109, [l0, l1, l2, l3, l4], z.1.toList ++ [.int i0], z.2) Q)) := t_cv (as := [.int i2]) (r := [.int i0]) k_82_106 rfl rfl (Nat.le_of_ble_eq_true rfl) (Nat.le_of_ble_eq_true rfl) (Nat.le_of_ble_eq_true rfl)
theorem k_82_109 : lk 82 109 = some (.imul, 110, 0, 0, .null) := by decide +kernel
theorem x_82_109 : Tr sc d 82 (109, [l0, l1, l2, l3, l4], [.int i1, .int i0], h) Q = Tr sc d 82 (110, [l0, l1, l2, l3, l4], [.int (i0 * i1)], h) Q := t_go k_82_109 rfl
theorem k_82_110 : lk 82 110 = some (.istore_n 2, 111, 2, 0, .null) := by decide +kernel
theorem x_82_110 : Tr sc d 82 (110, [l0, l1, l2, l3, l4], [.int i0], h) Q = Tr sc d 82 (111, [l0, cl2 l1, some (.int i0), l3, l4], [], h) Q := t_istore_n k_82_110 (Nat.le_of_ble_eq_true rfl)
theorem k_82_111 : lk 82 111 = some (.aload_n 0, 112, 0, 0, .null) := by decide +kernel
theorem x_82_111 : Tr sc d 82 (111, [some (.ref xk), l1, l2, l3, l4], [], h) Q = Tr sc d 82 (112, [some (.ref xk), l1, l2, l3, l4], [.ref xk], h) Q := t_aload_n k_82_111 rfl
theorem k_82_112 : lk 82 112 = some (.getfield 42, 115, 7, 9, .int 0) := by decide +kernel
theorem x_82_112 : Tr sc d 82 (112, [l0, l1, l2, l3, l4], [.ref k0], h) Q = (okp h k0 7 = true ∧ Tr sc d 82 (115, [l0, l1, l2, l3, l4], [.int (hI h k0 9)], h) Q) := t_gd k_82_112 rfl
theorem k_82_115 : lk 82 115 = some (.aload_n 0, 116, 0, 0, .null) := by decide +kernel
theorem x_82_115 : Tr sc d 82 (115, [some (.ref xk), l1, l2, l3, l4], [.int i0], h) Q = Tr sc d 82 (116, [some (.ref xk), l1, l2, l3, l4], [.ref xk, .int i0], h) Q := t_aload_n k_82_115 rfl
theorem k_82_116 : lk 82 116 = some (.aload_n 0, 117, 0, 0, .null) := by decide +kernel
theorem x_82_116 : Tr sc d 82 (116, [some (.ref xk), l1, l2, l3, l4], [.ref k1, .int i0], h) Q = Tr sc d 82 (117, [some (.ref xk), l1, l2, l3, l4], [.ref xk, .ref k1, .int i0], h) Q := t_aload_n k_82_116 rfl
theorem k_82_117 : lk 82 117 = some (.getfield 18, 120, 7, 2, .null) := by decide +kernel
theorem x_82_117 : Tr sc d 82 (117, [l0, l1, l2, l3, l4], [.ref k2, .ref k1, .int i0], h) Q = (okp h k2 7 = true ∧ ∃ q, hR h k2 2 = some q ∧ Tr sc d 82 (120, [l0, l1, l2, l3, l4], [.ref q, .ref k1, .int i0], h) Q) := t_getr k_82_117
theorem k_82_120 : lk 82 120 = some (.iload_n 1, 121, 1, 0, .null) := by decide +kernel
theorem x_82_120 : Tr sc d 82 (120, [l0, some (.int x), l2, l3, l4], [.ref k2, .ref k1, .int i0], h) Q = Tr sc d 82 (121, [l0, some (.int x), l2, l3, l4], [.int x, .ref k2, .ref k1, .int i0], h) Q := t_iload_n k_82_120 rfl
theorem k_82_121 : lk 82 121 = some (.iaload, 122, 0, 0, .null) := by decide +kernel
theorem x_82_121 : Tr sc d 82 (121, [l0, l1, l2, l3, l4], [.int i3, .ref k2, .ref k1, .int i0], h) Q = (iOk sc h k2 i3 ∧ Tr sc d 82 (122, [l0, l1, l2, l3, l4], [.int (iRd sc h k2 i3), .ref k1, .int i0], h) Q) := t_iald k_82_121
theorem k_82_122 : lk 82 122 = some (.invokevirtual 81, 125, 77, 1, .null) := by decide +kernel
theorem x_82_122 : Tr sc (d + 1) 82 (122, [l0, l1, l2, l3, l4], [.int i2, .ref k1, .int i0], h) Q = (okp h k1 7 = true ∧ Tr sc d 77 (ent0 77 [.ref k1, .int i2] h) (fun z => Tr sc (d + 1) 82 (125, [l0, l1, l2, l3, l4], z.1.toList ++ [.int i0], z.2) Q)) := t_cv (as := [.int i2]) (r := [.int i0]) k_82_122 rfl rfl (Nat.le_of_ble_eq_true rfl) (Nat.le_of_ble_eq_true rfl) (Nat.le_of_ble_eq_true rfl)
theorem k_82_125 : lk 82 125 = some (.imul, 126, 0, 0, .null) := by decide +kernel
theorem x_82_125 : Tr sc d 82 (125, [l0, l1, l2, l3, l4], [.int i1, .int i0], h) Q = Tr sc d 82 (126, [l0, l1, l2, l3, l4], [.int (i0 * i1)], h) Q := t_go k_82_125 rfl
theorem k_82_126 : lk 82 126 = some (.istore_n 3, 127, 3, 0, .null) := by decide +kernel
theorem x_82_126 : Tr sc d 82 (126, [l0, l1, l2, l3, l4], [.int i0], h) Q = Tr sc d 82 (127, [l0, l1, cl2 l2, some (.int i0), l4], [], h) Q := t_istore_n k_82_126 (Nat.le_of_ble_eq_true rfl)
theorem k_82_127 : lk 82 127 = some (.iconst 0, 128, 0, 0, .int 0) := by decide +kernel
theorem x_82_127 : Tr sc d 82 (127, [l0, l1, l2, l3, l4], [], h) Q = Tr sc d 82 (128, [l0, l1, l2, l3, l4], [.int 0], h) Q := t_go k_82_127 rfl
theorem k_82_128 : lk 82 128 = some (.istore 4, 130, 4, 0, .null) := by decide +kernel
theorem x_82_128 : Tr sc d 82 (128, [l0, l1, l2, l3, l4], [.int i0], h) Q = Tr sc d 82 (130, [l0, l1, l2, cl2 l3, some (.int i0)], [], h) Q := t_istore k_82_128 (Nat.le_of_ble_eq_true rfl)
theorem k_82_130 : lk 82 130 = some (.iload 4, 132, 4, 0, .null) := by decide +kernel
theorem x_82_130 : Tr sc d 82 (130, [l0, l1, l2, l3, some (.int x)], [], h) Q = Tr sc d 82 (132, [l0, l1, l2, l3, some (.int x)], [.int x], h) Q := t_iload k_82_130 rfl
theorem k_82_132 : lk 82 132 = some (.aload_n 0, 133, 0, 0, .null) := by decide +kernel
theorem x_82_132 : Tr sc d 82 (132, [some (.ref xk), l1, l2, l3, l4], [.int i0], h) Q = Tr sc d 82 (133, [some (.ref xk), l1, l2, l3, l4], [.ref xk, .int i0], h) Q := t_aload_n k_82_132 rfl
theorem k_82_133 : lk 82 133 = some (.getfield 39, 136, 7, 8, .int 0) := by decide +kernel
theorem x_82_133 : Tr sc d 82 (133, [l0, l1, l2, l3, l4], [.ref k1, .int i0], h) Q = (okp h k1 7 = true ∧ Tr sc d 82 (136, [l0, l1, l2, l3, l4], [.int (hI h k1 8), .int i0], h) Q) := t_gd k_82_133 rfl
theorem k_82_136 : lk 82 136 = some (.if_icmp .ge 31, 139, 167, 0, .null) := by decide +kernel
theorem x_82_136 : Tr sc d 82 (136, [l0, l1, l2, l3, l4], [.int i1, .int i0], h) Q = if i1 ≤ i0 then Tr sc d 82 (167, [l0, l1, l2, l3, l4], [], h) Q else Tr sc d 82 (139, [l0, l1, l2, l3, l4], [], h) Q := t_if k_82_136 rfl
theorem k_82_139 : lk 82 139 = some (.aload_n 0, 140, 0, 0, .null) := by decide +kernel
theorem x_82_139 : Tr sc d 82 (139, [some (.ref xk), l1, l2, l3, l4], [], h) Q = Tr sc d 82 (140, [some (.ref xk), l1, l2, l3, l4], [.ref xk], h) Q := t_aload_n k_82_139 rfl
theorem k_82_140 : lk 82 140 = some (.iload_n 2, 141, 2, 0, .null) := by decide +kernel
theorem x_82_140 : Tr sc d 82 (140, [l0, l1, some (.int x), l3, l4], [.ref k0], h) Q = Tr sc d 82 (141, [l0, l1, some (.int x), l3, l4], [.int x, .ref k0], h) Q := t_iload_n k_82_140 rfl
theorem k_82_141 : lk 82 141 = some (.aload_n 0, 142, 0, 0, .null) := by decide +kernel
theorem x_82_141 : Tr sc d 82 (141, [some (.ref xk), l1, l2, l3, l4], [.int i1, .ref k0], h) Q = Tr sc d 82 (142, [some (.ref xk), l1, l2, l3, l4], [.ref xk, .int i1, .ref k0], h) Q := t_aload_n k_82_141 rfl
theorem k_82_142 : lk 82 142 = some (.getfield 29, 145, 7, 5, .null) := by decide +kernel
theorem x_82_142 : Tr sc d 82 (142, [l0, l1, l2, l3, l4], [.ref k2, .int i1, .ref k0], h) Q = (okp h k2 7 = true ∧ ∃ q, hR h k2 5 = some q ∧ Tr sc d 82 (145, [l0, l1, l2, l3, l4], [.ref q, .int i1, .ref k0], h) Q) := t_getr k_82_142
theorem k_82_145 : lk 82 145 = some (.iload 4, 147, 4, 0, .null) := by decide +kernel
theorem x_82_145 : Tr sc d 82 (145, [l0, l1, l2, l3, some (.int x)], [.ref k2, .int i1, .ref k0], h) Q = Tr sc d 82 (147, [l0, l1, l2, l3, some (.int x)], [.int x, .ref k2, .int i1, .ref k0], h) Q := t_iload k_82_145 rfl
theorem k_82_147 : lk 82 147 = some (.iaload, 148, 0, 0, .null) := by decide +kernel
theorem x_82_147 : Tr sc d 82 (147, [l0, l1, l2, l3, l4], [.int i3, .ref k2, .int i1, .ref k0], h) Q = (iOk sc h k2 i3 ∧ Tr sc d 82 (148, [l0, l1, l2, l3, l4], [.int (iRd sc h k2 i3), .int i1, .ref k0], h) Q) := t_iald k_82_147
theorem k_82_148 : lk 82 148 = some (.iadd, 149, 0, 0, .null) := by decide +kernel
theorem x_82_148 : Tr sc d 82 (148, [l0, l1, l2, l3, l4], [.int i2, .int i1, .ref k0], h) Q = Tr sc d 82 (149, [l0, l1, l2, l3, l4], [.int (i1 + i2), .ref k0], h) Q := t_go k_82_148 rfl
theorem k_82_149 : lk 82 149 = some (.iload_n 3, 150, 3, 0, .null) := by decide +kernel
theorem x_82_149 : Tr sc d 82 (149, [l0, l1, l2, some (.int x), l4], [.int i1, .ref k0], h) Q = Tr sc d 82 (150, [l0, l1, l2, some (.int x), l4], [.int x, .int i1, .ref k0], h) Q := t_iload_n k_82_149 rfl
theorem k_82_150 : lk 82 150 = some (.aload_n 0, 151, 0, 0, .null) := by decide +kernel
theorem x_82_150 : Tr sc d 82 (150, [some (.ref xk), l1, l2, l3, l4], [.int i2, .int i1, .ref k0], h) Q = Tr sc d 82 (151, [some (.ref xk), l1, l2, l3, l4], [.ref xk, .int i2, .int i1, .ref k0], h) Q := t_aload_n k_82_150 rfl
theorem k_82_151 : lk 82 151 = some (.getfield 32, 154, 7, 6, .null) := by decide +kernel
theorem x_82_151 : Tr sc d 82 (151, [l0, l1, l2, l3, l4], [.ref k3, .int i2, .int i1, .ref k0], h) Q = (okp h k3 7 = true ∧ ∃ q, hR h k3 6 = some q ∧ Tr sc d 82 (154, [l0, l1, l2, l3, l4], [.ref q, .int i2, .int i1, .ref k0], h) Q) := t_getr k_82_151
theorem k_82_154 : lk 82 154 = some (.iload 4, 156, 4, 0, .null) := by decide +kernel
theorem x_82_154 : Tr sc d 82 (154, [l0, l1, l2, l3, some (.int x)], [.ref k3, .int i2, .int i1, .ref k0], h) Q = Tr sc d 82 (156, [l0, l1, l2, l3, some (.int x)], [.int x, .ref k3, .int i2, .int i1, .ref k0], h) Q := t_iload k_82_154 rfl
theorem k_82_156 : lk 82 156 = some (.iaload, 157, 0, 0, .null) := by decide +kernel
theorem x_82_156 : Tr sc d 82 (156, [l0, l1, l2, l3, l4], [.int i4, .ref k3, .int i2, .int i1, .ref k0], h) Q = (iOk sc h k3 i4 ∧ Tr sc d 82 (157, [l0, l1, l2, l3, l4], [.int (iRd sc h k3 i4), .int i2, .int i1, .ref k0], h) Q) := t_iald k_82_156
theorem k_82_157 : lk 82 157 = some (.iadd, 158, 0, 0, .null) := by decide +kernel
theorem x_82_157 : Tr sc d 82 (157, [l0, l1, l2, l3, l4], [.int i3, .int i2, .int i1, .ref k0], h) Q = Tr sc d 82 (158, [l0, l1, l2, l3, l4], [.int (i2 + i3), .int i1, .ref k0], h) Q := t_go k_82_157 rfl
theorem k_82_158 : lk 82 158 = some (.invokevirtual 92, 161, 83, 2, .null) := by decide +kernel
theorem x_82_158 : Tr sc (d + 1) 82 (158, [l0, l1, l2, l3, l4], [.int i2, .int i1, .ref k0], h) Q = (okp h k0 7 = true ∧ Tr sc d 83 (ent0 83 [.ref k0, .int i1, .int i2] h) (fun z => Tr sc (d + 1) 82 (161, [l0, l1, l2, l3, l4], z.1.toList ++ [], z.2) Q)) := t_cv (as := [.int i1, .int i2]) (r := []) k_82_158 rfl rfl (Nat.le_of_ble_eq_true rfl) (Nat.le_of_ble_eq_true rfl) (Nat.le_of_ble_eq_true rfl)
theorem k_82_161 : lk 82 161 = some (.iinc 4 1, 164, 4, 0, .int 1) := by decide +kernel
theorem x_82_161 : Tr sc d 82 (161, [l0, l1, l2, l3, some (.int x)], [], h) Q = Tr sc d 82 (164, [l0, l1, l2, cl2 l3, some (.int (x + 1))], [], h) Q := t_inc k_82_161 rfl (Nat.le_of_ble_eq_true rfl)
theorem k_82_164 : lk 82 164 = some (.goto (-34), 167, 130, 0, .null) := by decide +kernel
theorem x_82_164 : Tr sc d 82 (164, [l0, l1, l2, l3, l4], [], h) Q = Tr sc d 82 (130, [l0, l1, l2, l3, l4], [], h) Q := t_go k_82_164 rfl
theorem k_82_167 : lk 82 167 = some (.iinc 1 1, 170, 1, 0, .int 1) := by decide +kernel
theorem x_82_167 : Tr sc d 82 (167, [l0, some (.int x), l2, l3, l4], [], h) Q = Tr sc d 82 (170, [cl2 l0, some (.int (x + 1)), l2, l3, l4], [], h) Q := t_inc k_82_167 rfl (Nat.le_of_ble_eq_true rfl)
theorem k_82_170 : lk 82 170 = some (.goto (-90), 173, 80, 0, .null) := by decide +kernel
theorem x_82_170 : Tr sc d 82 (170, [l0, l1, l2, l3, l4], [], h) Q = Tr sc d 82 (80, [l0, l1, l2, l3, l4], [], h) Q := t_go k_82_170 rfl
theorem k_82_173 : lk 82 173 = some (.aload_n 0, 174, 0, 0, .null) := by decide +kernel
theorem x_82_173 : Tr sc d 82 (173, [some (.ref xk), l1, l2, l3, l4], [], h) Q = Tr sc d 82 (174, [some (.ref xk), l1, l2, l3, l4], [.ref xk], h) Q := t_aload_n k_82_173 rfl
theorem k_82_174 : lk 82 174 = some (.getfield 15, 177, 7, 1, .null) := by decide +kernel
theorem x_82_174 : Tr sc d 82 (174, [l0, l1, l2, l3, l4], [.ref k0], h) Q = (okp h k0 7 = true ∧ ∃ q, hR h k0 1 = some q ∧ Tr sc d 82 (177, [l0, l1, l2, l3, l4], [.ref q], h) Q) := t_getr k_82_174
theorem k_82_177 : lk 82 177 = some (.aload_n 0, 178, 0, 0, .null) := by decide +kernel
theorem x_82_177 : Tr sc d 82 (177, [some (.ref xk), l1, l2, l3, l4], [.ref k0], h) Q = Tr sc d 82 (178, [some (.ref xk), l1, l2, l3, l4], [.ref xk, .ref k0], h) Q := t_aload_n k_82_177 rfl
theorem k_82_178 : lk 82 178 = some (.getfield 51, 181, 7, 12, .int 0) := by decide +kernel
theorem x_82_178 : Tr sc d 82 (178, [l0, l1, l2, l3, l4], [.ref k1, .ref k0], h) Q = (okp h k1 7 = true ∧ Tr sc d 82 (181, [l0, l1, l2, l3, l4], [.int (hI h k1 12), .ref k0], h) Q) := t_gd k_82_178 rfl
theorem k_82_181 : lk 82 181 = some (.iconst 2, 182, 0, 0, .int 2) := by decide +kernel
theorem x_82_181 : Tr sc d 82 (181, [l0, l1, l2, l3, l4], [.int i1, .ref k0], h) Q = Tr sc d 82 (182, [l0, l1, l2, l3, l4], [.int 2, .int i1, .ref k0], h) Q := t_go k_82_181 rfl
theorem k_82_182 : lk 82 182 = some (.idiv, 183, 0, 0, .null) := by decide +kernel
theorem x_82_182 : Tr sc d 82 (182, [l0, l1, l2, l3, l4], [.int i2, .int i1, .ref k0], h) Q = (¬ i2 = 0 ∧ Tr sc d 82 (183, [l0, l1, l2, l3, l4], [.int (i1 / i2), .ref k0], h) Q) := t_ng k_82_182 rfl
theorem k_82_183 : lk 82 183 = some (.baload, 184, 0, 0, .null) := by decide +kernel
theorem x_82_183 : Tr sc d 82 (183, [l0, l1, l2, l3, l4], [.int i1, .ref k0], h) Q = ((okp h k0 13 && inb i1 (LN k0)) = true ∧ Tr sc d 82 (184, [l0, l1, l2, l3, l4], [.int (hI h k0 i1.toNatClampNeg)], h) Q) := t_gd k_82_183 rfl
theorem k_82_184 : lk 82 184 = some (.ireturn, 185, 0, 0, .null) := by decide +kernel
theorem x_82_184 : Tr sc d 82 (184, [l0, l1, l2, l3, l4], [.int i0], h) Q = (vp_nar .boolean i0 = i0 ∧ Q (some (.int i0), h)) := t_zret k_82_184 r_82
theorem e_82 : Tr sc d 82 (ent0 82 [.ref k0] h) Q = Tr sc d 82 (0, [some (.ref k0), none, none, none, none], [], h) Q := by
  have e : mL 82 = 5 := by decide +kernel
  unfold ent0
  rw [e]
  rfl
theorem r_83 : mR 83 = none := by decide +kernel
theorem k_83_0 : lk 83 0 = some (.aload_n 0, 1, 0, 0, .null) := by decide +kernel
theorem x_83_0 : Tr sc d 83 (0, [some (.ref xk), l1, l2, l3], [], h) Q = Tr sc d 83 (1, [some (.ref xk), l1, l2, l3], [.ref xk], h) Q := t_aload_n k_83_0 rfl
theorem k_83_1 : lk 83 1 = some (.iload_n 1, 2, 1, 0, .null) := by decide +kernel
theorem x_83_1 : Tr sc d 83 (1, [l0, some (.int x), l2, l3], [.ref k0], h) Q = Tr sc d 83 (2, [l0, some (.int x), l2, l3], [.int x, .ref k0], h) Q := t_iload_n k_83_1 rfl
theorem k_83_2 : lk 83 2 = some (.iload_n 2, 3, 2, 0, .null) := by decide +kernel
theorem x_83_2 : Tr sc d 83 (2, [l0, l1, some (.int x), l3], [.int i1, .ref k0], h) Q = Tr sc d 83 (3, [l0, l1, some (.int x), l3], [.int x, .int i1, .ref k0], h) Q := t_iload_n k_83_2 rfl
theorem k_83_3 : lk 83 3 = some (.invokevirtual 84, 6, 78, 2, .null) := by decide +kernel
theorem x_83_3 : Tr sc (d + 1) 83 (3, [l0, l1, l2, l3], [.int i2, .int i1, .ref k0], h) Q = (okp h k0 7 = true ∧ Tr sc d 78 (ent0 78 [.ref k0, .int i1, .int i2] h) (fun z => Tr sc (d + 1) 83 (6, [l0, l1, l2, l3], z.1.toList ++ [], z.2) Q)) := t_cv (as := [.int i1, .int i2]) (r := []) k_83_3 rfl rfl (Nat.le_of_ble_eq_true rfl) (Nat.le_of_ble_eq_true rfl) (Nat.le_of_ble_eq_true rfl)
theorem k_83_6 : lk 83 6 = some (.istore_n 3, 7, 3, 0, .null) := by decide +kernel
theorem x_83_6 : Tr sc d 83 (6, [l0, l1, l2, l3], [.int i0], h) Q = Tr sc d 83 (7, [l0, l1, cl2 l2, some (.int i0)], [], h) Q := t_istore_n k_83_6 (Nat.le_of_ble_eq_true rfl)
theorem k_83_7 : lk 83 7 = some (.iload_n 3, 8, 3, 0, .null) := by decide +kernel
theorem x_83_7 : Tr sc d 83 (7, [l0, l1, l2, some (.int x)], [], h) Q = Tr sc d 83 (8, [l0, l1, l2, some (.int x)], [.int x], h) Q := t_iload_n k_83_7 rfl
theorem k_83_8 : lk 83 8 = some (.ifCond .lt 39, 11, 47, 0, .null) := by decide +kernel
theorem x_83_8 : Tr sc d 83 (8, [l0, l1, l2, l3], [.int i0], h) Q = if i0 < 0 then Tr sc d 83 (47, [l0, l1, l2, l3], [], h) Q else Tr sc d 83 (11, [l0, l1, l2, l3], [], h) Q := t_if k_83_8 rfl
theorem k_83_11 : lk 83 11 = some (.aload_n 0, 12, 0, 0, .null) := by decide +kernel
theorem x_83_11 : Tr sc d 83 (11, [some (.ref xk), l1, l2, l3], [], h) Q = Tr sc d 83 (12, [some (.ref xk), l1, l2, l3], [.ref xk], h) Q := t_aload_n k_83_11 rfl
theorem k_83_12 : lk 83 12 = some (.getfield 15, 15, 7, 1, .null) := by decide +kernel
theorem x_83_12 : Tr sc d 83 (12, [l0, l1, l2, l3], [.ref k0], h) Q = (okp h k0 7 = true ∧ ∃ q, hR h k0 1 = some q ∧ Tr sc d 83 (15, [l0, l1, l2, l3], [.ref q], h) Q) := t_getr k_83_12
theorem k_83_15 : lk 83 15 = some (.iload_n 3, 16, 3, 0, .null) := by decide +kernel
theorem x_83_15 : Tr sc d 83 (15, [l0, l1, l2, some (.int x)], [.ref k0], h) Q = Tr sc d 83 (16, [l0, l1, l2, some (.int x)], [.int x, .ref k0], h) Q := t_iload_n k_83_15 rfl
theorem k_83_16 : lk 83 16 = some (.baload, 17, 0, 0, .null) := by decide +kernel
theorem x_83_16 : Tr sc d 83 (16, [l0, l1, l2, l3], [.int i1, .ref k0], h) Q = ((okp h k0 13 && inb i1 (LN k0)) = true ∧ Tr sc d 83 (17, [l0, l1, l2, l3], [.int (hI h k0 i1.toNatClampNeg)], h) Q) := t_gd k_83_16 rfl
theorem k_83_17 : lk 83 17 = some (.ifCond .ne 30, 20, 47, 0, .null) := by decide +kernel
theorem x_83_17 : Tr sc d 83 (17, [l0, l1, l2, l3], [.int i0], h) Q = if i0 = 0 then Tr sc d 83 (20, [l0, l1, l2, l3], [], h) Q else Tr sc d 83 (47, [l0, l1, l2, l3], [], h) Q := t_if k_83_17 rfl
theorem k_83_20 : lk 83 20 = some (.aload_n 0, 21, 0, 0, .null) := by decide +kernel
theorem x_83_20 : Tr sc d 83 (20, [some (.ref xk), l1, l2, l3], [], h) Q = Tr sc d 83 (21, [some (.ref xk), l1, l2, l3], [.ref xk], h) Q := t_aload_n k_83_20 rfl
theorem k_83_21 : lk 83 21 = some (.getfield 15, 24, 7, 1, .null) := by decide +kernel
theorem x_83_21 : Tr sc d 83 (21, [l0, l1, l2, l3], [.ref k0], h) Q = (okp h k0 7 = true ∧ ∃ q, hR h k0 1 = some q ∧ Tr sc d 83 (24, [l0, l1, l2, l3], [.ref q], h) Q) := t_getr k_83_21
theorem k_83_24 : lk 83 24 = some (.iload_n 3, 25, 3, 0, .null) := by decide +kernel
theorem x_83_24 : Tr sc d 83 (24, [l0, l1, l2, some (.int x)], [.ref k0], h) Q = Tr sc d 83 (25, [l0, l1, l2, some (.int x)], [.int x, .ref k0], h) Q := t_iload_n k_83_24 rfl
theorem k_83_25 : lk 83 25 = some (.iconst 1, 26, 0, 0, .int 1) := by decide +kernel
theorem x_83_25 : Tr sc d 83 (25, [l0, l1, l2, l3], [.int i1, .ref k0], h) Q = Tr sc d 83 (26, [l0, l1, l2, l3], [.int 1, .int i1, .ref k0], h) Q := t_go k_83_25 rfl
theorem k_83_26 : lk 83 26 = some (.bastore, 27, 0, 0, .null) := by decide +kernel
theorem x_83_26 : Tr sc d 83 (26, [l0, l1, l2, l3], [.int i2, .int i1, .ref k0], h) Q = ((okp h k0 13 && inb i1 (LN k0)) = true ∧ Tr sc d 83 (27, [l0, l1, l2, l3], [], (sI h k0 i1.toNatClampNeg (vp_nar .boolean i2))) Q) := t_gd k_83_26 rfl
theorem k_83_27 : lk 83 27 = some (.aload_n 0, 28, 0, 0, .null) := by decide +kernel
theorem x_83_27 : Tr sc d 83 (27, [some (.ref xk), l1, l2, l3], [], h) Q = Tr sc d 83 (28, [some (.ref xk), l1, l2, l3], [.ref xk], h) Q := t_aload_n k_83_27 rfl
theorem k_83_28 : lk 83 28 = some (.getfield 18, 31, 7, 2, .null) := by decide +kernel
theorem x_83_28 : Tr sc d 83 (28, [l0, l1, l2, l3], [.ref k0], h) Q = (okp h k0 7 = true ∧ ∃ q, hR h k0 2 = some q ∧ Tr sc d 83 (31, [l0, l1, l2, l3], [.ref q], h) Q) := t_getr k_83_28
theorem k_83_31 : lk 83 31 = some (.aload_n 0, 32, 0, 0, .null) := by decide +kernel
theorem x_83_31 : Tr sc d 83 (31, [some (.ref xk), l1, l2, l3], [.ref k0], h) Q = Tr sc d 83 (32, [some (.ref xk), l1, l2, l3], [.ref xk, .ref k0], h) Q := t_aload_n k_83_31 rfl
theorem k_83_32 : lk 83 32 = some (.getfield 35, 35, 7, 7, .int 0) := by decide +kernel
theorem x_83_32 : Tr sc d 83 (32, [l0, l1, l2, l3], [.ref k1, .ref k0], h) Q = (okp h k1 7 = true ∧ Tr sc d 83 (35, [l0, l1, l2, l3], [.int (hI h k1 7), .ref k0], h) Q) := t_gd k_83_32 rfl
theorem k_83_35 : lk 83 35 = some (.iload_n 3, 36, 3, 0, .null) := by decide +kernel
theorem x_83_35 : Tr sc d 83 (35, [l0, l1, l2, some (.int x)], [.int i1, .ref k0], h) Q = Tr sc d 83 (36, [l0, l1, l2, some (.int x)], [.int x, .int i1, .ref k0], h) Q := t_iload_n k_83_35 rfl
theorem k_83_36 : lk 83 36 = some (.iastore, 37, 0, 0, .null) := by decide +kernel
theorem x_83_36 : Tr sc d 83 (36, [l0, l1, l2, l3], [.int i2, .int i1, .ref k0], h) Q = ((okp h k0 11 && inb i1 (LN k0)) = true ∧ Tr sc d 83 (37, [l0, l1, l2, l3], [], (sI h k0 i1.toNatClampNeg i2)) Q) := t_gd k_83_36 rfl
theorem k_83_37 : lk 83 37 = some (.aload_n 0, 38, 0, 0, .null) := by decide +kernel
theorem x_83_37 : Tr sc d 83 (37, [some (.ref xk), l1, l2, l3], [], h) Q = Tr sc d 83 (38, [some (.ref xk), l1, l2, l3], [.ref xk], h) Q := t_aload_n k_83_37 rfl
theorem k_83_38 : lk 83 38 = some (.dup, 39, 0, 0, .null) := by decide +kernel
theorem x_83_38 : Tr sc d 83 (38, [l0, l1, l2, l3], [.ref k0], h) Q = Tr sc d 83 (39, [l0, l1, l2, l3], [.ref k0, .ref k0], h) Q := t_go k_83_38 rfl
theorem k_83_39 : lk 83 39 = some (.getfield 35, 42, 7, 7, .int 0) := by decide +kernel
theorem x_83_39 : Tr sc d 83 (39, [l0, l1, l2, l3], [.ref k1, .ref k0], h) Q = (okp h k1 7 = true ∧ Tr sc d 83 (42, [l0, l1, l2, l3], [.int (hI h k1 7), .ref k0], h) Q) := t_gd k_83_39 rfl
theorem k_83_42 : lk 83 42 = some (.iconst 1, 43, 0, 0, .int 1) := by decide +kernel
theorem x_83_42 : Tr sc d 83 (42, [l0, l1, l2, l3], [.int i1, .ref k0], h) Q = Tr sc d 83 (43, [l0, l1, l2, l3], [.int 1, .int i1, .ref k0], h) Q := t_go k_83_42 rfl
theorem k_83_43 : lk 83 43 = some (.iadd, 44, 0, 0, .null) := by decide +kernel
theorem x_83_43 : Tr sc d 83 (43, [l0, l1, l2, l3], [.int i2, .int i1, .ref k0], h) Q = Tr sc d 83 (44, [l0, l1, l2, l3], [.int (i1 + i2), .ref k0], h) Q := t_go k_83_43 rfl
theorem k_83_44 : lk 83 44 = some (.putfield 35, 47, 7, 7, .int 0) := by decide +kernel
theorem x_83_44 : Tr sc d 83 (44, [l0, l1, l2, l3], [.int i1, .ref k0], h) Q = (okp h k0 7 = true ∧ Tr sc d 83 (47, [l0, l1, l2, l3], [], (sI h k0 7 i1)) Q) := t_gd k_83_44 rfl
theorem k_83_47 : lk 83 47 = some (.return_, 48, 0, 0, .null) := by decide +kernel
theorem x_83_47 : Tr sc d 83 (47, [l0, l1, l2, l3], [], h) Q = Q (none, h) := t_ret k_83_47 (by rw [r_83]; rfl)
theorem e_83 : Tr sc d 83 (ent0 83 [.ref k0, .int i1, .int i2] h) Q = Tr sc d 83 (0, [some (.ref k0), some (.int i1), some (.int i2), none], [], h) Q := by
  have e : mL 83 = 4 := by decide +kernel
  unfold ent0
  rw [e]
  rfl
theorem r_84 : mR 84 = some .long := by decide +kernel
theorem k_84_0 : lk 84 0 = some (.iconst 0, 1, 0, 0, .int 0) := by decide +kernel
theorem x_84_0 : Tr sc d 84 (0, [l0, l1, l2, l3, l4], [], h) Q = Tr sc d 84 (1, [l0, l1, l2, l3, l4], [.int 0], h) Q := t_go k_84_0 rfl
theorem k_84_1 : lk 84 1 = some (.istore_n 2, 2, 2, 0, .null) := by decide +kernel
theorem x_84_1 : Tr sc d 84 (1, [l0, l1, l2, l3, l4], [.int i0], h) Q = Tr sc d 84 (2, [l0, cl2 l1, some (.int i0), l3, l4], [], h) Q := t_istore_n k_84_1 (Nat.le_of_ble_eq_true rfl)
theorem k_84_2 : lk 84 2 = some (.iload_n 2, 3, 2, 0, .null) := by decide +kernel
theorem x_84_2 : Tr sc d 84 (2, [l0, l1, some (.int x), l3, l4], [], h) Q = Tr sc d 84 (3, [l0, l1, some (.int x), l3, l4], [.int x], h) Q := t_iload_n k_84_2 rfl
theorem k_84_3 : lk 84 3 = some (.aload_n 0, 4, 0, 0, .null) := by decide +kernel
theorem x_84_3 : Tr sc d 84 (3, [some (.ref xk), l1, l2, l3, l4], [.int i0], h) Q = Tr sc d 84 (4, [some (.ref xk), l1, l2, l3, l4], [.ref xk, .int i0], h) Q := t_aload_n k_84_3 rfl
theorem k_84_4 : lk 84 4 = some (.getfield 51, 7, 7, 12, .int 0) := by decide +kernel
theorem x_84_4 : Tr sc d 84 (4, [l0, l1, l2, l3, l4], [.ref k1, .int i0], h) Q = (okp h k1 7 = true ∧ Tr sc d 84 (7, [l0, l1, l2, l3, l4], [.int (hI h k1 12), .int i0], h) Q) := t_gd k_84_4 rfl
theorem k_84_7 : lk 84 7 = some (.if_icmp .ge 29, 10, 36, 0, .null) := by decide +kernel
theorem x_84_7 : Tr sc d 84 (7, [l0, l1, l2, l3, l4], [.int i1, .int i0], h) Q = if i1 ≤ i0 then Tr sc d 84 (36, [l0, l1, l2, l3, l4], [], h) Q else Tr sc d 84 (10, [l0, l1, l2, l3, l4], [], h) Q := t_if k_84_7 rfl
theorem k_84_10 : lk 84 10 = some (.aload_n 0, 11, 0, 0, .null) := by decide +kernel
theorem x_84_10 : Tr sc d 84 (10, [some (.ref xk), l1, l2, l3, l4], [], h) Q = Tr sc d 84 (11, [some (.ref xk), l1, l2, l3, l4], [.ref xk], h) Q := t_aload_n k_84_10 rfl
theorem k_84_11 : lk 84 11 = some (.getfield 22, 14, 7, 3, .null) := by decide +kernel
theorem x_84_11 : Tr sc d 84 (11, [l0, l1, l2, l3, l4], [.ref k0], h) Q = (okp h k0 7 = true ∧ ∃ q, hR h k0 3 = some q ∧ Tr sc d 84 (14, [l0, l1, l2, l3, l4], [.ref q], h) Q) := t_getr k_84_11
theorem k_84_14 : lk 84 14 = some (.iload_n 2, 15, 2, 0, .null) := by decide +kernel
theorem x_84_14 : Tr sc d 84 (14, [l0, l1, some (.int x), l3, l4], [.ref k0], h) Q = Tr sc d 84 (15, [l0, l1, some (.int x), l3, l4], [.int x, .ref k0], h) Q := t_iload_n k_84_14 rfl
theorem k_84_15 : lk 84 15 = some (.aload_n 0, 16, 0, 0, .null) := by decide +kernel
theorem x_84_15 : Tr sc d 84 (15, [some (.ref xk), l1, l2, l3, l4], [.int i1, .ref k0], h) Q = Tr sc d 84 (16, [some (.ref xk), l1, l2, l3, l4], [.ref xk, .int i1, .ref k0], h) Q := t_aload_n k_84_15 rfl
theorem k_84_16 : lk 84 16 = some (.getfield 11, 19, 7, 0, .null) := by decide +kernel
theorem x_84_16 : Tr sc d 84 (16, [l0, l1, l2, l3, l4], [.ref k2, .int i1, .ref k0], h) Q = (okp h k2 7 = true ∧ ∃ q, hR h k2 0 = some q ∧ Tr sc d 84 (19, [l0, l1, l2, l3, l4], [.ref q, .int i1, .ref k0], h) Q) := t_getr k_84_16
theorem k_84_19 : lk 84 19 = some (.iload_n 2, 20, 2, 0, .null) := by decide +kernel
theorem x_84_19 : Tr sc d 84 (19, [l0, l1, some (.int x), l3, l4], [.ref k2, .int i1, .ref k0], h) Q = Tr sc d 84 (20, [l0, l1, some (.int x), l3, l4], [.int x, .ref k2, .int i1, .ref k0], h) Q := t_iload_n k_84_19 rfl
theorem k_84_20 : lk 84 20 = some (.baload, 21, 0, 0, .null) := by decide +kernel
theorem x_84_20 : Tr sc d 84 (20, [l0, l1, l2, l3, l4], [.int i3, .ref k2, .int i1, .ref k0], h) Q = ((okp h k2 13 && inb i3 (LN k2)) = true ∧ Tr sc d 84 (21, [l0, l1, l2, l3, l4], [.int (hI h k2 i3.toNatClampNeg), .int i1, .ref k0], h) Q) := t_gd k_84_20 rfl
theorem k_84_21 : lk 84 21 = some (.ifCond .eq 7, 24, 28, 0, .null) := by decide +kernel
theorem x_84_21 : Tr sc d 84 (21, [l0, l1, l2, l3, l4], [.int i2, .int i1, .ref k0], h) Q = if i2 = 0 then Tr sc d 84 (28, [l0, l1, l2, l3, l4], [.int i1, .ref k0], h) Q else Tr sc d 84 (24, [l0, l1, l2, l3, l4], [.int i1, .ref k0], h) Q := t_if k_84_21 rfl
theorem k_84_24 : lk 84 24 = some (.lconst 1, 25, 0, 0, .long 1) := by decide +kernel
theorem x_84_24 : Tr sc d 84 (24, [l0, l1, l2, l3, l4], [.int i1, .ref k0], h) Q = Tr sc d 84 (25, [l0, l1, l2, l3, l4], [.long 1, .int i1, .ref k0], h) Q := t_go k_84_24 rfl
theorem k_84_25 : lk 84 25 = some (.goto 4, 28, 29, 0, .null) := by decide +kernel
theorem x_84_25 : Tr sc d 84 (25, [l0, l1, l2, l3, l4], [.long j2, .int i1, .ref k0], h) Q = Tr sc d 84 (29, [l0, l1, l2, l3, l4], [.long j2, .int i1, .ref k0], h) Q := t_go k_84_25 rfl
theorem k_84_28 : lk 84 28 = some (.lconst 0, 29, 0, 0, .long 0) := by decide +kernel
theorem x_84_28 : Tr sc d 84 (28, [l0, l1, l2, l3, l4], [.int i1, .ref k0], h) Q = Tr sc d 84 (29, [l0, l1, l2, l3, l4], [.long 0, .int i1, .ref k0], h) Q := t_go k_84_28 rfl
theorem k_84_29 : lk 84 29 = some (.lastore, 30, 0, 0, .null) := by decide +kernel
theorem x_84_29 : Tr sc d 84 (29, [l0, l1, l2, l3, l4], [.long j2, .int i1, .ref k0], h) Q = ((okp h k0 12 && inb i1 (LN k0)) = true ∧ Tr sc d 84 (30, [l0, l1, l2, l3, l4], [], (sL h k0 i1.toNatClampNeg j2)) Q) := t_gd k_84_29 rfl
theorem k_84_30 : lk 84 30 = some (.iinc 2 1, 33, 2, 0, .int 1) := by decide +kernel
theorem x_84_30 : Tr sc d 84 (30, [l0, l1, some (.int x), l3, l4], [], h) Q = Tr sc d 84 (33, [l0, cl2 l1, some (.int (x + 1)), l3, l4], [], h) Q := t_inc k_84_30 rfl (Nat.le_of_ble_eq_true rfl)
theorem k_84_33 : lk 84 33 = some (.goto (-31), 36, 2, 0, .null) := by decide +kernel
theorem x_84_33 : Tr sc d 84 (33, [l0, l1, l2, l3, l4], [], h) Q = Tr sc d 84 (2, [l0, l1, l2, l3, l4], [], h) Q := t_go k_84_33 rfl
theorem k_84_36 : lk 84 36 = some (.aload_n 0, 37, 0, 0, .null) := by decide +kernel
theorem x_84_36 : Tr sc d 84 (36, [some (.ref xk), l1, l2, l3, l4], [], h) Q = Tr sc d 84 (37, [some (.ref xk), l1, l2, l3, l4], [.ref xk], h) Q := t_aload_n k_84_36 rfl
theorem k_84_37 : lk 84 37 = some (.getfield 22, 40, 7, 3, .null) := by decide +kernel
theorem x_84_37 : Tr sc d 84 (37, [l0, l1, l2, l3, l4], [.ref k0], h) Q = (okp h k0 7 = true ∧ ∃ q, hR h k0 3 = some q ∧ Tr sc d 84 (40, [l0, l1, l2, l3, l4], [.ref q], h) Q) := t_getr k_84_37
theorem k_84_40 : lk 84 40 = some (.aload_n 0, 41, 0, 0, .null) := by decide +kernel
theorem x_84_40 : Tr sc d 84 (40, [some (.ref xk), l1, l2, l3, l4], [.ref k0], h) Q = Tr sc d 84 (41, [some (.ref xk), l1, l2, l3, l4], [.ref xk, .ref k0], h) Q := t_aload_n k_84_40 rfl
theorem k_84_41 : lk 84 41 = some (.getfield 51, 44, 7, 12, .int 0) := by decide +kernel
theorem x_84_41 : Tr sc d 84 (41, [l0, l1, l2, l3, l4], [.ref k1, .ref k0], h) Q = (okp h k1 7 = true ∧ Tr sc d 84 (44, [l0, l1, l2, l3, l4], [.int (hI h k1 12), .ref k0], h) Q) := t_gd k_84_41 rfl
theorem k_84_44 : lk 84 44 = some (.iconst 2, 45, 0, 0, .int 2) := by decide +kernel
theorem x_84_44 : Tr sc d 84 (44, [l0, l1, l2, l3, l4], [.int i1, .ref k0], h) Q = Tr sc d 84 (45, [l0, l1, l2, l3, l4], [.int 2, .int i1, .ref k0], h) Q := t_go k_84_44 rfl
theorem k_84_45 : lk 84 45 = some (.idiv, 46, 0, 0, .null) := by decide +kernel
theorem x_84_45 : Tr sc d 84 (45, [l0, l1, l2, l3, l4], [.int i2, .int i1, .ref k0], h) Q = (¬ i2 = 0 ∧ Tr sc d 84 (46, [l0, l1, l2, l3, l4], [.int (i1 / i2), .ref k0], h) Q) := t_ng k_84_45 rfl
theorem k_84_46 : lk 84 46 = some (.lconst 0, 47, 0, 0, .long 0) := by decide +kernel
theorem x_84_46 : Tr sc d 84 (46, [l0, l1, l2, l3, l4], [.int i1, .ref k0], h) Q = Tr sc d 84 (47, [l0, l1, l2, l3, l4], [.long 0, .int i1, .ref k0], h) Q := t_go k_84_46 rfl
theorem k_84_47 : lk 84 47 = some (.lastore, 48, 0, 0, .null) := by decide +kernel
theorem x_84_47 : Tr sc d 84 (47, [l0, l1, l2, l3, l4], [.long j2, .int i1, .ref k0], h) Q = ((okp h k0 12 && inb i1 (LN k0)) = true ∧ Tr sc d 84 (48, [l0, l1, l2, l3, l4], [], (sL h k0 i1.toNatClampNeg j2)) Q) := t_gd k_84_47 rfl
theorem k_84_48 : lk 84 48 = some (.iconst 0, 49, 0, 0, .int 0) := by decide +kernel
theorem x_84_48 : Tr sc d 84 (48, [l0, l1, l2, l3, l4], [], h) Q = Tr sc d 84 (49, [l0, l1, l2, l3, l4], [.int 0], h) Q := t_go k_84_48 rfl
theorem k_84_49 : lk 84 49 = some (.istore_n 2, 50, 2, 0, .null) := by decide +kernel
theorem x_84_49 : Tr sc d 84 (49, [l0, l1, l2, l3, l4], [.int i0], h) Q = Tr sc d 84 (50, [l0, cl2 l1, some (.int i0), l3, l4], [], h) Q := t_istore_n k_84_49 (Nat.le_of_ble_eq_true rfl)
theorem k_84_50 : lk 84 50 = some (.iload_n 2, 51, 2, 0, .null) := by decide +kernel
theorem x_84_50 : Tr sc d 84 (50, [l0, l1, some (.int x), l3, l4], [], h) Q = Tr sc d 84 (51, [l0, l1, some (.int x), l3, l4], [.int x], h) Q := t_iload_n k_84_50 rfl
theorem k_84_51 : lk 84 51 = some (.iload_n 1, 52, 1, 0, .null) := by decide +kernel
theorem x_84_51 : Tr sc d 84 (51, [l0, some (.int x), l2, l3, l4], [.int i0], h) Q = Tr sc d 84 (52, [l0, some (.int x), l2, l3, l4], [.int x, .int i0], h) Q := t_iload_n k_84_51 rfl
theorem k_84_52 : lk 84 52 = some (.if_icmp .ge 13, 55, 65, 0, .null) := by decide +kernel
theorem x_84_52 : Tr sc d 84 (52, [l0, l1, l2, l3, l4], [.int i1, .int i0], h) Q = if i1 ≤ i0 then Tr sc d 84 (65, [l0, l1, l2, l3, l4], [], h) Q else Tr sc d 84 (55, [l0, l1, l2, l3, l4], [], h) Q := t_if k_84_52 rfl
theorem k_84_55 : lk 84 55 = some (.aload_n 0, 56, 0, 0, .null) := by decide +kernel
theorem x_84_55 : Tr sc d 84 (55, [some (.ref xk), l1, l2, l3, l4], [], h) Q = Tr sc d 84 (56, [some (.ref xk), l1, l2, l3, l4], [.ref xk], h) Q := t_aload_n k_84_55 rfl
theorem k_84_56 : lk 84 56 = some (.invokevirtual 96, 59, 85, 0, .null) := by decide +kernel
theorem x_84_56 : Tr sc (d + 1) 84 (56, [l0, l1, l2, l3, l4], [.ref k0], h) Q = (okp h k0 7 = true ∧ Tr sc d 85 (ent0 85 [.ref k0] h) (fun z => Tr sc (d + 1) 84 (59, [l0, l1, l2, l3, l4], z.1.toList ++ [], z.2) Q)) := t_cv (as := []) (r := []) k_84_56 rfl rfl (Nat.le_of_ble_eq_true rfl) (Nat.le_of_ble_eq_true rfl) (Nat.le_of_ble_eq_true rfl)
theorem k_84_59 : lk 84 59 = some (.iinc 2 1, 62, 2, 0, .int 1) := by decide +kernel
theorem x_84_59 : Tr sc d 84 (59, [l0, l1, some (.int x), l3, l4], [], h) Q = Tr sc d 84 (62, [l0, cl2 l1, some (.int (x + 1)), l3, l4], [], h) Q := t_inc k_84_59 rfl (Nat.le_of_ble_eq_true rfl)
theorem k_84_62 : lk 84 62 = some (.goto (-12), 65, 50, 0, .null) := by decide +kernel
theorem x_84_62 : Tr sc d 84 (62, [l0, l1, l2, l3, l4], [], h) Q = Tr sc d 84 (50, [l0, l1, l2, l3, l4], [], h) Q := t_go k_84_62 rfl
theorem k_84_65 : lk 84 65 = some (.lconst 0, 66, 0, 0, .long 0) := by decide +kernel
theorem x_84_65 : Tr sc d 84 (65, [l0, l1, l2, l3, l4], [], h) Q = Tr sc d 84 (66, [l0, l1, l2, l3, l4], [.long 0], h) Q := t_go k_84_65 rfl
theorem k_84_66 : lk 84 66 = some (.lstore_n 2, 67, 2, 0, .null) := by decide +kernel
theorem x_84_66 : Tr sc d 84 (66, [l0, l1, l2, l3, l4], [.long j0], h) Q = Tr sc d 84 (67, [l0, cl2 l1, some (.long j0), none, l4], [], h) Q := t_lstore_n k_84_66 (Nat.le_of_ble_eq_true rfl)
theorem k_84_67 : lk 84 67 = some (.iconst 0, 68, 0, 0, .int 0) := by decide +kernel
theorem x_84_67 : Tr sc d 84 (67, [l0, l1, l2, l3, l4], [], h) Q = Tr sc d 84 (68, [l0, l1, l2, l3, l4], [.int 0], h) Q := t_go k_84_67 rfl
theorem k_84_68 : lk 84 68 = some (.istore 4, 70, 4, 0, .null) := by decide +kernel
theorem x_84_68 : Tr sc d 84 (68, [l0, l1, l2, l3, l4], [.int i0], h) Q = Tr sc d 84 (70, [l0, l1, l2, cl2 l3, some (.int i0)], [], h) Q := t_istore k_84_68 (Nat.le_of_ble_eq_true rfl)
theorem k_84_70 : lk 84 70 = some (.iload 4, 72, 4, 0, .null) := by decide +kernel
theorem x_84_70 : Tr sc d 84 (70, [l0, l1, l2, l3, some (.int x)], [], h) Q = Tr sc d 84 (72, [l0, l1, l2, l3, some (.int x)], [.int x], h) Q := t_iload k_84_70 rfl
theorem k_84_72 : lk 84 72 = some (.aload_n 0, 73, 0, 0, .null) := by decide +kernel
theorem x_84_72 : Tr sc d 84 (72, [some (.ref xk), l1, l2, l3, l4], [.int i0], h) Q = Tr sc d 84 (73, [some (.ref xk), l1, l2, l3, l4], [.ref xk, .int i0], h) Q := t_aload_n k_84_72 rfl
theorem k_84_73 : lk 84 73 = some (.getfield 51, 76, 7, 12, .int 0) := by decide +kernel
theorem x_84_73 : Tr sc d 84 (73, [l0, l1, l2, l3, l4], [.ref k1, .int i0], h) Q = (okp h k1 7 = true ∧ Tr sc d 84 (76, [l0, l1, l2, l3, l4], [.int (hI h k1 12), .int i0], h) Q) := t_gd k_84_73 rfl
theorem k_84_76 : lk 84 76 = some (.if_icmp .ge 19, 79, 95, 0, .null) := by decide +kernel
theorem x_84_76 : Tr sc d 84 (76, [l0, l1, l2, l3, l4], [.int i1, .int i0], h) Q = if i1 ≤ i0 then Tr sc d 84 (95, [l0, l1, l2, l3, l4], [], h) Q else Tr sc d 84 (79, [l0, l1, l2, l3, l4], [], h) Q := t_if k_84_76 rfl
theorem k_84_79 : lk 84 79 = some (.lload_n 2, 80, 2, 0, .null) := by decide +kernel
theorem x_84_79 : Tr sc d 84 (79, [l0, l1, some (.long xl), l3, l4], [], h) Q = Tr sc d 84 (80, [l0, l1, some (.long xl), l3, l4], [.long xl], h) Q := t_lload_n k_84_79 rfl
theorem k_84_80 : lk 84 80 = some (.aload_n 0, 81, 0, 0, .null) := by decide +kernel
theorem x_84_80 : Tr sc d 84 (80, [some (.ref xk), l1, l2, l3, l4], [.long j0], h) Q = Tr sc d 84 (81, [some (.ref xk), l1, l2, l3, l4], [.ref xk, .long j0], h) Q := t_aload_n k_84_80 rfl
theorem k_84_81 : lk 84 81 = some (.getfield 22, 84, 7, 3, .null) := by decide +kernel
theorem x_84_81 : Tr sc d 84 (81, [l0, l1, l2, l3, l4], [.ref k1, .long j0], h) Q = (okp h k1 7 = true ∧ ∃ q, hR h k1 3 = some q ∧ Tr sc d 84 (84, [l0, l1, l2, l3, l4], [.ref q, .long j0], h) Q) := t_getr k_84_81
theorem k_84_84 : lk 84 84 = some (.iload 4, 86, 4, 0, .null) := by decide +kernel
theorem x_84_84 : Tr sc d 84 (84, [l0, l1, l2, l3, some (.int x)], [.ref k1, .long j0], h) Q = Tr sc d 84 (86, [l0, l1, l2, l3, some (.int x)], [.int x, .ref k1, .long j0], h) Q := t_iload k_84_84 rfl
theorem k_84_86 : lk 84 86 = some (.laload, 87, 0, 0, .null) := by decide +kernel
theorem x_84_86 : Tr sc d 84 (86, [l0, l1, l2, l3, l4], [.int i2, .ref k1, .long j0], h) Q = ((okp h k1 12 && inb i2 (LN k1)) = true ∧ Tr sc d 84 (87, [l0, l1, l2, l3, l4], [.long (hL h k1 i2.toNatClampNeg), .long j0], h) Q) := t_gd k_84_86 rfl
theorem k_84_87 : lk 84 87 = some (.ladd, 88, 0, 0, .null) := by decide +kernel
theorem x_84_87 : Tr sc d 84 (87, [l0, l1, l2, l3, l4], [.long j1, .long j0], h) Q = Tr sc d 84 (88, [l0, l1, l2, l3, l4], [.long (j0 + j1)], h) Q := t_go k_84_87 rfl
theorem k_84_88 : lk 84 88 = some (.lstore_n 2, 89, 2, 0, .null) := by decide +kernel
theorem x_84_88 : Tr sc d 84 (88, [l0, l1, l2, l3, l4], [.long j0], h) Q = Tr sc d 84 (89, [l0, cl2 l1, some (.long j0), none, l4], [], h) Q := t_lstore_n k_84_88 (Nat.le_of_ble_eq_true rfl)
theorem k_84_89 : lk 84 89 = some (.iinc 4 1, 92, 4, 0, .int 1) := by decide +kernel
theorem x_84_89 : Tr sc d 84 (89, [l0, l1, l2, l3, some (.int x)], [], h) Q = Tr sc d 84 (92, [l0, l1, l2, cl2 l3, some (.int (x + 1))], [], h) Q := t_inc k_84_89 rfl (Nat.le_of_ble_eq_true rfl)
theorem k_84_92 : lk 84 92 = some (.goto (-22), 95, 70, 0, .null) := by decide +kernel
theorem x_84_92 : Tr sc d 84 (92, [l0, l1, l2, l3, l4], [], h) Q = Tr sc d 84 (70, [l0, l1, l2, l3, l4], [], h) Q := t_go k_84_92 rfl
theorem k_84_95 : lk 84 95 = some (.lload_n 2, 96, 2, 0, .null) := by decide +kernel
theorem x_84_95 : Tr sc d 84 (95, [l0, l1, some (.long xl), l3, l4], [], h) Q = Tr sc d 84 (96, [l0, l1, some (.long xl), l3, l4], [.long xl], h) Q := t_lload_n k_84_95 rfl
theorem k_84_96 : lk 84 96 = some (.lreturn, 97, 0, 0, .null) := by decide +kernel
theorem x_84_96 : Tr sc d 84 (96, [l0, l1, l2, l3, l4], [.long j0], h) Q = Q (some (.long j0), h) := t_ret k_84_96 (by rw [r_84]; rfl)
theorem e_84 : Tr sc d 84 (ent0 84 [.ref k0, .int i1] h) Q = Tr sc d 84 (0, [some (.ref k0), some (.int i1), none, none, none], [], h) Q := by
  have e : mL 84 = 5 := by decide +kernel
  unfold ent0
  rw [e]
  rfl
theorem r_85 : mR 85 = none := by decide +kernel
theorem k_85_0 : lk 85 0 = some (.aload_n 0, 1, 0, 0, .null) := by decide +kernel
theorem x_85_0 : Tr sc d 85 (0, [some (.ref xk), l1, l2, l3, l4, l5], [], h) Q = Tr sc d 85 (1, [some (.ref xk), l1, l2, l3, l4, l5], [.ref xk], h) Q := t_aload_n k_85_0 rfl
theorem k_85_1 : lk 85 1 = some (.getfield 26, 4, 7, 4, .null) := by decide +kernel
theorem x_85_1 : Tr sc d 85 (1, [l0, l1, l2, l3, l4, l5], [.ref k0], h) Q = (okp h k0 7 = true ∧ ∃ q, hR h k0 4 = some q ∧ Tr sc d 85 (4, [l0, l1, l2, l3, l4, l5], [.ref q], h) Q) := t_getr k_85_1
theorem k_85_4 : lk 85 4 = some (.iconst 0, 5, 0, 0, .int 0) := by decide +kernel
theorem x_85_4 : Tr sc d 85 (4, [l0, l1, l2, l3, l4, l5], [.ref k0], h) Q = Tr sc d 85 (5, [l0, l1, l2, l3, l4, l5], [.int 0, .ref k0], h) Q := t_go k_85_4 rfl
theorem k_85_5 : lk 85 5 = some (.aload_n 0, 6, 0, 0, .null) := by decide +kernel
theorem x_85_5 : Tr sc d 85 (5, [some (.ref xk), l1, l2, l3, l4, l5], [.int i1, .ref k0], h) Q = Tr sc d 85 (6, [some (.ref xk), l1, l2, l3, l4, l5], [.ref xk, .int i1, .ref k0], h) Q := t_aload_n k_85_5 rfl
theorem k_85_6 : lk 85 6 = some (.getfield 51, 9, 7, 12, .int 0) := by decide +kernel
theorem x_85_6 : Tr sc d 85 (6, [l0, l1, l2, l3, l4, l5], [.ref k2, .int i1, .ref k0], h) Q = (okp h k2 7 = true ∧ Tr sc d 85 (9, [l0, l1, l2, l3, l4, l5], [.int (hI h k2 12), .int i1, .ref k0], h) Q) := t_gd k_85_6 rfl
theorem k_85_9 : lk 85 9 = some (.lconst 0, 10, 0, 0, .long 0) := by decide +kernel
theorem x_85_9 : Tr sc d 85 (9, [l0, l1, l2, l3, l4, l5], [.int i2, .int i1, .ref k0], h) Q = Tr sc d 85 (10, [l0, l1, l2, l3, l4, l5], [.long 0, .int i2, .int i1, .ref k0], h) Q := t_go k_85_9 rfl
theorem k_85_10 : lk 85 10 = some (.invokestatic 99, 13, 256, 4, .null) := by decide +kernel
theorem x_85_10 : Tr sc (d + 1) 85 (10, [l0, l1, l2, l3, l4, l5], [.long j3, .int i2, .int i1, .ref k0], h) Q = Tr sc d 256 (ent0 256 [.ref k0, .int i1, .int i2, .long j3] h) (fun z => Tr sc (d + 1) 85 (13, [l0, l1, l2, l3, l4, l5], z.1.toList ++ [], z.2) Q) := t_cs (as := [.ref k0, .int i1, .int i2, .long j3]) (r := []) k_85_10 (by decide) rfl rfl (Nat.le_of_ble_eq_true rfl) (Nat.le_of_ble_eq_true rfl)
theorem k_85_13 : lk 85 13 = some (.iconst 0, 14, 0, 0, .int 0) := by decide +kernel
theorem x_85_13 : Tr sc d 85 (13, [l0, l1, l2, l3, l4, l5], [], h) Q = Tr sc d 85 (14, [l0, l1, l2, l3, l4, l5], [.int 0], h) Q := t_go k_85_13 rfl
theorem k_85_14 : lk 85 14 = some (.istore_n 1, 15, 1, 0, .null) := by decide +kernel
theorem x_85_14 : Tr sc d 85 (14, [l0, l1, l2, l3, l4, l5], [.int i0], h) Q = Tr sc d 85 (15, [cl2 l0, some (.int i0), l2, l3, l4, l5], [], h) Q := t_istore_n k_85_14 (Nat.le_of_ble_eq_true rfl)
theorem k_85_15 : lk 85 15 = some (.iload_n 1, 16, 1, 0, .null) := by decide +kernel
theorem x_85_15 : Tr sc d 85 (15, [l0, some (.int x), l2, l3, l4, l5], [], h) Q = Tr sc d 85 (16, [l0, some (.int x), l2, l3, l4, l5], [.int x], h) Q := t_iload_n k_85_15 rfl
theorem k_85_16 : lk 85 16 = some (.aload_n 0, 17, 0, 0, .null) := by decide +kernel
theorem x_85_16 : Tr sc d 85 (16, [some (.ref xk), l1, l2, l3, l4, l5], [.int i0], h) Q = Tr sc d 85 (17, [some (.ref xk), l1, l2, l3, l4, l5], [.ref xk, .int i0], h) Q := t_aload_n k_85_16 rfl
theorem k_85_17 : lk 85 17 = some (.getfield 51, 20, 7, 12, .int 0) := by decide +kernel
theorem x_85_17 : Tr sc d 85 (17, [l0, l1, l2, l3, l4, l5], [.ref k1, .int i0], h) Q = (okp h k1 7 = true ∧ Tr sc d 85 (20, [l0, l1, l2, l3, l4, l5], [.int (hI h k1 12), .int i0], h) Q) := t_gd k_85_17 rfl
theorem k_85_20 : lk 85 20 = some (.if_icmp .ge 105, 23, 125, 0, .null) := by decide +kernel
theorem x_85_20 : Tr sc d 85 (20, [l0, l1, l2, l3, l4, l5], [.int i1, .int i0], h) Q = if i1 ≤ i0 then Tr sc d 85 (125, [l0, l1, l2, l3, l4, l5], [], h) Q else Tr sc d 85 (23, [l0, l1, l2, l3, l4, l5], [], h) Q := t_if k_85_20 rfl
theorem k_85_23 : lk 85 23 = some (.aload_n 0, 24, 0, 0, .null) := by decide +kernel
theorem x_85_23 : Tr sc d 85 (23, [some (.ref xk), l1, l2, l3, l4, l5], [], h) Q = Tr sc d 85 (24, [some (.ref xk), l1, l2, l3, l4, l5], [.ref xk], h) Q := t_aload_n k_85_23 rfl
theorem k_85_24 : lk 85 24 = some (.getfield 42, 27, 7, 9, .int 0) := by decide +kernel
theorem x_85_24 : Tr sc d 85 (24, [l0, l1, l2, l3, l4, l5], [.ref k0], h) Q = (okp h k0 7 = true ∧ Tr sc d 85 (27, [l0, l1, l2, l3, l4, l5], [.int (hI h k0 9)], h) Q) := t_gd k_85_24 rfl
theorem k_85_27 : lk 85 27 = some (.aload_n 0, 28, 0, 0, .null) := by decide +kernel
theorem x_85_27 : Tr sc d 85 (27, [some (.ref xk), l1, l2, l3, l4, l5], [.int i0], h) Q = Tr sc d 85 (28, [some (.ref xk), l1, l2, l3, l4, l5], [.ref xk, .int i0], h) Q := t_aload_n k_85_27 rfl
theorem k_85_28 : lk 85 28 = some (.iload_n 1, 29, 1, 0, .null) := by decide +kernel
theorem x_85_28 : Tr sc d 85 (28, [l0, some (.int x), l2, l3, l4, l5], [.ref k1, .int i0], h) Q = Tr sc d 85 (29, [l0, some (.int x), l2, l3, l4, l5], [.int x, .ref k1, .int i0], h) Q := t_iload_n k_85_28 rfl
theorem k_85_29 : lk 85 29 = some (.invokevirtual 77, 32, 76, 1, .null) := by decide +kernel
theorem x_85_29 : Tr sc (d + 1) 85 (29, [l0, l1, l2, l3, l4, l5], [.int i2, .ref k1, .int i0], h) Q = (okp h k1 7 = true ∧ Tr sc d 76 (ent0 76 [.ref k1, .int i2] h) (fun z => Tr sc (d + 1) 85 (32, [l0, l1, l2, l3, l4, l5], z.1.toList ++ [.int i0], z.2) Q)) := t_cv (as := [.int i2]) (r := [.int i0]) k_85_29 rfl rfl (Nat.le_of_ble_eq_true rfl) (Nat.le_of_ble_eq_true rfl) (Nat.le_of_ble_eq_true rfl)
theorem k_85_32 : lk 85 32 = some (.imul, 33, 0, 0, .null) := by decide +kernel
theorem x_85_32 : Tr sc d 85 (32, [l0, l1, l2, l3, l4, l5], [.int i1, .int i0], h) Q = Tr sc d 85 (33, [l0, l1, l2, l3, l4, l5], [.int (i0 * i1)], h) Q := t_go k_85_32 rfl
theorem k_85_33 : lk 85 33 = some (.istore_n 2, 34, 2, 0, .null) := by decide +kernel
theorem x_85_33 : Tr sc d 85 (33, [l0, l1, l2, l3, l4, l5], [.int i0], h) Q = Tr sc d 85 (34, [l0, cl2 l1, some (.int i0), l3, l4, l5], [], h) Q := t_istore_n k_85_33 (Nat.le_of_ble_eq_true rfl)
theorem k_85_34 : lk 85 34 = some (.aload_n 0, 35, 0, 0, .null) := by decide +kernel
theorem x_85_34 : Tr sc d 85 (34, [some (.ref xk), l1, l2, l3, l4, l5], [], h) Q = Tr sc d 85 (35, [some (.ref xk), l1, l2, l3, l4, l5], [.ref xk], h) Q := t_aload_n k_85_34 rfl
theorem k_85_35 : lk 85 35 = some (.getfield 42, 38, 7, 9, .int 0) := by decide +kernel
theorem x_85_35 : Tr sc d 85 (35, [l0, l1, l2, l3, l4, l5], [.ref k0], h) Q = (okp h k0 7 = true ∧ Tr sc d 85 (38, [l0, l1, l2, l3, l4, l5], [.int (hI h k0 9)], h) Q) := t_gd k_85_35 rfl
theorem k_85_38 : lk 85 38 = some (.aload_n 0, 39, 0, 0, .null) := by decide +kernel
theorem x_85_38 : Tr sc d 85 (38, [some (.ref xk), l1, l2, l3, l4, l5], [.int i0], h) Q = Tr sc d 85 (39, [some (.ref xk), l1, l2, l3, l4, l5], [.ref xk, .int i0], h) Q := t_aload_n k_85_38 rfl
theorem k_85_39 : lk 85 39 = some (.iload_n 1, 40, 1, 0, .null) := by decide +kernel
theorem x_85_39 : Tr sc d 85 (39, [l0, some (.int x), l2, l3, l4, l5], [.ref k1, .int i0], h) Q = Tr sc d 85 (40, [l0, some (.int x), l2, l3, l4, l5], [.int x, .ref k1, .int i0], h) Q := t_iload_n k_85_39 rfl
theorem k_85_40 : lk 85 40 = some (.invokevirtual 81, 43, 77, 1, .null) := by decide +kernel
theorem x_85_40 : Tr sc (d + 1) 85 (40, [l0, l1, l2, l3, l4, l5], [.int i2, .ref k1, .int i0], h) Q = (okp h k1 7 = true ∧ Tr sc d 77 (ent0 77 [.ref k1, .int i2] h) (fun z => Tr sc (d + 1) 85 (43, [l0, l1, l2, l3, l4, l5], z.1.toList ++ [.int i0], z.2) Q)) := t_cv (as := [.int i2]) (r := [.int i0]) k_85_40 rfl rfl (Nat.le_of_ble_eq_true rfl) (Nat.le_of_ble_eq_true rfl) (Nat.le_of_ble_eq_true rfl)
theorem k_85_43 : lk 85 43 = some (.imul, 44, 0, 0, .null) := by decide +kernel
theorem x_85_43 : Tr sc d 85 (43, [l0, l1, l2, l3, l4, l5], [.int i1, .int i0], h) Q = Tr sc d 85 (44, [l0, l1, l2, l3, l4, l5], [.int (i0 * i1)], h) Q := t_go k_85_43 rfl
theorem k_85_44 : lk 85 44 = some (.istore_n 3, 45, 3, 0, .null) := by decide +kernel
theorem x_85_44 : Tr sc d 85 (44, [l0, l1, l2, l3, l4, l5], [.int i0], h) Q = Tr sc d 85 (45, [l0, l1, cl2 l2, some (.int i0), l4, l5], [], h) Q := t_istore_n k_85_44 (Nat.le_of_ble_eq_true rfl)
theorem k_85_45 : lk 85 45 = some (.iconst 0, 46, 0, 0, .int 0) := by decide +kernel
theorem x_85_45 : Tr sc d 85 (45, [l0, l1, l2, l3, l4, l5], [], h) Q = Tr sc d 85 (46, [l0, l1, l2, l3, l4, l5], [.int 0], h) Q := t_go k_85_45 rfl
theorem k_85_46 : lk 85 46 = some (.istore 4, 48, 4, 0, .null) := by decide +kernel
theorem x_85_46 : Tr sc d 85 (46, [l0, l1, l2, l3, l4, l5], [.int i0], h) Q = Tr sc d 85 (48, [l0, l1, l2, cl2 l3, some (.int i0), l5], [], h) Q := t_istore k_85_46 (Nat.le_of_ble_eq_true rfl)
theorem k_85_48 : lk 85 48 = some (.iload 4, 50, 4, 0, .null) := by decide +kernel
theorem x_85_48 : Tr sc d 85 (48, [l0, l1, l2, l3, some (.int x), l5], [], h) Q = Tr sc d 85 (50, [l0, l1, l2, l3, some (.int x), l5], [.int x], h) Q := t_iload k_85_48 rfl
theorem k_85_50 : lk 85 50 = some (.aload_n 0, 51, 0, 0, .null) := by decide +kernel
theorem x_85_50 : Tr sc d 85 (50, [some (.ref xk), l1, l2, l3, l4, l5], [.int i0], h) Q = Tr sc d 85 (51, [some (.ref xk), l1, l2, l3, l4, l5], [.ref xk, .int i0], h) Q := t_aload_n k_85_50 rfl
theorem k_85_51 : lk 85 51 = some (.getfield 39, 54, 7, 8, .int 0) := by decide +kernel
theorem x_85_51 : Tr sc d 85 (51, [l0, l1, l2, l3, l4, l5], [.ref k1, .int i0], h) Q = (okp h k1 7 = true ∧ Tr sc d 85 (54, [l0, l1, l2, l3, l4, l5], [.int (hI h k1 8), .int i0], h) Q) := t_gd k_85_51 rfl
theorem k_85_54 : lk 85 54 = some (.if_icmp .ge 65, 57, 119, 0, .null) := by decide +kernel
theorem x_85_54 : Tr sc d 85 (54, [l0, l1, l2, l3, l4, l5], [.int i1, .int i0], h) Q = if i1 ≤ i0 then Tr sc d 85 (119, [l0, l1, l2, l3, l4, l5], [], h) Q else Tr sc d 85 (57, [l0, l1, l2, l3, l4, l5], [], h) Q := t_if k_85_54 rfl
theorem k_85_57 : lk 85 57 = some (.aload_n 0, 58, 0, 0, .null) := by decide +kernel
theorem x_85_57 : Tr sc d 85 (57, [some (.ref xk), l1, l2, l3, l4, l5], [], h) Q = Tr sc d 85 (58, [some (.ref xk), l1, l2, l3, l4, l5], [.ref xk], h) Q := t_aload_n k_85_57 rfl
theorem k_85_58 : lk 85 58 = some (.getfield 22, 61, 7, 3, .null) := by decide +kernel
theorem x_85_58 : Tr sc d 85 (58, [l0, l1, l2, l3, l4, l5], [.ref k0], h) Q = (okp h k0 7 = true ∧ ∃ q, hR h k0 3 = some q ∧ Tr sc d 85 (61, [l0, l1, l2, l3, l4, l5], [.ref q], h) Q) := t_getr k_85_58
theorem k_85_61 : lk 85 61 = some (.iload_n 1, 62, 1, 0, .null) := by decide +kernel
theorem x_85_61 : Tr sc d 85 (61, [l0, some (.int x), l2, l3, l4, l5], [.ref k0], h) Q = Tr sc d 85 (62, [l0, some (.int x), l2, l3, l4, l5], [.int x, .ref k0], h) Q := t_iload_n k_85_61 rfl
theorem k_85_62 : lk 85 62 = some (.laload, 63, 0, 0, .null) := by decide +kernel
theorem x_85_62 : Tr sc d 85 (62, [l0, l1, l2, l3, l4, l5], [.int i1, .ref k0], h) Q = ((okp h k0 12 && inb i1 (LN k0)) = true ∧ Tr sc d 85 (63, [l0, l1, l2, l3, l4, l5], [.long (hL h k0 i1.toNatClampNeg)], h) Q) := t_gd k_85_62 rfl
theorem k_85_63 : lk 85 63 = some (.lconst 0, 64, 0, 0, .long 0) := by decide +kernel
theorem x_85_63 : Tr sc d 85 (63, [l0, l1, l2, l3, l4, l5], [.long j0], h) Q = Tr sc d 85 (64, [l0, l1, l2, l3, l4, l5], [.long 0, .long j0], h) Q := t_go k_85_63 rfl
theorem k_85_64 : lk 85 64 = some (.lcmp, 65, 0, 0, .null) := by decide +kernel
theorem x_85_64 : Tr sc d 85 (64, [l0, l1, l2, l3, l4, l5], [.long j1, .long j0], h) Q = Tr sc d 85 (65, [l0, l1, l2, l3, l4, l5], [.int (lg_cmp j0 j1)], h) Q := t_go k_85_64 rfl
theorem k_85_65 : lk 85 65 = some (.ifCond .eq 54, 68, 119, 0, .null) := by decide +kernel
theorem x_85_65 : Tr sc d 85 (65, [l0, l1, l2, l3, l4, l5], [.int i0], h) Q = if i0 = 0 then Tr sc d 85 (119, [l0, l1, l2, l3, l4, l5], [], h) Q else Tr sc d 85 (68, [l0, l1, l2, l3, l4, l5], [], h) Q := t_if k_85_65 rfl
theorem k_85_68 : lk 85 68 = some (.aload_n 0, 69, 0, 0, .null) := by decide +kernel
theorem x_85_68 : Tr sc d 85 (68, [some (.ref xk), l1, l2, l3, l4, l5], [], h) Q = Tr sc d 85 (69, [some (.ref xk), l1, l2, l3, l4, l5], [.ref xk], h) Q := t_aload_n k_85_68 rfl
theorem k_85_69 : lk 85 69 = some (.iload_n 2, 70, 2, 0, .null) := by decide +kernel
theorem x_85_69 : Tr sc d 85 (69, [l0, l1, some (.int x), l3, l4, l5], [.ref k0], h) Q = Tr sc d 85 (70, [l0, l1, some (.int x), l3, l4, l5], [.int x, .ref k0], h) Q := t_iload_n k_85_69 rfl
theorem k_85_70 : lk 85 70 = some (.aload_n 0, 71, 0, 0, .null) := by decide +kernel
theorem x_85_70 : Tr sc d 85 (70, [some (.ref xk), l1, l2, l3, l4, l5], [.int i1, .ref k0], h) Q = Tr sc d 85 (71, [some (.ref xk), l1, l2, l3, l4, l5], [.ref xk, .int i1, .ref k0], h) Q := t_aload_n k_85_70 rfl
theorem k_85_71 : lk 85 71 = some (.getfield 29, 74, 7, 5, .null) := by decide +kernel
theorem x_85_71 : Tr sc d 85 (71, [l0, l1, l2, l3, l4, l5], [.ref k2, .int i1, .ref k0], h) Q = (okp h k2 7 = true ∧ ∃ q, hR h k2 5 = some q ∧ Tr sc d 85 (74, [l0, l1, l2, l3, l4, l5], [.ref q, .int i1, .ref k0], h) Q) := t_getr k_85_71
theorem k_85_74 : lk 85 74 = some (.iload 4, 76, 4, 0, .null) := by decide +kernel
theorem x_85_74 : Tr sc d 85 (74, [l0, l1, l2, l3, some (.int x), l5], [.ref k2, .int i1, .ref k0], h) Q = Tr sc d 85 (76, [l0, l1, l2, l3, some (.int x), l5], [.int x, .ref k2, .int i1, .ref k0], h) Q := t_iload k_85_74 rfl
theorem k_85_76 : lk 85 76 = some (.iaload, 77, 0, 0, .null) := by decide +kernel
theorem x_85_76 : Tr sc d 85 (76, [l0, l1, l2, l3, l4, l5], [.int i3, .ref k2, .int i1, .ref k0], h) Q = (iOk sc h k2 i3 ∧ Tr sc d 85 (77, [l0, l1, l2, l3, l4, l5], [.int (iRd sc h k2 i3), .int i1, .ref k0], h) Q) := t_iald k_85_76
theorem k_85_77 : lk 85 77 = some (.iadd, 78, 0, 0, .null) := by decide +kernel
theorem x_85_77 : Tr sc d 85 (77, [l0, l1, l2, l3, l4, l5], [.int i2, .int i1, .ref k0], h) Q = Tr sc d 85 (78, [l0, l1, l2, l3, l4, l5], [.int (i1 + i2), .ref k0], h) Q := t_go k_85_77 rfl
theorem k_85_78 : lk 85 78 = some (.iload_n 3, 79, 3, 0, .null) := by decide +kernel
theorem x_85_78 : Tr sc d 85 (78, [l0, l1, l2, some (.int x), l4, l5], [.int i1, .ref k0], h) Q = Tr sc d 85 (79, [l0, l1, l2, some (.int x), l4, l5], [.int x, .int i1, .ref k0], h) Q := t_iload_n k_85_78 rfl
theorem k_85_79 : lk 85 79 = some (.aload_n 0, 80, 0, 0, .null) := by decide +kernel
theorem x_85_79 : Tr sc d 85 (79, [some (.ref xk), l1, l2, l3, l4, l5], [.int i2, .int i1, .ref k0], h) Q = Tr sc d 85 (80, [some (.ref xk), l1, l2, l3, l4, l5], [.ref xk, .int i2, .int i1, .ref k0], h) Q := t_aload_n k_85_79 rfl
theorem k_85_80 : lk 85 80 = some (.getfield 32, 83, 7, 6, .null) := by decide +kernel
theorem x_85_80 : Tr sc d 85 (80, [l0, l1, l2, l3, l4, l5], [.ref k3, .int i2, .int i1, .ref k0], h) Q = (okp h k3 7 = true ∧ ∃ q, hR h k3 6 = some q ∧ Tr sc d 85 (83, [l0, l1, l2, l3, l4, l5], [.ref q, .int i2, .int i1, .ref k0], h) Q) := t_getr k_85_80
theorem k_85_83 : lk 85 83 = some (.iload 4, 85, 4, 0, .null) := by decide +kernel
theorem x_85_83 : Tr sc d 85 (83, [l0, l1, l2, l3, some (.int x), l5], [.ref k3, .int i2, .int i1, .ref k0], h) Q = Tr sc d 85 (85, [l0, l1, l2, l3, some (.int x), l5], [.int x, .ref k3, .int i2, .int i1, .ref k0], h) Q := t_iload k_85_83 rfl
theorem k_85_85 : lk 85 85 = some (.iaload, 86, 0, 0, .null) := by decide +kernel
theorem x_85_85 : Tr sc d 85 (85, [l0, l1, l2, l3, l4, l5], [.int i4, .ref k3, .int i2, .int i1, .ref k0], h) Q = (iOk sc h k3 i4 ∧ Tr sc d 85 (86, [l0, l1, l2, l3, l4, l5], [.int (iRd sc h k3 i4), .int i2, .int i1, .ref k0], h) Q) := t_iald k_85_85
theorem k_85_86 : lk 85 86 = some (.iadd, 87, 0, 0, .null) := by decide +kernel
theorem x_85_86 : Tr sc d 85 (86, [l0, l1, l2, l3, l4, l5], [.int i3, .int i2, .int i1, .ref k0], h) Q = Tr sc d 85 (87, [l0, l1, l2, l3, l4, l5], [.int (i2 + i3), .int i1, .ref k0], h) Q := t_go k_85_86 rfl
theorem k_85_87 : lk 85 87 = some (.invokevirtual 84, 90, 78, 2, .null) := by decide +kernel
theorem x_85_87 : Tr sc (d + 1) 85 (87, [l0, l1, l2, l3, l4, l5], [.int i2, .int i1, .ref k0], h) Q = (okp h k0 7 = true ∧ Tr sc d 78 (ent0 78 [.ref k0, .int i1, .int i2] h) (fun z => Tr sc (d + 1) 85 (90, [l0, l1, l2, l3, l4, l5], z.1.toList ++ [], z.2) Q)) := t_cv (as := [.int i1, .int i2]) (r := []) k_85_87 rfl rfl (Nat.le_of_ble_eq_true rfl) (Nat.le_of_ble_eq_true rfl) (Nat.le_of_ble_eq_true rfl)
theorem k_85_90 : lk 85 90 = some (.istore 5, 92, 5, 0, .null) := by decide +kernel
theorem x_85_90 : Tr sc d 85 (90, [l0, l1, l2, l3, l4, l5], [.int i0], h) Q = Tr sc d 85 (92, [l0, l1, l2, l3, cl2 l4, some (.int i0)], [], h) Q := t_istore k_85_90 (Nat.le_of_ble_eq_true rfl)
theorem k_85_92 : lk 85 92 = some (.iload 5, 94, 5, 0, .null) := by decide +kernel
theorem x_85_92 : Tr sc d 85 (92, [l0, l1, l2, l3, l4, some (.int x)], [], h) Q = Tr sc d 85 (94, [l0, l1, l2, l3, l4, some (.int x)], [.int x], h) Q := t_iload k_85_92 rfl
theorem k_85_94 : lk 85 94 = some (.ifCond .lt 19, 97, 113, 0, .null) := by decide +kernel
theorem x_85_94 : Tr sc d 85 (94, [l0, l1, l2, l3, l4, l5], [.int i0], h) Q = if i0 < 0 then Tr sc d 85 (113, [l0, l1, l2, l3, l4, l5], [], h) Q else Tr sc d 85 (97, [l0, l1, l2, l3, l4, l5], [], h) Q := t_if k_85_94 rfl
theorem k_85_97 : lk 85 97 = some (.aload_n 0, 98, 0, 0, .null) := by decide +kernel
theorem x_85_97 : Tr sc d 85 (97, [some (.ref xk), l1, l2, l3, l4, l5], [], h) Q = Tr sc d 85 (98, [some (.ref xk), l1, l2, l3, l4, l5], [.ref xk], h) Q := t_aload_n k_85_97 rfl
theorem k_85_98 : lk 85 98 = some (.getfield 26, 101, 7, 4, .null) := by decide +kernel
theorem x_85_98 : Tr sc d 85 (98, [l0, l1, l2, l3, l4, l5], [.ref k0], h) Q = (okp h k0 7 = true ∧ ∃ q, hR h k0 4 = some q ∧ Tr sc d 85 (101, [l0, l1, l2, l3, l4, l5], [.ref q], h) Q) := t_getr k_85_98
theorem k_85_101 : lk 85 101 = some (.iload 5, 103, 5, 0, .null) := by decide +kernel
theorem x_85_101 : Tr sc d 85 (101, [l0, l1, l2, l3, l4, some (.int x)], [.ref k0], h) Q = Tr sc d 85 (103, [l0, l1, l2, l3, l4, some (.int x)], [.int x, .ref k0], h) Q := t_iload k_85_101 rfl
theorem k_85_103 : lk 85 103 = some (.dup2, 104, 0, 0, .null) := by decide +kernel
theorem x_85_103 : Tr sc d 85 (103, [l0, l1, l2, l3, l4, l5], [.int i1, .ref k0], h) Q = Tr sc d 85 (104, [l0, l1, l2, l3, l4, l5], [.int i1, .ref k0, .int i1, .ref k0], h) Q := t_go k_85_103 rfl
theorem k_85_104 : lk 85 104 = some (.laload, 105, 0, 0, .null) := by decide +kernel
theorem x_85_104 : Tr sc d 85 (104, [l0, l1, l2, l3, l4, l5], [.int i3, .ref k2, .int i1, .ref k0], h) Q = ((okp h k2 12 && inb i3 (LN k2)) = true ∧ Tr sc d 85 (105, [l0, l1, l2, l3, l4, l5], [.long (hL h k2 i3.toNatClampNeg), .int i1, .ref k0], h) Q) := t_gd k_85_104 rfl
theorem k_85_105 : lk 85 105 = some (.aload_n 0, 106, 0, 0, .null) := by decide +kernel
theorem x_85_105 : Tr sc d 85 (105, [some (.ref xk), l1, l2, l3, l4, l5], [.long j2, .int i1, .ref k0], h) Q = Tr sc d 85 (106, [some (.ref xk), l1, l2, l3, l4, l5], [.ref xk, .long j2, .int i1, .ref k0], h) Q := t_aload_n k_85_105 rfl
theorem k_85_106 : lk 85 106 = some (.getfield 22, 109, 7, 3, .null) := by decide +kernel
theorem x_85_106 : Tr sc d 85 (106, [l0, l1, l2, l3, l4, l5], [.ref k3, .long j2, .int i1, .ref k0], h) Q = (okp h k3 7 = true ∧ ∃ q, hR h k3 3 = some q ∧ Tr sc d 85 (109, [l0, l1, l2, l3, l4, l5], [.ref q, .long j2, .int i1, .ref k0], h) Q) := t_getr k_85_106
theorem k_85_109 : lk 85 109 = some (.iload_n 1, 110, 1, 0, .null) := by decide +kernel
theorem x_85_109 : Tr sc d 85 (109, [l0, some (.int x), l2, l3, l4, l5], [.ref k3, .long j2, .int i1, .ref k0], h) Q = Tr sc d 85 (110, [l0, some (.int x), l2, l3, l4, l5], [.int x, .ref k3, .long j2, .int i1, .ref k0], h) Q := t_iload_n k_85_109 rfl
theorem k_85_110 : lk 85 110 = some (.laload, 111, 0, 0, .null) := by decide +kernel
theorem x_85_110 : Tr sc d 85 (110, [l0, l1, l2, l3, l4, l5], [.int i4, .ref k3, .long j2, .int i1, .ref k0], h) Q = ((okp h k3 12 && inb i4 (LN k3)) = true ∧ Tr sc d 85 (111, [l0, l1, l2, l3, l4, l5], [.long (hL h k3 i4.toNatClampNeg), .long j2, .int i1, .ref k0], h) Q) := t_gd k_85_110 rfl
theorem k_85_111 : lk 85 111 = some (.ladd, 112, 0, 0, .null) := by decide +kernel
theorem x_85_111 : Tr sc d 85 (111, [l0, l1, l2, l3, l4, l5], [.long j3, .long j2, .int i1, .ref k0], h) Q = Tr sc d 85 (112, [l0, l1, l2, l3, l4, l5], [.long (j2 + j3), .int i1, .ref k0], h) Q := t_go k_85_111 rfl
theorem k_85_112 : lk 85 112 = some (.lastore, 113, 0, 0, .null) := by decide +kernel
theorem x_85_112 : Tr sc d 85 (112, [l0, l1, l2, l3, l4, l5], [.long j2, .int i1, .ref k0], h) Q = ((okp h k0 12 && inb i1 (LN k0)) = true ∧ Tr sc d 85 (113, [l0, l1, l2, l3, l4, l5], [], (sL h k0 i1.toNatClampNeg j2)) Q) := t_gd k_85_112 rfl
theorem k_85_113 : lk 85 113 = some (.iinc 4 1, 116, 4, 0, .int 1) := by decide +kernel
theorem x_85_113 : Tr sc d 85 (113, [l0, l1, l2, l3, some (.int x), l5], [], h) Q = Tr sc d 85 (116, [l0, l1, l2, cl2 l3, some (.int (x + 1)), l5], [], h) Q := t_inc k_85_113 rfl (Nat.le_of_ble_eq_true rfl)
theorem k_85_116 : lk 85 116 = some (.goto (-68), 119, 48, 0, .null) := by decide +kernel
theorem x_85_116 : Tr sc d 85 (116, [l0, l1, l2, l3, l4, l5], [], h) Q = Tr sc d 85 (48, [l0, l1, l2, l3, l4, l5], [], h) Q := t_go k_85_116 rfl
theorem k_85_119 : lk 85 119 = some (.iinc 1 1, 122, 1, 0, .int 1) := by decide +kernel
theorem x_85_119 : Tr sc d 85 (119, [l0, some (.int x), l2, l3, l4, l5], [], h) Q = Tr sc d 85 (122, [cl2 l0, some (.int (x + 1)), l2, l3, l4, l5], [], h) Q := t_inc k_85_119 rfl (Nat.le_of_ble_eq_true rfl)
theorem k_85_122 : lk 85 122 = some (.goto (-107), 125, 15, 0, .null) := by decide +kernel
theorem x_85_122 : Tr sc d 85 (122, [l0, l1, l2, l3, l4, l5], [], h) Q = Tr sc d 85 (15, [l0, l1, l2, l3, l4, l5], [], h) Q := t_go k_85_122 rfl
theorem k_85_125 : lk 85 125 = some (.aload_n 0, 126, 0, 0, .null) := by decide +kernel
theorem x_85_125 : Tr sc d 85 (125, [some (.ref xk), l1, l2, l3, l4, l5], [], h) Q = Tr sc d 85 (126, [some (.ref xk), l1, l2, l3, l4, l5], [.ref xk], h) Q := t_aload_n k_85_125 rfl
theorem k_85_126 : lk 85 126 = some (.getfield 26, 129, 7, 4, .null) := by decide +kernel
theorem x_85_126 : Tr sc d 85 (126, [l0, l1, l2, l3, l4, l5], [.ref k0], h) Q = (okp h k0 7 = true ∧ ∃ q, hR h k0 4 = some q ∧ Tr sc d 85 (129, [l0, l1, l2, l3, l4, l5], [.ref q], h) Q) := t_getr k_85_126
theorem k_85_129 : lk 85 129 = some (.iconst 0, 130, 0, 0, .int 0) := by decide +kernel
theorem x_85_129 : Tr sc d 85 (129, [l0, l1, l2, l3, l4, l5], [.ref k0], h) Q = Tr sc d 85 (130, [l0, l1, l2, l3, l4, l5], [.int 0, .ref k0], h) Q := t_go k_85_129 rfl
theorem k_85_130 : lk 85 130 = some (.aload_n 0, 131, 0, 0, .null) := by decide +kernel
theorem x_85_130 : Tr sc d 85 (130, [some (.ref xk), l1, l2, l3, l4, l5], [.int i1, .ref k0], h) Q = Tr sc d 85 (131, [some (.ref xk), l1, l2, l3, l4, l5], [.ref xk, .int i1, .ref k0], h) Q := t_aload_n k_85_130 rfl
theorem k_85_131 : lk 85 131 = some (.getfield 22, 134, 7, 3, .null) := by decide +kernel
theorem x_85_131 : Tr sc d 85 (131, [l0, l1, l2, l3, l4, l5], [.ref k2, .int i1, .ref k0], h) Q = (okp h k2 7 = true ∧ ∃ q, hR h k2 3 = some q ∧ Tr sc d 85 (134, [l0, l1, l2, l3, l4, l5], [.ref q, .int i1, .ref k0], h) Q) := t_getr k_85_131
theorem k_85_134 : lk 85 134 = some (.iconst 0, 135, 0, 0, .int 0) := by decide +kernel
theorem x_85_134 : Tr sc d 85 (134, [l0, l1, l2, l3, l4, l5], [.ref k2, .int i1, .ref k0], h) Q = Tr sc d 85 (135, [l0, l1, l2, l3, l4, l5], [.int 0, .ref k2, .int i1, .ref k0], h) Q := t_go k_85_134 rfl
theorem k_85_135 : lk 85 135 = some (.aload_n 0, 136, 0, 0, .null) := by decide +kernel
theorem x_85_135 : Tr sc d 85 (135, [some (.ref xk), l1, l2, l3, l4, l5], [.int i3, .ref k2, .int i1, .ref k0], h) Q = Tr sc d 85 (136, [some (.ref xk), l1, l2, l3, l4, l5], [.ref xk, .int i3, .ref k2, .int i1, .ref k0], h) Q := t_aload_n k_85_135 rfl
theorem k_85_136 : lk 85 136 = some (.getfield 51, 139, 7, 12, .int 0) := by decide +kernel
theorem x_85_136 : Tr sc d 85 (136, [l0, l1, l2, l3, l4, l5], [.ref k4, .int i3, .ref k2, .int i1, .ref k0], h) Q = (okp h k4 7 = true ∧ Tr sc d 85 (139, [l0, l1, l2, l3, l4, l5], [.int (hI h k4 12), .int i3, .ref k2, .int i1, .ref k0], h) Q) := t_gd k_85_136 rfl
theorem k_85_139 : lk 85 139 = some (.invokestatic 105, 142, 9001, 0, .null) := by decide +kernel
theorem x_85_139 : Tr sc d 85 (139, [l0, l1, l2, l3, l4, l5], [.int i4, .int i3, .ref k2, .int i1, .ref k0], h) Q = (((¬ i1 < 0) ∧ (¬ i3 < 0) ∧ (¬ i4 < 0) ∧ i1.toNatClampNeg + i4.toNatClampNeg ≤ LN k0 ∧ i3.toNatClampNeg + i4.toNatClampNeg ≤ LN k2 ∧ catS [] ≤ 8) ∧ if (okp h k0 11 && okp h k2 11) = true then Tr sc d 85 (142, [l0, l1, l2, l3, l4, l5], [], aI h k2 (va_cpy (hI h k0) (hI h k2) i1.toNatClampNeg i3.toNatClampNeg i4.toNatClampNeg)) Q else ((okp h k0 12 && okp h k2 12) = true ∧ Tr sc d 85 (142, [l0, l1, l2, l3, l4, l5], [], aL h k2 (va_cpy (hL h k0) (hL h k2) i1.toNatClampNeg i3.toNatClampNeg i4.toNatClampNeg)) Q)) := t_copy k_85_139
theorem k_85_142 : lk 85 142 = some (.return_, 143, 0, 0, .null) := by decide +kernel
theorem x_85_142 : Tr sc d 85 (142, [l0, l1, l2, l3, l4, l5], [], h) Q = Q (none, h) := t_ret k_85_142 (by rw [r_85]; rfl)
theorem e_85 : Tr sc d 85 (ent0 85 [.ref k0] h) Q = Tr sc d 85 (0, [some (.ref k0), none, none, none, none, none], [], h) Q := by
  have e : mL 85 = 6 := by decide +kernel
  unfold ent0
  rw [e]
  rfl
theorem r_86 : mR 86 = none := by decide +kernel
theorem k_86_0 : lk 86 0 = some (.aload_n 0, 1, 0, 0, .null) := by decide +kernel
theorem x_86_0 : Tr sc d 86 (0, [some (.ref xk), l1], [], h) Q = Tr sc d 86 (1, [some (.ref xk), l1], [.ref xk], h) Q := t_aload_n k_86_0 rfl
theorem k_86_1 : lk 86 1 = some (.invokespecial 3, 4, 9000, 0, .null) := by decide +kernel
theorem x_86_1 : Tr sc d 86 (1, [l0, l1], [.ref k0], h) Q = Tr sc d 86 (4, [l0, l1], [], h) Q := t_go k_86_1 rfl
theorem k_86_4 : lk 86 4 = some (.aload_n 0, 5, 0, 0, .null) := by decide +kernel
theorem x_86_4 : Tr sc d 86 (4, [some (.ref xk), l1], [], h) Q = Tr sc d 86 (5, [some (.ref xk), l1], [.ref xk], h) Q := t_aload_n k_86_4 rfl
theorem k_86_5 : lk 86 5 = some (.sipush 2000, 8, 0, 0, .int 2000) := by decide +kernel
theorem x_86_5 : Tr sc d 86 (5, [l0, l1], [.ref k0], h) Q = Tr sc d 86 (8, [l0, l1], [.int 2000, .ref k0], h) Q := t_go k_86_5 rfl
theorem k_86_8 : lk 86 8 = some (.newarray .boolean, 10, 13, 0, .null) := by decide +kernel
theorem x_86_8 : Tr sc d 86 (8, [l0, l1], [.int i1, .ref k0], h) Q = ((hN h < 1000 ∧ TG (hN h) = 13 ∧ (¬ i1 < 0) ∧ LN (hN h) = i1.toNatClampNeg ∧ LN (hN h) ≤ 60000) ∧ Tr sc d 86 (10, [l0, l1], [.ref (hN h), .ref k0], nH h) Q) := t_gd k_86_8 rfl
theorem k_86_10 : lk 86 10 = some (.putfield 11, 13, 8, 0, .null) := by decide +kernel
theorem x_86_10 : Tr sc d 86 (10, [l0, l1], [.ref k1, .ref k0], h) Q = (okp h k0 8 = true ∧ Tr sc d 86 (13, [l0, l1], [], (sR h k0 0 (some k1))) Q) := t_gd k_86_10 rfl
theorem k_86_13 : lk 86 13 = some (.aload_n 0, 14, 0, 0, .null) := by decide +kernel
theorem x_86_13 : Tr sc d 86 (13, [some (.ref xk), l1], [], h) Q = Tr sc d 86 (14, [some (.ref xk), l1], [.ref xk], h) Q := t_aload_n k_86_13 rfl
theorem k_86_14 : lk 86 14 = some (.bipush 6, 16, 0, 0, .int 6) := by decide +kernel
theorem x_86_14 : Tr sc d 86 (14, [l0, l1], [.ref k0], h) Q = Tr sc d 86 (16, [l0, l1], [.int 6, .ref k0], h) Q := t_go k_86_14 rfl
theorem k_86_16 : lk 86 16 = some (.newarray .int, 18, 11, 0, .null) := by decide +kernel
theorem x_86_16 : Tr sc d 86 (16, [l0, l1], [.int i1, .ref k0], h) Q = ((hN h < 1000 ∧ TG (hN h) = 11 ∧ (¬ i1 < 0) ∧ LN (hN h) = i1.toNatClampNeg ∧ LN (hN h) ≤ 60000) ∧ Tr sc d 86 (18, [l0, l1], [.ref (hN h), .ref k0], nH h) Q) := t_gd k_86_16 rfl
theorem k_86_18 : lk 86 18 = some (.putfield 15, 21, 8, 1, .null) := by decide +kernel
theorem x_86_18 : Tr sc d 86 (18, [l0, l1], [.ref k1, .ref k0], h) Q = (okp h k0 8 = true ∧ Tr sc d 86 (21, [l0, l1], [], (sR h k0 1 (some k1))) Q) := t_gd k_86_18 rfl
theorem k_86_21 : lk 86 21 = some (.aload_n 0, 22, 0, 0, .null) := by decide +kernel
theorem x_86_21 : Tr sc d 86 (21, [some (.ref xk), l1], [], h) Q = Tr sc d 86 (22, [some (.ref xk), l1], [.ref xk], h) Q := t_aload_n k_86_21 rfl
theorem k_86_22 : lk 86 22 = some (.bipush 6, 24, 0, 0, .int 6) := by decide +kernel
theorem x_86_22 : Tr sc d 86 (22, [l0, l1], [.ref k0], h) Q = Tr sc d 86 (24, [l0, l1], [.int 6, .ref k0], h) Q := t_go k_86_22 rfl
theorem k_86_24 : lk 86 24 = some (.newarray .int, 26, 11, 0, .null) := by decide +kernel
theorem x_86_24 : Tr sc d 86 (24, [l0, l1], [.int i1, .ref k0], h) Q = ((hN h < 1000 ∧ TG (hN h) = 11 ∧ (¬ i1 < 0) ∧ LN (hN h) = i1.toNatClampNeg ∧ LN (hN h) ≤ 60000) ∧ Tr sc d 86 (26, [l0, l1], [.ref (hN h), .ref k0], nH h) Q) := t_gd k_86_24 rfl
theorem k_86_26 : lk 86 26 = some (.putfield 19, 29, 8, 2, .null) := by decide +kernel
theorem x_86_26 : Tr sc d 86 (26, [l0, l1], [.ref k1, .ref k0], h) Q = (okp h k0 8 = true ∧ Tr sc d 86 (29, [l0, l1], [], (sR h k0 2 (some k1))) Q) := t_gd k_86_26 rfl
theorem k_86_29 : lk 86 29 = some (.aload_n 0, 30, 0, 0, .null) := by decide +kernel
theorem x_86_29 : Tr sc d 86 (29, [some (.ref xk), l1], [], h) Q = Tr sc d 86 (30, [some (.ref xk), l1], [.ref xk], h) Q := t_aload_n k_86_29 rfl
theorem k_86_30 : lk 86 30 = some (.iconst 0, 31, 0, 0, .int 0) := by decide +kernel
theorem x_86_30 : Tr sc d 86 (30, [l0, l1], [.ref k0], h) Q = Tr sc d 86 (31, [l0, l1], [.int 0, .ref k0], h) Q := t_go k_86_30 rfl
theorem k_86_31 : lk 86 31 = some (.putfield 22, 34, 8, 4, .int 0) := by decide +kernel
theorem x_86_31 : Tr sc d 86 (31, [l0, l1], [.int i1, .ref k0], h) Q = (okp h k0 8 = true ∧ Tr sc d 86 (34, [l0, l1], [], (sI h k0 4 i1)) Q) := t_gd k_86_31 rfl
theorem k_86_34 : lk 86 34 = some (.aload_n 0, 35, 0, 0, .null) := by decide +kernel
theorem x_86_34 : Tr sc d 86 (34, [some (.ref xk), l1], [], h) Q = Tr sc d 86 (35, [some (.ref xk), l1], [.ref xk], h) Q := t_aload_n k_86_34 rfl
theorem k_86_35 : lk 86 35 = some (.iconst 2, 36, 0, 0, .int 2) := by decide +kernel
theorem x_86_35 : Tr sc d 86 (35, [l0, l1], [.ref k0], h) Q = Tr sc d 86 (36, [l0, l1], [.int 2, .ref k0], h) Q := t_go k_86_35 rfl
theorem k_86_36 : lk 86 36 = some (.putfield 26, 39, 8, 5, .int 0) := by decide +kernel
theorem x_86_36 : Tr sc d 86 (36, [l0, l1], [.int i1, .ref k0], h) Q = (okp h k0 8 = true ∧ Tr sc d 86 (39, [l0, l1], [], (sI h k0 5 i1)) Q) := t_gd k_86_36 rfl
theorem k_86_39 : lk 86 39 = some (.aload_n 0, 40, 0, 0, .null) := by decide +kernel
theorem x_86_39 : Tr sc d 86 (39, [some (.ref xk), l1], [], h) Q = Tr sc d 86 (40, [some (.ref xk), l1], [.ref xk], h) Q := t_aload_n k_86_39 rfl
theorem k_86_40 : lk 86 40 = some (.aload_n 1, 41, 1, 0, .null) := by decide +kernel
theorem x_86_40 : Tr sc d 86 (40, [l0, some (.ref xk)], [.ref k0], h) Q = Tr sc d 86 (41, [l0, some (.ref xk)], [.ref xk, .ref k0], h) Q := t_aload_n k_86_40 rfl
theorem k_86_41 : lk 86 41 = some (.putfield 29, 44, 8, 3, .null) := by decide +kernel
theorem x_86_41 : Tr sc d 86 (41, [l0, l1], [.ref k1, .ref k0], h) Q = (okp h k0 8 = true ∧ Tr sc d 86 (44, [l0, l1], [], (sR h k0 3 (some k1))) Q) := t_gd k_86_41 rfl
theorem k_86_44 : lk 86 44 = some (.return_, 45, 0, 0, .null) := by decide +kernel
theorem x_86_44 : Tr sc d 86 (44, [l0, l1], [], h) Q = Q (none, h) := t_ret k_86_44 (by rw [r_86]; rfl)
theorem e_86 : Tr sc d 86 (ent0 86 [.ref k0, .ref k1] h) Q = Tr sc d 86 (0, [some (.ref k0), some (.ref k1)], [], h) Q := by
  have e : mL 86 = 2 := by decide +kernel
  unfold ent0
  rw [e]
  rfl
theorem r_87 : mR 87 = none := by decide +kernel
theorem k_87_0 : lk 87 0 = some (.aload_n 0, 1, 0, 0, .null) := by decide +kernel
theorem x_87_0 : Tr sc d 87 (0, [some (.ref xk), l1, l2, l3], [], h) Q = Tr sc d 87 (1, [some (.ref xk), l1, l2, l3], [.ref xk], h) Q := t_aload_n k_87_0 rfl
theorem k_87_1 : lk 87 1 = some (.aload_n 1, 2, 1, 0, .null) := by decide +kernel
theorem x_87_1 : Tr sc d 87 (1, [l0, some (.ref xk), l2, l3], [.ref k0], h) Q = Tr sc d 87 (2, [l0, some (.ref xk), l2, l3], [.ref xk, .ref k0], h) Q := t_aload_n k_87_1 rfl
theorem k_87_2 : lk 87 2 = some (.getfield 33, 5, 6, 7, .int 0) := by decide +kernel
theorem x_87_2 : Tr sc d 87 (2, [l0, l1, l2, l3], [.ref k1, .ref k0], h) Q = (okp h k1 6 = true ∧ Tr sc d 87 (5, [l0, l1, l2, l3], [.int (hI h k1 7), .ref k0], h) Q) := t_gd k_87_2 rfl
theorem k_87_5 : lk 87 5 = some (.putfield 26, 8, 8, 5, .int 0) := by decide +kernel
theorem x_87_5 : Tr sc d 87 (5, [l0, l1, l2, l3], [.int i1, .ref k0], h) Q = (okp h k0 8 = true ∧ Tr sc d 87 (8, [l0, l1, l2, l3], [], (sI h k0 5 i1)) Q) := t_gd k_87_5 rfl
theorem k_87_8 : lk 87 8 = some (.aload_n 0, 9, 0, 0, .null) := by decide +kernel
theorem x_87_8 : Tr sc d 87 (8, [some (.ref xk), l1, l2, l3], [], h) Q = Tr sc d 87 (9, [some (.ref xk), l1, l2, l3], [.ref xk], h) Q := t_aload_n k_87_8 rfl
theorem k_87_9 : lk 87 9 = some (.aload_n 1, 10, 1, 0, .null) := by decide +kernel
theorem x_87_9 : Tr sc d 87 (9, [l0, some (.ref xk), l2, l3], [.ref k0], h) Q = Tr sc d 87 (10, [l0, some (.ref xk), l2, l3], [.ref xk, .ref k0], h) Q := t_aload_n k_87_9 rfl
theorem k_87_10 : lk 87 10 = some (.getfield 36, 13, 6, 8, .int 0) := by decide +kernel
theorem x_87_10 : Tr sc d 87 (10, [l0, l1, l2, l3], [.ref k1, .ref k0], h) Q = (okp h k1 6 = true ∧ Tr sc d 87 (13, [l0, l1, l2, l3], [.int (hI h k1 8), .ref k0], h) Q) := t_gd k_87_10 rfl
theorem k_87_13 : lk 87 13 = some (.putfield 22, 16, 8, 4, .int 0) := by decide +kernel
theorem x_87_13 : Tr sc d 87 (13, [l0, l1, l2, l3], [.int i1, .ref k0], h) Q = (okp h k0 8 = true ∧ Tr sc d 87 (16, [l0, l1, l2, l3], [], (sI h k0 4 i1)) Q) := t_gd k_87_13 rfl
theorem k_87_16 : lk 87 16 = some (.iconst 0, 17, 0, 0, .int 0) := by decide +kernel
theorem x_87_16 : Tr sc d 87 (16, [l0, l1, l2, l3], [], h) Q = Tr sc d 87 (17, [l0, l1, l2, l3], [.int 0], h) Q := t_go k_87_16 rfl
theorem k_87_17 : lk 87 17 = some (.istore_n 3, 18, 3, 0, .null) := by decide +kernel
theorem x_87_17 : Tr sc d 87 (17, [l0, l1, l2, l3], [.int i0], h) Q = Tr sc d 87 (18, [l0, l1, cl2 l2, some (.int i0)], [], h) Q := t_istore_n k_87_17 (Nat.le_of_ble_eq_true rfl)
theorem k_87_18 : lk 87 18 = some (.iload_n 3, 19, 3, 0, .null) := by decide +kernel
theorem x_87_18 : Tr sc d 87 (18, [l0, l1, l2, some (.int x)], [], h) Q = Tr sc d 87 (19, [l0, l1, l2, some (.int x)], [.int x], h) Q := t_iload_n k_87_18 rfl
theorem k_87_19 : lk 87 19 = some (.aload_n 0, 20, 0, 0, .null) := by decide +kernel
theorem x_87_19 : Tr sc d 87 (19, [some (.ref xk), l1, l2, l3], [.int i0], h) Q = Tr sc d 87 (20, [some (.ref xk), l1, l2, l3], [.ref xk, .int i0], h) Q := t_aload_n k_87_19 rfl
theorem k_87_20 : lk 87 20 = some (.getfield 22, 23, 8, 4, .int 0) := by decide +kernel
theorem x_87_20 : Tr sc d 87 (20, [l0, l1, l2, l3], [.ref k1, .int i0], h) Q = (okp h k1 8 = true ∧ Tr sc d 87 (23, [l0, l1, l2, l3], [.int (hI h k1 4), .int i0], h) Q) := t_gd k_87_20 rfl
theorem k_87_23 : lk 87 23 = some (.if_icmp .ge 37, 26, 60, 0, .null) := by decide +kernel
theorem x_87_23 : Tr sc d 87 (23, [l0, l1, l2, l3], [.int i1, .int i0], h) Q = if i1 ≤ i0 then Tr sc d 87 (60, [l0, l1, l2, l3], [], h) Q else Tr sc d 87 (26, [l0, l1, l2, l3], [], h) Q := t_if k_87_23 rfl
theorem k_87_26 : lk 87 26 = some (.aload_n 0, 27, 0, 0, .null) := by decide +kernel
theorem x_87_26 : Tr sc d 87 (26, [some (.ref xk), l1, l2, l3], [], h) Q = Tr sc d 87 (27, [some (.ref xk), l1, l2, l3], [.ref xk], h) Q := t_aload_n k_87_26 rfl
theorem k_87_27 : lk 87 27 = some (.getfield 15, 30, 8, 1, .null) := by decide +kernel
theorem x_87_27 : Tr sc d 87 (27, [l0, l1, l2, l3], [.ref k0], h) Q = (okp h k0 8 = true ∧ ∃ q, hR h k0 1 = some q ∧ Tr sc d 87 (30, [l0, l1, l2, l3], [.ref q], h) Q) := t_getr k_87_27
theorem k_87_30 : lk 87 30 = some (.iload_n 3, 31, 3, 0, .null) := by decide +kernel
theorem x_87_30 : Tr sc d 87 (30, [l0, l1, l2, some (.int x)], [.ref k0], h) Q = Tr sc d 87 (31, [l0, l1, l2, some (.int x)], [.int x, .ref k0], h) Q := t_iload_n k_87_30 rfl
theorem k_87_31 : lk 87 31 = some (.iload_n 2, 32, 2, 0, .null) := by decide +kernel
theorem x_87_31 : Tr sc d 87 (31, [l0, l1, some (.int x), l3], [.int i1, .ref k0], h) Q = Tr sc d 87 (32, [l0, l1, some (.int x), l3], [.int x, .int i1, .ref k0], h) Q := t_iload_n k_87_31 rfl
theorem k_87_32 : lk 87 32 = some (.aload_n 1, 33, 1, 0, .null) := by decide +kernel
theorem x_87_32 : Tr sc d 87 (32, [l0, some (.ref xk), l2, l3], [.int i2, .int i1, .ref k0], h) Q = Tr sc d 87 (33, [l0, some (.ref xk), l2, l3], [.ref xk, .int i2, .int i1, .ref k0], h) Q := t_aload_n k_87_32 rfl
theorem k_87_33 : lk 87 33 = some (.getfield 37, 36, 6, 1, .null) := by decide +kernel
theorem x_87_33 : Tr sc d 87 (33, [l0, l1, l2, l3], [.ref k3, .int i2, .int i1, .ref k0], h) Q = (okp h k3 6 = true ∧ ∃ q, hR h k3 1 = some q ∧ Tr sc d 87 (36, [l0, l1, l2, l3], [.ref q, .int i2, .int i1, .ref k0], h) Q) := t_getr k_87_33
theorem k_87_36 : lk 87 36 = some (.iload_n 3, 37, 3, 0, .null) := by decide +kernel
theorem x_87_36 : Tr sc d 87 (36, [l0, l1, l2, some (.int x)], [.ref k3, .int i2, .int i1, .ref k0], h) Q = Tr sc d 87 (37, [l0, l1, l2, some (.int x)], [.int x, .ref k3, .int i2, .int i1, .ref k0], h) Q := t_iload_n k_87_36 rfl
theorem k_87_37 : lk 87 37 = some (.iaload, 38, 0, 0, .null) := by decide +kernel
theorem x_87_37 : Tr sc d 87 (37, [l0, l1, l2, l3], [.int i4, .ref k3, .int i2, .int i1, .ref k0], h) Q = (iOk sc h k3 i4 ∧ Tr sc d 87 (38, [l0, l1, l2, l3], [.int (iRd sc h k3 i4), .int i2, .int i1, .ref k0], h) Q) := t_iald k_87_37
theorem k_87_38 : lk 87 38 = some (.imul, 39, 0, 0, .null) := by decide +kernel
theorem x_87_38 : Tr sc d 87 (38, [l0, l1, l2, l3], [.int i3, .int i2, .int i1, .ref k0], h) Q = Tr sc d 87 (39, [l0, l1, l2, l3], [.int (i2 * i3), .int i1, .ref k0], h) Q := t_go k_87_38 rfl
theorem k_87_39 : lk 87 39 = some (.iastore, 40, 0, 0, .null) := by decide +kernel
theorem x_87_39 : Tr sc d 87 (39, [l0, l1, l2, l3], [.int i2, .int i1, .ref k0], h) Q = ((okp h k0 11 && inb i1 (LN k0)) = true ∧ Tr sc d 87 (40, [l0, l1, l2, l3], [], (sI h k0 i1.toNatClampNeg i2)) Q) := t_gd k_87_39 rfl
theorem k_87_40 : lk 87 40 = some (.aload_n 0, 41, 0, 0, .null) := by decide +kernel
theorem x_87_40 : Tr sc d 87 (40, [some (.ref xk), l1, l2, l3], [], h) Q = Tr sc d 87 (41, [some (.ref xk), l1, l2, l3], [.ref xk], h) Q := t_aload_n k_87_40 rfl
theorem k_87_41 : lk 87 41 = some (.getfield 19, 44, 8, 2, .null) := by decide +kernel
theorem x_87_41 : Tr sc d 87 (41, [l0, l1, l2, l3], [.ref k0], h) Q = (okp h k0 8 = true ∧ ∃ q, hR h k0 2 = some q ∧ Tr sc d 87 (44, [l0, l1, l2, l3], [.ref q], h) Q) := t_getr k_87_41
theorem k_87_44 : lk 87 44 = some (.iload_n 3, 45, 3, 0, .null) := by decide +kernel
theorem x_87_44 : Tr sc d 87 (44, [l0, l1, l2, some (.int x)], [.ref k0], h) Q = Tr sc d 87 (45, [l0, l1, l2, some (.int x)], [.int x, .ref k0], h) Q := t_iload_n k_87_44 rfl
theorem k_87_45 : lk 87 45 = some (.iload_n 2, 46, 2, 0, .null) := by decide +kernel
theorem x_87_45 : Tr sc d 87 (45, [l0, l1, some (.int x), l3], [.int i1, .ref k0], h) Q = Tr sc d 87 (46, [l0, l1, some (.int x), l3], [.int x, .int i1, .ref k0], h) Q := t_iload_n k_87_45 rfl
theorem k_87_46 : lk 87 46 = some (.aload_n 1, 47, 1, 0, .null) := by decide +kernel
theorem x_87_46 : Tr sc d 87 (46, [l0, some (.ref xk), l2, l3], [.int i2, .int i1, .ref k0], h) Q = Tr sc d 87 (47, [l0, some (.ref xk), l2, l3], [.ref xk, .int i2, .int i1, .ref k0], h) Q := t_aload_n k_87_46 rfl
theorem k_87_47 : lk 87 47 = some (.getfield 40, 50, 6, 2, .null) := by decide +kernel
theorem x_87_47 : Tr sc d 87 (47, [l0, l1, l2, l3], [.ref k3, .int i2, .int i1, .ref k0], h) Q = (okp h k3 6 = true ∧ ∃ q, hR h k3 2 = some q ∧ Tr sc d 87 (50, [l0, l1, l2, l3], [.ref q, .int i2, .int i1, .ref k0], h) Q) := t_getr k_87_47
theorem k_87_50 : lk 87 50 = some (.iload_n 3, 51, 3, 0, .null) := by decide +kernel
theorem x_87_50 : Tr sc d 87 (50, [l0, l1, l2, some (.int x)], [.ref k3, .int i2, .int i1, .ref k0], h) Q = Tr sc d 87 (51, [l0, l1, l2, some (.int x)], [.int x, .ref k3, .int i2, .int i1, .ref k0], h) Q := t_iload_n k_87_50 rfl
theorem k_87_51 : lk 87 51 = some (.iaload, 52, 0, 0, .null) := by decide +kernel
theorem x_87_51 : Tr sc d 87 (51, [l0, l1, l2, l3], [.int i4, .ref k3, .int i2, .int i1, .ref k0], h) Q = (iOk sc h k3 i4 ∧ Tr sc d 87 (52, [l0, l1, l2, l3], [.int (iRd sc h k3 i4), .int i2, .int i1, .ref k0], h) Q) := t_iald k_87_51
theorem k_87_52 : lk 87 52 = some (.imul, 53, 0, 0, .null) := by decide +kernel
theorem x_87_52 : Tr sc d 87 (52, [l0, l1, l2, l3], [.int i3, .int i2, .int i1, .ref k0], h) Q = Tr sc d 87 (53, [l0, l1, l2, l3], [.int (i2 * i3), .int i1, .ref k0], h) Q := t_go k_87_52 rfl
theorem k_87_53 : lk 87 53 = some (.iastore, 54, 0, 0, .null) := by decide +kernel
theorem x_87_53 : Tr sc d 87 (53, [l0, l1, l2, l3], [.int i2, .int i1, .ref k0], h) Q = ((okp h k0 11 && inb i1 (LN k0)) = true ∧ Tr sc d 87 (54, [l0, l1, l2, l3], [], (sI h k0 i1.toNatClampNeg i2)) Q) := t_gd k_87_53 rfl
theorem k_87_54 : lk 87 54 = some (.iinc 3 1, 57, 3, 0, .int 1) := by decide +kernel
theorem x_87_54 : Tr sc d 87 (54, [l0, l1, l2, some (.int x)], [], h) Q = Tr sc d 87 (57, [l0, l1, cl2 l2, some (.int (x + 1))], [], h) Q := t_inc k_87_54 rfl (Nat.le_of_ble_eq_true rfl)
theorem k_87_57 : lk 87 57 = some (.goto (-39), 60, 18, 0, .null) := by decide +kernel
theorem x_87_57 : Tr sc d 87 (57, [l0, l1, l2, l3], [], h) Q = Tr sc d 87 (18, [l0, l1, l2, l3], [], h) Q := t_go k_87_57 rfl
theorem k_87_60 : lk 87 60 = some (.aload_n 0, 61, 0, 0, .null) := by decide +kernel
theorem x_87_60 : Tr sc d 87 (60, [some (.ref xk), l1, l2, l3], [], h) Q = Tr sc d 87 (61, [some (.ref xk), l1, l2, l3], [.ref xk], h) Q := t_aload_n k_87_60 rfl
theorem k_87_61 : lk 87 61 = some (.iload_n 2, 62, 2, 0, .null) := by decide +kernel
theorem x_87_61 : Tr sc d 87 (61, [l0, l1, some (.int x), l3], [.ref k0], h) Q = Tr sc d 87 (62, [l0, l1, some (.int x), l3], [.int x, .ref k0], h) Q := t_iload_n k_87_61 rfl
theorem k_87_62 : lk 87 62 = some (.aload_n 1, 63, 1, 0, .null) := by decide +kernel
theorem x_87_62 : Tr sc d 87 (62, [l0, some (.ref xk), l2, l3], [.int i1, .ref k0], h) Q = Tr sc d 87 (63, [l0, some (.ref xk), l2, l3], [.ref xk, .int i1, .ref k0], h) Q := t_aload_n k_87_62 rfl
theorem k_87_63 : lk 87 63 = some (.aload_n 1, 64, 1, 0, .null) := by decide +kernel
theorem x_87_63 : Tr sc d 87 (63, [l0, some (.ref xk), l2, l3], [.ref k2, .int i1, .ref k0], h) Q = Tr sc d 87 (64, [l0, some (.ref xk), l2, l3], [.ref xk, .ref k2, .int i1, .ref k0], h) Q := t_aload_n k_87_63 rfl
theorem k_87_64 : lk 87 64 = some (.getfield 37, 67, 6, 1, .null) := by decide +kernel
theorem x_87_64 : Tr sc d 87 (64, [l0, l1, l2, l3], [.ref k3, .ref k2, .int i1, .ref k0], h) Q = (okp h k3 6 = true ∧ ∃ q, hR h k3 1 = some q ∧ Tr sc d 87 (67, [l0, l1, l2, l3], [.ref q, .ref k2, .int i1, .ref k0], h) Q) := t_getr k_87_64
theorem k_87_67 : lk 87 67 = some (.invokevirtual 43, 70, 62, 1, .null) := by decide +kernel
theorem x_87_67 : Tr sc (d + 1) 87 (67, [l0, l1, l2, l3], [.ref k3, .ref k2, .int i1, .ref k0], h) Q = (okp h k2 6 = true ∧ Tr sc d 62 (ent0 62 [.ref k2, .ref k3] h) (fun z => Tr sc (d + 1) 87 (70, [l0, l1, l2, l3], z.1.toList ++ [.int i1, .ref k0], z.2) Q)) := t_cv (as := [.ref k3]) (r := [.int i1, .ref k0]) k_87_67 rfl rfl (Nat.le_of_ble_eq_true rfl) (Nat.le_of_ble_eq_true rfl) (Nat.le_of_ble_eq_true rfl)
theorem k_87_70 : lk 87 70 = some (.imul, 71, 0, 0, .null) := by decide +kernel
theorem x_87_70 : Tr sc d 87 (70, [l0, l1, l2, l3], [.int i2, .int i1, .ref k0], h) Q = Tr sc d 87 (71, [l0, l1, l2, l3], [.int (i1 * i2), .ref k0], h) Q := t_go k_87_70 rfl
theorem k_87_71 : lk 87 71 = some (.putfield 47, 74, 8, 6, .int 0) := by decide +kernel
theorem x_87_71 : Tr sc d 87 (71, [l0, l1, l2, l3], [.int i1, .ref k0], h) Q = (okp h k0 8 = true ∧ Tr sc d 87 (74, [l0, l1, l2, l3], [], (sI h k0 6 i1)) Q) := t_gd k_87_71 rfl
theorem k_87_74 : lk 87 74 = some (.aload_n 0, 75, 0, 0, .null) := by decide +kernel
theorem x_87_74 : Tr sc d 87 (74, [some (.ref xk), l1, l2, l3], [], h) Q = Tr sc d 87 (75, [some (.ref xk), l1, l2, l3], [.ref xk], h) Q := t_aload_n k_87_74 rfl
theorem k_87_75 : lk 87 75 = some (.iload_n 2, 76, 2, 0, .null) := by decide +kernel
theorem x_87_75 : Tr sc d 87 (75, [l0, l1, some (.int x), l3], [.ref k0], h) Q = Tr sc d 87 (76, [l0, l1, some (.int x), l3], [.int x, .ref k0], h) Q := t_iload_n k_87_75 rfl
theorem k_87_76 : lk 87 76 = some (.aload_n 1, 77, 1, 0, .null) := by decide +kernel
theorem x_87_76 : Tr sc d 87 (76, [l0, some (.ref xk), l2, l3], [.int i1, .ref k0], h) Q = Tr sc d 87 (77, [l0, some (.ref xk), l2, l3], [.ref xk, .int i1, .ref k0], h) Q := t_aload_n k_87_76 rfl
theorem k_87_77 : lk 87 77 = some (.aload_n 1, 78, 1, 0, .null) := by decide +kernel
theorem x_87_77 : Tr sc d 87 (77, [l0, some (.ref xk), l2, l3], [.ref k2, .int i1, .ref k0], h) Q = Tr sc d 87 (78, [l0, some (.ref xk), l2, l3], [.ref xk, .ref k2, .int i1, .ref k0], h) Q := t_aload_n k_87_77 rfl
theorem k_87_78 : lk 87 78 = some (.getfield 37, 81, 6, 1, .null) := by decide +kernel
theorem x_87_78 : Tr sc d 87 (78, [l0, l1, l2, l3], [.ref k3, .ref k2, .int i1, .ref k0], h) Q = (okp h k3 6 = true ∧ ∃ q, hR h k3 1 = some q ∧ Tr sc d 87 (81, [l0, l1, l2, l3], [.ref q, .ref k2, .int i1, .ref k0], h) Q) := t_getr k_87_78
theorem k_87_81 : lk 87 81 = some (.invokevirtual 50, 84, 63, 1, .null) := by decide +kernel
theorem x_87_81 : Tr sc (d + 1) 87 (81, [l0, l1, l2, l3], [.ref k3, .ref k2, .int i1, .ref k0], h) Q = (okp h k2 6 = true ∧ Tr sc d 63 (ent0 63 [.ref k2, .ref k3] h) (fun z => Tr sc (d + 1) 87 (84, [l0, l1, l2, l3], z.1.toList ++ [.int i1, .ref k0], z.2) Q)) := t_cv (as := [.ref k3]) (r := [.int i1, .ref k0]) k_87_81 rfl rfl (Nat.le_of_ble_eq_true rfl) (Nat.le_of_ble_eq_true rfl) (Nat.le_of_ble_eq_true rfl)
theorem k_87_84 : lk 87 84 = some (.imul, 85, 0, 0, .null) := by decide +kernel
theorem x_87_84 : Tr sc d 87 (84, [l0, l1, l2, l3], [.int i2, .int i1, .ref k0], h) Q = Tr sc d 87 (85, [l0, l1, l2, l3], [.int (i1 * i2), .ref k0], h) Q := t_go k_87_84 rfl
theorem k_87_85 : lk 87 85 = some (.putfield 53, 88, 8, 7, .int 0) := by decide +kernel
theorem x_87_85 : Tr sc d 87 (85, [l0, l1, l2, l3], [.int i1, .ref k0], h) Q = (okp h k0 8 = true ∧ Tr sc d 87 (88, [l0, l1, l2, l3], [], (sI h k0 7 i1)) Q) := t_gd k_87_85 rfl
theorem k_87_88 : lk 87 88 = some (.aload_n 0, 89, 0, 0, .null) := by decide +kernel
theorem x_87_88 : Tr sc d 87 (88, [some (.ref xk), l1, l2, l3], [], h) Q = Tr sc d 87 (89, [some (.ref xk), l1, l2, l3], [.ref xk], h) Q := t_aload_n k_87_88 rfl
theorem k_87_89 : lk 87 89 = some (.iload_n 2, 90, 2, 0, .null) := by decide +kernel
theorem x_87_89 : Tr sc d 87 (89, [l0, l1, some (.int x), l3], [.ref k0], h) Q = Tr sc d 87 (90, [l0, l1, some (.int x), l3], [.int x, .ref k0], h) Q := t_iload_n k_87_89 rfl
theorem k_87_90 : lk 87 90 = some (.aload_n 1, 91, 1, 0, .null) := by decide +kernel
theorem x_87_90 : Tr sc d 87 (90, [l0, some (.ref xk), l2, l3], [.int i1, .ref k0], h) Q = Tr sc d 87 (91, [l0, some (.ref xk), l2, l3], [.ref xk, .int i1, .ref k0], h) Q := t_aload_n k_87_90 rfl
theorem k_87_91 : lk 87 91 = some (.aload_n 1, 92, 1, 0, .null) := by decide +kernel
theorem x_87_91 : Tr sc d 87 (91, [l0, some (.ref xk), l2, l3], [.ref k2, .int i1, .ref k0], h) Q = Tr sc d 87 (92, [l0, some (.ref xk), l2, l3], [.ref xk, .ref k2, .int i1, .ref k0], h) Q := t_aload_n k_87_91 rfl
theorem k_87_92 : lk 87 92 = some (.getfield 40, 95, 6, 2, .null) := by decide +kernel
theorem x_87_92 : Tr sc d 87 (92, [l0, l1, l2, l3], [.ref k3, .ref k2, .int i1, .ref k0], h) Q = (okp h k3 6 = true ∧ ∃ q, hR h k3 2 = some q ∧ Tr sc d 87 (95, [l0, l1, l2, l3], [.ref q, .ref k2, .int i1, .ref k0], h) Q) := t_getr k_87_92
theorem k_87_95 : lk 87 95 = some (.invokevirtual 43, 98, 62, 1, .null) := by decide +kernel
theorem x_87_95 : Tr sc (d + 1) 87 (95, [l0, l1, l2, l3], [.ref k3, .ref k2, .int i1, .ref k0], h) Q = (okp h k2 6 = true ∧ Tr sc d 62 (ent0 62 [.ref k2, .ref k3] h) (fun z => Tr sc (d + 1) 87 (98, [l0, l1, l2, l3], z.1.toList ++ [.int i1, .ref k0], z.2) Q)) := t_cv (as := [.ref k3]) (r := [.int i1, .ref k0]) k_87_95 rfl rfl (Nat.le_of_ble_eq_true rfl) (Nat.le_of_ble_eq_true rfl) (Nat.le_of_ble_eq_true rfl)
theorem k_87_98 : lk 87 98 = some (.imul, 99, 0, 0, .null) := by decide +kernel
theorem x_87_98 : Tr sc d 87 (98, [l0, l1, l2, l3], [.int i2, .int i1, .ref k0], h) Q = Tr sc d 87 (99, [l0, l1, l2, l3], [.int (i1 * i2), .ref k0], h) Q := t_go k_87_98 rfl
theorem k_87_99 : lk 87 99 = some (.putfield 56, 102, 8, 8, .int 0) := by decide +kernel
theorem x_87_99 : Tr sc d 87 (99, [l0, l1, l2, l3], [.int i1, .ref k0], h) Q = (okp h k0 8 = true ∧ Tr sc d 87 (102, [l0, l1, l2, l3], [], (sI h k0 8 i1)) Q) := t_gd k_87_99 rfl
theorem k_87_102 : lk 87 102 = some (.aload_n 0, 103, 0, 0, .null) := by decide +kernel
theorem x_87_102 : Tr sc d 87 (102, [some (.ref xk), l1, l2, l3], [], h) Q = Tr sc d 87 (103, [some (.ref xk), l1, l2, l3], [.ref xk], h) Q := t_aload_n k_87_102 rfl
theorem k_87_103 : lk 87 103 = some (.iload_n 2, 104, 2, 0, .null) := by decide +kernel
theorem x_87_103 : Tr sc d 87 (103, [l0, l1, some (.int x), l3], [.ref k0], h) Q = Tr sc d 87 (104, [l0, l1, some (.int x), l3], [.int x, .ref k0], h) Q := t_iload_n k_87_103 rfl
theorem k_87_104 : lk 87 104 = some (.aload_n 1, 105, 1, 0, .null) := by decide +kernel
theorem x_87_104 : Tr sc d 87 (104, [l0, some (.ref xk), l2, l3], [.int i1, .ref k0], h) Q = Tr sc d 87 (105, [l0, some (.ref xk), l2, l3], [.ref xk, .int i1, .ref k0], h) Q := t_aload_n k_87_104 rfl
theorem k_87_105 : lk 87 105 = some (.aload_n 1, 106, 1, 0, .null) := by decide +kernel
theorem x_87_105 : Tr sc d 87 (105, [l0, some (.ref xk), l2, l3], [.ref k2, .int i1, .ref k0], h) Q = Tr sc d 87 (106, [l0, some (.ref xk), l2, l3], [.ref xk, .ref k2, .int i1, .ref k0], h) Q := t_aload_n k_87_105 rfl
theorem k_87_106 : lk 87 106 = some (.getfield 40, 109, 6, 2, .null) := by decide +kernel
theorem x_87_106 : Tr sc d 87 (106, [l0, l1, l2, l3], [.ref k3, .ref k2, .int i1, .ref k0], h) Q = (okp h k3 6 = true ∧ ∃ q, hR h k3 2 = some q ∧ Tr sc d 87 (109, [l0, l1, l2, l3], [.ref q, .ref k2, .int i1, .ref k0], h) Q) := t_getr k_87_106
theorem k_87_109 : lk 87 109 = some (.invokevirtual 50, 112, 63, 1, .null) := by decide +kernel
theorem x_87_109 : Tr sc (d + 1) 87 (109, [l0, l1, l2, l3], [.ref k3, .ref k2, .int i1, .ref k0], h) Q = (okp h k2 6 = true ∧ Tr sc d 63 (ent0 63 [.ref k2, .ref k3] h) (fun z => Tr sc (d + 1) 87 (112, [l0, l1, l2, l3], z.1.toList ++ [.int i1, .ref k0], z.2) Q)) := t_cv (as := [.ref k3]) (r := [.int i1, .ref k0]) k_87_109 rfl rfl (Nat.le_of_ble_eq_true rfl) (Nat.le_of_ble_eq_true rfl) (Nat.le_of_ble_eq_true rfl)
theorem k_87_112 : lk 87 112 = some (.imul, 113, 0, 0, .null) := by decide +kernel
theorem x_87_112 : Tr sc d 87 (112, [l0, l1, l2, l3], [.int i2, .int i1, .ref k0], h) Q = Tr sc d 87 (113, [l0, l1, l2, l3], [.int (i1 * i2), .ref k0], h) Q := t_go k_87_112 rfl
theorem k_87_113 : lk 87 113 = some (.putfield 59, 116, 8, 9, .int 0) := by decide +kernel
theorem x_87_113 : Tr sc d 87 (113, [l0, l1, l2, l3], [.int i1, .ref k0], h) Q = (okp h k0 8 = true ∧ Tr sc d 87 (116, [l0, l1, l2, l3], [], (sI h k0 9 i1)) Q) := t_gd k_87_113 rfl
theorem k_87_116 : lk 87 116 = some (.return_, 117, 0, 0, .null) := by decide +kernel
theorem x_87_116 : Tr sc d 87 (116, [l0, l1, l2, l3], [], h) Q = Q (none, h) := t_ret k_87_116 (by rw [r_87]; rfl)
theorem e_87 : Tr sc d 87 (ent0 87 [.ref k0, .ref k1, .int i2] h) Q = Tr sc d 87 (0, [some (.ref k0), some (.ref k1), some (.int i2), none], [], h) Q := by
  have e : mL 87 = 4 := by decide +kernel
  unfold ent0
  rw [e]
  rfl
theorem r_88 : mR 88 = some .boolean := by decide +kernel
theorem k_88_0 : lk 88 0 = some (.aload_n 0, 1, 0, 0, .null) := by decide +kernel
theorem x_88_0 : Tr sc d 88 (0, [some (.ref xk), l1, l2, l3], [], h) Q = Tr sc d 88 (1, [some (.ref xk), l1, l2, l3], [.ref xk], h) Q := t_aload_n k_88_0 rfl
theorem k_88_1 : lk 88 1 = some (.getfield 26, 4, 8, 5, .int 0) := by decide +kernel
theorem x_88_1 : Tr sc d 88 (1, [l0, l1, l2, l3], [.ref k0], h) Q = (okp h k0 8 = true ∧ Tr sc d 88 (4, [l0, l1, l2, l3], [.int (hI h k0 5)], h) Q) := t_gd k_88_1 rfl
theorem k_88_4 : lk 88 4 = some (.iconst 1, 5, 0, 0, .int 1) := by decide +kernel
theorem x_88_4 : Tr sc d 88 (4, [l0, l1, l2, l3], [.int i0], h) Q = Tr sc d 88 (5, [l0, l1, l2, l3], [.int 1, .int i0], h) Q := t_go k_88_4 rfl
theorem k_88_5 : lk 88 5 = some (.isub, 6, 0, 0, .null) := by decide +kernel
theorem x_88_5 : Tr sc d 88 (5, [l0, l1, l2, l3], [.int i1, .int i0], h) Q = Tr sc d 88 (6, [l0, l1, l2, l3], [.int (i0 - i1)], h) Q := t_go k_88_5 rfl
theorem k_88_6 : lk 88 6 = some (.istore_n 3, 7, 3, 0, .null) := by decide +kernel
theorem x_88_6 : Tr sc d 88 (6, [l0, l1, l2, l3], [.int i0], h) Q = Tr sc d 88 (7, [l0, l1, cl2 l2, some (.int i0)], [], h) Q := t_istore_n k_88_6 (Nat.le_of_ble_eq_true rfl)
theorem k_88_7 : lk 88 7 = some (.iload_n 3, 8, 3, 0, .null) := by decide +kernel
theorem x_88_7 : Tr sc d 88 (7, [l0, l1, l2, some (.int x)], [], h) Q = Tr sc d 88 (8, [l0, l1, l2, some (.int x)], [.int x], h) Q := t_iload_n k_88_7 rfl
theorem k_88_8 : lk 88 8 = some (.iload_n 1, 9, 1, 0, .null) := by decide +kernel
theorem x_88_8 : Tr sc d 88 (8, [l0, some (.int x), l2, l3], [.int i0], h) Q = Tr sc d 88 (9, [l0, some (.int x), l2, l3], [.int x, .int i0], h) Q := t_iload_n k_88_8 rfl
theorem k_88_9 : lk 88 9 = some (.imul, 10, 0, 0, .null) := by decide +kernel
theorem x_88_9 : Tr sc d 88 (9, [l0, l1, l2, l3], [.int i1, .int i0], h) Q = Tr sc d 88 (10, [l0, l1, l2, l3], [.int (i0 * i1)], h) Q := t_go k_88_9 rfl
theorem k_88_10 : lk 88 10 = some (.aload_n 0, 11, 0, 0, .null) := by decide +kernel
theorem x_88_10 : Tr sc d 88 (10, [some (.ref xk), l1, l2, l3], [.int i0], h) Q = Tr sc d 88 (11, [some (.ref xk), l1, l2, l3], [.ref xk, .int i0], h) Q := t_aload_n k_88_10 rfl
theorem k_88_11 : lk 88 11 = some (.getfield 47, 14, 8, 6, .int 0) := by decide +kernel
theorem x_88_11 : Tr sc d 88 (11, [l0, l1, l2, l3], [.ref k1, .int i0], h) Q = (okp h k1 8 = true ∧ Tr sc d 88 (14, [l0, l1, l2, l3], [.int (hI h k1 6), .int i0], h) Q) := t_gd k_88_11 rfl
theorem k_88_14 : lk 88 14 = some (.if_icmp .lt 37, 17, 51, 0, .null) := by decide +kernel
theorem x_88_14 : Tr sc d 88 (14, [l0, l1, l2, l3], [.int i1, .int i0], h) Q = if i0 < i1 then Tr sc d 88 (51, [l0, l1, l2, l3], [], h) Q else Tr sc d 88 (17, [l0, l1, l2, l3], [], h) Q := t_if k_88_14 rfl
theorem k_88_17 : lk 88 17 = some (.iload_n 3, 18, 3, 0, .null) := by decide +kernel
theorem x_88_17 : Tr sc d 88 (17, [l0, l1, l2, some (.int x)], [], h) Q = Tr sc d 88 (18, [l0, l1, l2, some (.int x)], [.int x], h) Q := t_iload_n k_88_17 rfl
theorem k_88_18 : lk 88 18 = some (.iload_n 1, 19, 1, 0, .null) := by decide +kernel
theorem x_88_18 : Tr sc d 88 (18, [l0, some (.int x), l2, l3], [.int i0], h) Q = Tr sc d 88 (19, [l0, some (.int x), l2, l3], [.int x, .int i0], h) Q := t_iload_n k_88_18 rfl
theorem k_88_19 : lk 88 19 = some (.imul, 20, 0, 0, .null) := by decide +kernel
theorem x_88_19 : Tr sc d 88 (19, [l0, l1, l2, l3], [.int i1, .int i0], h) Q = Tr sc d 88 (20, [l0, l1, l2, l3], [.int (i0 * i1)], h) Q := t_go k_88_19 rfl
theorem k_88_20 : lk 88 20 = some (.aload_n 0, 21, 0, 0, .null) := by decide +kernel
theorem x_88_20 : Tr sc d 88 (20, [some (.ref xk), l1, l2, l3], [.int i0], h) Q = Tr sc d 88 (21, [some (.ref xk), l1, l2, l3], [.ref xk, .int i0], h) Q := t_aload_n k_88_20 rfl
theorem k_88_21 : lk 88 21 = some (.getfield 53, 24, 8, 7, .int 0) := by decide +kernel
theorem x_88_21 : Tr sc d 88 (21, [l0, l1, l2, l3], [.ref k1, .int i0], h) Q = (okp h k1 8 = true ∧ Tr sc d 88 (24, [l0, l1, l2, l3], [.int (hI h k1 7), .int i0], h) Q) := t_gd k_88_21 rfl
theorem k_88_24 : lk 88 24 = some (.if_icmp .gt 27, 27, 51, 0, .null) := by decide +kernel
theorem x_88_24 : Tr sc d 88 (24, [l0, l1, l2, l3], [.int i1, .int i0], h) Q = if i1 < i0 then Tr sc d 88 (51, [l0, l1, l2, l3], [], h) Q else Tr sc d 88 (27, [l0, l1, l2, l3], [], h) Q := t_if k_88_24 rfl
theorem k_88_27 : lk 88 27 = some (.iload_n 3, 28, 3, 0, .null) := by decide +kernel
theorem x_88_27 : Tr sc d 88 (27, [l0, l1, l2, some (.int x)], [], h) Q = Tr sc d 88 (28, [l0, l1, l2, some (.int x)], [.int x], h) Q := t_iload_n k_88_27 rfl
theorem k_88_28 : lk 88 28 = some (.iload_n 2, 29, 2, 0, .null) := by decide +kernel
theorem x_88_28 : Tr sc d 88 (28, [l0, l1, some (.int x), l3], [.int i0], h) Q = Tr sc d 88 (29, [l0, l1, some (.int x), l3], [.int x, .int i0], h) Q := t_iload_n k_88_28 rfl
theorem k_88_29 : lk 88 29 = some (.imul, 30, 0, 0, .null) := by decide +kernel
theorem x_88_29 : Tr sc d 88 (29, [l0, l1, l2, l3], [.int i1, .int i0], h) Q = Tr sc d 88 (30, [l0, l1, l2, l3], [.int (i0 * i1)], h) Q := t_go k_88_29 rfl
theorem k_88_30 : lk 88 30 = some (.aload_n 0, 31, 0, 0, .null) := by decide +kernel
theorem x_88_30 : Tr sc d 88 (30, [some (.ref xk), l1, l2, l3], [.int i0], h) Q = Tr sc d 88 (31, [some (.ref xk), l1, l2, l3], [.ref xk, .int i0], h) Q := t_aload_n k_88_30 rfl
theorem k_88_31 : lk 88 31 = some (.getfield 56, 34, 8, 8, .int 0) := by decide +kernel
theorem x_88_31 : Tr sc d 88 (31, [l0, l1, l2, l3], [.ref k1, .int i0], h) Q = (okp h k1 8 = true ∧ Tr sc d 88 (34, [l0, l1, l2, l3], [.int (hI h k1 8), .int i0], h) Q) := t_gd k_88_31 rfl
theorem k_88_34 : lk 88 34 = some (.if_icmp .lt 17, 37, 51, 0, .null) := by decide +kernel
theorem x_88_34 : Tr sc d 88 (34, [l0, l1, l2, l3], [.int i1, .int i0], h) Q = if i0 < i1 then Tr sc d 88 (51, [l0, l1, l2, l3], [], h) Q else Tr sc d 88 (37, [l0, l1, l2, l3], [], h) Q := t_if k_88_34 rfl
theorem k_88_37 : lk 88 37 = some (.iload_n 3, 38, 3, 0, .null) := by decide +kernel
theorem x_88_37 : Tr sc d 88 (37, [l0, l1, l2, some (.int x)], [], h) Q = Tr sc d 88 (38, [l0, l1, l2, some (.int x)], [.int x], h) Q := t_iload_n k_88_37 rfl
theorem k_88_38 : lk 88 38 = some (.iload_n 2, 39, 2, 0, .null) := by decide +kernel
theorem x_88_38 : Tr sc d 88 (38, [l0, l1, some (.int x), l3], [.int i0], h) Q = Tr sc d 88 (39, [l0, l1, some (.int x), l3], [.int x, .int i0], h) Q := t_iload_n k_88_38 rfl
theorem k_88_39 : lk 88 39 = some (.imul, 40, 0, 0, .null) := by decide +kernel
theorem x_88_39 : Tr sc d 88 (39, [l0, l1, l2, l3], [.int i1, .int i0], h) Q = Tr sc d 88 (40, [l0, l1, l2, l3], [.int (i0 * i1)], h) Q := t_go k_88_39 rfl
theorem k_88_40 : lk 88 40 = some (.aload_n 0, 41, 0, 0, .null) := by decide +kernel
theorem x_88_40 : Tr sc d 88 (40, [some (.ref xk), l1, l2, l3], [.int i0], h) Q = Tr sc d 88 (41, [some (.ref xk), l1, l2, l3], [.ref xk, .int i0], h) Q := t_aload_n k_88_40 rfl
theorem k_88_41 : lk 88 41 = some (.getfield 59, 44, 8, 9, .int 0) := by decide +kernel
theorem x_88_41 : Tr sc d 88 (41, [l0, l1, l2, l3], [.ref k1, .int i0], h) Q = (okp h k1 8 = true ∧ Tr sc d 88 (44, [l0, l1, l2, l3], [.int (hI h k1 9), .int i0], h) Q) := t_gd k_88_41 rfl
theorem k_88_44 : lk 88 44 = some (.if_icmp .gt 7, 47, 51, 0, .null) := by decide +kernel
theorem x_88_44 : Tr sc d 88 (44, [l0, l1, l2, l3], [.int i1, .int i0], h) Q = if i1 < i0 then Tr sc d 88 (51, [l0, l1, l2, l3], [], h) Q else Tr sc d 88 (47, [l0, l1, l2, l3], [], h) Q := t_if k_88_44 rfl
theorem k_88_47 : lk 88 47 = some (.iconst 1, 48, 0, 0, .int 1) := by decide +kernel
theorem x_88_47 : Tr sc d 88 (47, [l0, l1, l2, l3], [], h) Q = Tr sc d 88 (48, [l0, l1, l2, l3], [.int 1], h) Q := t_go k_88_47 rfl
theorem k_88_48 : lk 88 48 = some (.goto 4, 51, 52, 0, .null) := by decide +kernel
theorem x_88_48 : Tr sc d 88 (48, [l0, l1, l2, l3], [.int i0], h) Q = Tr sc d 88 (52, [l0, l1, l2, l3], [.int i0], h) Q := t_go k_88_48 rfl
theorem k_88_51 : lk 88 51 = some (.iconst 0, 52, 0, 0, .int 0) := by decide +kernel
theorem x_88_51 : Tr sc d 88 (51, [l0, l1, l2, l3], [], h) Q = Tr sc d 88 (52, [l0, l1, l2, l3], [.int 0], h) Q := t_go k_88_51 rfl
theorem k_88_52 : lk 88 52 = some (.ireturn, 53, 0, 0, .null) := by decide +kernel
theorem x_88_52 : Tr sc d 88 (52, [l0, l1, l2, l3], [.int i0], h) Q = (vp_nar .boolean i0 = i0 ∧ Q (some (.int i0), h)) := t_zret k_88_52 r_88
theorem e_88 : Tr sc d 88 (ent0 88 [.ref k0, .int i1, .int i2] h) Q = Tr sc d 88 (0, [some (.ref k0), some (.int i1), some (.int i2), none], [], h) Q := by
  have e : mL 88 = 4 := by decide +kernel
  unfold ent0
  rw [e]
  rfl
theorem r_89 : mR 89 = some .int := by decide +kernel
theorem k_89_0 : lk 89 0 = some (.aload_n 0, 1, 0, 0, .null) := by decide +kernel
theorem x_89_0 : Tr sc d 89 (0, [some (.ref xk), l1, l2], [], h) Q = Tr sc d 89 (1, [some (.ref xk), l1, l2], [.ref xk], h) Q := t_aload_n k_89_0 rfl
theorem k_89_1 : lk 89 1 = some (.getfield 26, 4, 8, 5, .int 0) := by decide +kernel
theorem x_89_1 : Tr sc d 89 (1, [l0, l1, l2], [.ref k0], h) Q = (okp h k0 8 = true ∧ Tr sc d 89 (4, [l0, l1, l2], [.int (hI h k0 5)], h) Q) := t_gd k_89_1 rfl
theorem k_89_4 : lk 89 4 = some (.aload_n 0, 5, 0, 0, .null) := by decide +kernel
theorem x_89_4 : Tr sc d 89 (4, [some (.ref xk), l1, l2], [.int i0], h) Q = Tr sc d 89 (5, [some (.ref xk), l1, l2], [.ref xk, .int i0], h) Q := t_aload_n k_89_4 rfl
theorem k_89_5 : lk 89 5 = some (.getfield 29, 8, 8, 3, .null) := by decide +kernel
theorem x_89_5 : Tr sc d 89 (5, [l0, l1, l2], [.ref k1, .int i0], h) Q = (okp h k1 8 = true ∧ ∃ q, hR h k1 3 = some q ∧ Tr sc d 89 (8, [l0, l1, l2], [.ref q, .int i0], h) Q) := t_getr k_89_5
theorem k_89_8 : lk 89 8 = some (.iload_n 1, 9, 1, 0, .null) := by decide +kernel
theorem x_89_8 : Tr sc d 89 (8, [l0, some (.int x), l2], [.ref k1, .int i0], h) Q = Tr sc d 89 (9, [l0, some (.int x), l2], [.int x, .ref k1, .int i0], h) Q := t_iload_n k_89_8 rfl
theorem k_89_9 : lk 89 9 = some (.invokevirtual 62, 12, 14, 1, .null) := by decide +kernel
theorem x_89_9 : Tr sc (d + 1) 89 (9, [l0, l1, l2], [.int i2, .ref k1, .int i0], h) Q = (okp h k1 1 = true ∧ Tr sc d 14 (ent0 14 [.ref k1, .int i2] h) (fun z => Tr sc (d + 1) 89 (12, [l0, l1, l2], z.1.toList ++ [.int i0], z.2) Q)) := t_cv (as := [.int i2]) (r := [.int i0]) k_89_9 rfl rfl (Nat.le_of_ble_eq_true rfl) (Nat.le_of_ble_eq_true rfl) (Nat.le_of_ble_eq_true rfl)
theorem k_89_12 : lk 89 12 = some (.imul, 13, 0, 0, .null) := by decide +kernel
theorem x_89_12 : Tr sc d 89 (12, [l0, l1, l2], [.int i1, .int i0], h) Q = Tr sc d 89 (13, [l0, l1, l2], [.int (i0 * i1)], h) Q := t_go k_89_12 rfl
theorem k_89_13 : lk 89 13 = some (.aload_n 0, 14, 0, 0, .null) := by decide +kernel
theorem x_89_13 : Tr sc d 89 (13, [some (.ref xk), l1, l2], [.int i0], h) Q = Tr sc d 89 (14, [some (.ref xk), l1, l2], [.ref xk, .int i0], h) Q := t_aload_n k_89_13 rfl
theorem k_89_14 : lk 89 14 = some (.getfield 15, 17, 8, 1, .null) := by decide +kernel
theorem x_89_14 : Tr sc d 89 (14, [l0, l1, l2], [.ref k1, .int i0], h) Q = (okp h k1 8 = true ∧ ∃ q, hR h k1 1 = some q ∧ Tr sc d 89 (17, [l0, l1, l2], [.ref q, .int i0], h) Q) := t_getr k_89_14
theorem k_89_17 : lk 89 17 = some (.iload_n 2, 18, 2, 0, .null) := by decide +kernel
theorem x_89_17 : Tr sc d 89 (17, [l0, l1, some (.int x)], [.ref k1, .int i0], h) Q = Tr sc d 89 (18, [l0, l1, some (.int x)], [.int x, .ref k1, .int i0], h) Q := t_iload_n k_89_17 rfl
theorem k_89_18 : lk 89 18 = some (.iaload, 19, 0, 0, .null) := by decide +kernel
theorem x_89_18 : Tr sc d 89 (18, [l0, l1, l2], [.int i2, .ref k1, .int i0], h) Q = (iOk sc h k1 i2 ∧ Tr sc d 89 (19, [l0, l1, l2], [.int (iRd sc h k1 i2), .int i0], h) Q) := t_iald k_89_18
theorem k_89_19 : lk 89 19 = some (.isub, 20, 0, 0, .null) := by decide +kernel
theorem x_89_19 : Tr sc d 89 (19, [l0, l1, l2], [.int i1, .int i0], h) Q = Tr sc d 89 (20, [l0, l1, l2], [.int (i0 - i1)], h) Q := t_go k_89_19 rfl
theorem k_89_20 : lk 89 20 = some (.ireturn, 21, 0, 0, .null) := by decide +kernel
theorem x_89_20 : Tr sc d 89 (20, [l0, l1, l2], [.int i0], h) Q = Q (some (.int i0), h) := t_ret k_89_20 (by rw [r_89]; rfl)
theorem e_89 : Tr sc d 89 (ent0 89 [.ref k0, .int i1, .int i2] h) Q = Tr sc d 89 (0, [some (.ref k0), some (.int i1), some (.int i2)], [], h) Q := by
  have e : mL 89 = 3 := by decide +kernel
  unfold ent0
  rw [e]
  rfl
theorem r_90 : mR 90 = some .int := by decide +kernel
theorem k_90_0 : lk 90 0 = some (.aload_n 0, 1, 0, 0, .null) := by decide +kernel
theorem x_90_0 : Tr sc d 90 (0, [some (.ref xk), l1, l2], [], h) Q = Tr sc d 90 (1, [some (.ref xk), l1, l2], [.ref xk], h) Q := t_aload_n k_90_0 rfl
theorem k_90_1 : lk 90 1 = some (.getfield 26, 4, 8, 5, .int 0) := by decide +kernel
theorem x_90_1 : Tr sc d 90 (1, [l0, l1, l2], [.ref k0], h) Q = (okp h k0 8 = true ∧ Tr sc d 90 (4, [l0, l1, l2], [.int (hI h k0 5)], h) Q) := t_gd k_90_1 rfl
theorem k_90_4 : lk 90 4 = some (.aload_n 0, 5, 0, 0, .null) := by decide +kernel
theorem x_90_4 : Tr sc d 90 (4, [some (.ref xk), l1, l2], [.int i0], h) Q = Tr sc d 90 (5, [some (.ref xk), l1, l2], [.ref xk, .int i0], h) Q := t_aload_n k_90_4 rfl
theorem k_90_5 : lk 90 5 = some (.getfield 29, 8, 8, 3, .null) := by decide +kernel
theorem x_90_5 : Tr sc d 90 (5, [l0, l1, l2], [.ref k1, .int i0], h) Q = (okp h k1 8 = true ∧ ∃ q, hR h k1 3 = some q ∧ Tr sc d 90 (8, [l0, l1, l2], [.ref q, .int i0], h) Q) := t_getr k_90_5
theorem k_90_8 : lk 90 8 = some (.iload_n 1, 9, 1, 0, .null) := by decide +kernel
theorem x_90_8 : Tr sc d 90 (8, [l0, some (.int x), l2], [.ref k1, .int i0], h) Q = Tr sc d 90 (9, [l0, some (.int x), l2], [.int x, .ref k1, .int i0], h) Q := t_iload_n k_90_8 rfl
theorem k_90_9 : lk 90 9 = some (.invokevirtual 68, 12, 15, 1, .null) := by decide +kernel
theorem x_90_9 : Tr sc (d + 1) 90 (9, [l0, l1, l2], [.int i2, .ref k1, .int i0], h) Q = (okp h k1 1 = true ∧ Tr sc d 15 (ent0 15 [.ref k1, .int i2] h) (fun z => Tr sc (d + 1) 90 (12, [l0, l1, l2], z.1.toList ++ [.int i0], z.2) Q)) := t_cv (as := [.int i2]) (r := [.int i0]) k_90_9 rfl rfl (Nat.le_of_ble_eq_true rfl) (Nat.le_of_ble_eq_true rfl) (Nat.le_of_ble_eq_true rfl)
theorem k_90_12 : lk 90 12 = some (.imul, 13, 0, 0, .null) := by decide +kernel
theorem x_90_12 : Tr sc d 90 (12, [l0, l1, l2], [.int i1, .int i0], h) Q = Tr sc d 90 (13, [l0, l1, l2], [.int (i0 * i1)], h) Q := t_go k_90_12 rfl
theorem k_90_13 : lk 90 13 = some (.aload_n 0, 14, 0, 0, .null) := by decide +kernel
theorem x_90_13 : Tr sc d 90 (13, [some (.ref xk), l1, l2], [.int i0], h) Q = Tr sc d 90 (14, [some (.ref xk), l1, l2], [.ref xk, .int i0], h) Q := t_aload_n k_90_13 rfl
theorem k_90_14 : lk 90 14 = some (.getfield 19, 17, 8, 2, .null) := by decide +kernel
theorem x_90_14 : Tr sc d 90 (14, [l0, l1, l2], [.ref k1, .int i0], h) Q = (okp h k1 8 = true ∧ ∃ q, hR h k1 2 = some q ∧ Tr sc d 90 (17, [l0, l1, l2], [.ref q, .int i0], h) Q) := t_getr k_90_14
theorem k_90_17 : lk 90 17 = some (.iload_n 2, 18, 2, 0, .null) := by decide +kernel
theorem x_90_17 : Tr sc d 90 (17, [l0, l1, some (.int x)], [.ref k1, .int i0], h) Q = Tr sc d 90 (18, [l0, l1, some (.int x)], [.int x, .ref k1, .int i0], h) Q := t_iload_n k_90_17 rfl
theorem k_90_18 : lk 90 18 = some (.iaload, 19, 0, 0, .null) := by decide +kernel
theorem x_90_18 : Tr sc d 90 (18, [l0, l1, l2], [.int i2, .ref k1, .int i0], h) Q = (iOk sc h k1 i2 ∧ Tr sc d 90 (19, [l0, l1, l2], [.int (iRd sc h k1 i2), .int i0], h) Q) := t_iald k_90_18
theorem k_90_19 : lk 90 19 = some (.isub, 20, 0, 0, .null) := by decide +kernel
theorem x_90_19 : Tr sc d 90 (19, [l0, l1, l2], [.int i1, .int i0], h) Q = Tr sc d 90 (20, [l0, l1, l2], [.int (i0 - i1)], h) Q := t_go k_90_19 rfl
theorem k_90_20 : lk 90 20 = some (.ireturn, 21, 0, 0, .null) := by decide +kernel
theorem x_90_20 : Tr sc d 90 (20, [l0, l1, l2], [.int i0], h) Q = Q (some (.int i0), h) := t_ret k_90_20 (by rw [r_90]; rfl)
theorem e_90 : Tr sc d 90 (ent0 90 [.ref k0, .int i1, .int i2] h) Q = Tr sc d 90 (0, [some (.ref k0), some (.int i1), some (.int i2)], [], h) Q := by
  have e : mL 90 = 3 := by decide +kernel
  unfold ent0
  rw [e]
  rfl
theorem r_91 : mR 91 = some .boolean := by decide +kernel
theorem k_91_0 : lk 91 0 = some (.aload_n 0, 1, 0, 0, .null) := by decide +kernel
theorem x_91_0 : Tr sc d 91 (0, [some (.ref xk), l1, l2, l3, l4], [], h) Q = Tr sc d 91 (1, [some (.ref xk), l1, l2, l3, l4], [.ref xk], h) Q := t_aload_n k_91_0 rfl
theorem k_91_1 : lk 91 1 = some (.getfield 29, 4, 8, 3, .null) := by decide +kernel
theorem x_91_1 : Tr sc d 91 (1, [l0, l1, l2, l3, l4], [.ref k0], h) Q = (okp h k0 8 = true ∧ ∃ q, hR h k0 3 = some q ∧ Tr sc d 91 (4, [l0, l1, l2, l3, l4], [.ref q], h) Q) := t_getr k_91_1
theorem k_91_4 : lk 91 4 = some (.sipush 2000, 7, 0, 0, .int 2000) := by decide +kernel
theorem x_91_4 : Tr sc d 91 (4, [l0, l1, l2, l3, l4], [.ref k0], h) Q = Tr sc d 91 (7, [l0, l1, l2, l3, l4], [.int 2000, .ref k0], h) Q := t_go k_91_4 rfl
theorem k_91_7 : lk 91 7 = some (.invokevirtual 71, 10, 9, 1, .null) := by decide +kernel
theorem x_91_7 : Tr sc (d + 1) 91 (7, [l0, l1, l2, l3, l4], [.int i1, .ref k0], h) Q = (okp h k0 1 = true ∧ Tr sc d 9 (ent0 9 [.ref k0, .int i1] h) (fun z => Tr sc (d + 1) 91 (10, [l0, l1, l2, l3, l4], z.1.toList ++ [], z.2) Q)) := t_cv (as := [.int i1]) (r := []) k_91_7 rfl rfl (Nat.le_of_ble_eq_true rfl) (Nat.le_of_ble_eq_true rfl) (Nat.le_of_ble_eq_true rfl)
theorem k_91_10 : lk 91 10 = some (.aload_n 0, 11, 0, 0, .null) := by decide +kernel
theorem x_91_10 : Tr sc d 91 (10, [some (.ref xk), l1, l2, l3, l4], [], h) Q = Tr sc d 91 (11, [some (.ref xk), l1, l2, l3, l4], [.ref xk], h) Q := t_aload_n k_91_10 rfl
theorem k_91_11 : lk 91 11 = some (.iload_n 1, 12, 1, 0, .null) := by decide +kernel
theorem x_91_11 : Tr sc d 91 (11, [l0, some (.int x), l2, l3, l4], [.ref k0], h) Q = Tr sc d 91 (12, [l0, some (.int x), l2, l3, l4], [.int x, .ref k0], h) Q := t_iload_n k_91_11 rfl
theorem k_91_12 : lk 91 12 = some (.iload_n 2, 13, 2, 0, .null) := by decide +kernel
theorem x_91_12 : Tr sc d 91 (12, [l0, l1, some (.int x), l3, l4], [.int i1, .ref k0], h) Q = Tr sc d 91 (13, [l0, l1, some (.int x), l3, l4], [.int x, .int i1, .ref k0], h) Q := t_iload_n k_91_12 rfl
theorem k_91_13 : lk 91 13 = some (.invokevirtual 75, 16, 92, 2, .null) := by decide +kernel
theorem x_91_13 : Tr sc (d + 1) 91 (13, [l0, l1, l2, l3, l4], [.int i2, .int i1, .ref k0], h) Q = (okp h k0 8 = true ∧ Tr sc d 92 (ent0 92 [.ref k0, .int i1, .int i2] h) (fun z => Tr sc (d + 1) 91 (16, [l0, l1, l2, l3, l4], z.1.toList ++ [], z.2) Q)) := t_cv (as := [.int i1, .int i2]) (r := []) k_91_13 rfl rfl (Nat.le_of_ble_eq_true rfl) (Nat.le_of_ble_eq_true rfl) (Nat.le_of_ble_eq_true rfl)
theorem k_91_16 : lk 91 16 = some (.iconst 0, 17, 0, 0, .int 0) := by decide +kernel
theorem x_91_16 : Tr sc d 91 (16, [l0, l1, l2, l3, l4], [], h) Q = Tr sc d 91 (17, [l0, l1, l2, l3, l4], [.int 0], h) Q := t_go k_91_16 rfl
theorem k_91_17 : lk 91 17 = some (.istore_n 3, 18, 3, 0, .null) := by decide +kernel
theorem x_91_17 : Tr sc d 91 (17, [l0, l1, l2, l3, l4], [.int i0], h) Q = Tr sc d 91 (18, [l0, l1, cl2 l2, some (.int i0), l4], [], h) Q := t_istore_n k_91_17 (Nat.le_of_ble_eq_true rfl)
theorem k_91_18 : lk 91 18 = some (.iload_n 3, 19, 3, 0, .null) := by decide +kernel
theorem x_91_18 : Tr sc d 91 (18, [l0, l1, l2, some (.int x), l4], [], h) Q = Tr sc d 91 (19, [l0, l1, l2, some (.int x), l4], [.int x], h) Q := t_iload_n k_91_18 rfl
theorem k_91_19 : lk 91 19 = some (.aload_n 0, 20, 0, 0, .null) := by decide +kernel
theorem x_91_19 : Tr sc d 91 (19, [some (.ref xk), l1, l2, l3, l4], [.int i0], h) Q = Tr sc d 91 (20, [some (.ref xk), l1, l2, l3, l4], [.ref xk, .int i0], h) Q := t_aload_n k_91_19 rfl
theorem k_91_20 : lk 91 20 = some (.getfield 29, 23, 8, 3, .null) := by decide +kernel
theorem x_91_20 : Tr sc d 91 (20, [l0, l1, l2, l3, l4], [.ref k1, .int i0], h) Q = (okp h k1 8 = true ∧ ∃ q, hR h k1 3 = some q ∧ Tr sc d 91 (23, [l0, l1, l2, l3, l4], [.ref q, .int i0], h) Q) := t_getr k_91_20
theorem k_91_23 : lk 91 23 = some (.getfield 79, 26, 1, 4, .int 0) := by decide +kernel
theorem x_91_23 : Tr sc d 91 (23, [l0, l1, l2, l3, l4], [.ref k1, .int i0], h) Q = (okp h k1 1 = true ∧ Tr sc d 91 (26, [l0, l1, l2, l3, l4], [.int (hI h k1 4), .int i0], h) Q) := t_gd k_91_23 rfl
theorem k_91_26 : lk 91 26 = some (.if_icmp .ge 58, 29, 84, 0, .null) := by decide +kernel
theorem x_91_26 : Tr sc d 91 (26, [l0, l1, l2, l3, l4], [.int i1, .int i0], h) Q = if i1 ≤ i0 then Tr sc d 91 (84, [l0, l1, l2, l3, l4], [], h) Q else Tr sc d 91 (29, [l0, l1, l2, l3, l4], [], h) Q := t_if k_91_26 rfl
theorem k_91_29 : lk 91 29 = some (.aload_n 0, 30, 0, 0, .null) := by decide +kernel
theorem x_91_29 : Tr sc d 91 (29, [some (.ref xk), l1, l2, l3, l4], [], h) Q = Tr sc d 91 (30, [some (.ref xk), l1, l2, l3, l4], [.ref xk], h) Q := t_aload_n k_91_29 rfl
theorem k_91_30 : lk 91 30 = some (.getfield 29, 33, 8, 3, .null) := by decide +kernel
theorem x_91_30 : Tr sc d 91 (30, [l0, l1, l2, l3, l4], [.ref k0], h) Q = (okp h k0 8 = true ∧ ∃ q, hR h k0 3 = some q ∧ Tr sc d 91 (33, [l0, l1, l2, l3, l4], [.ref q], h) Q) := t_getr k_91_30
theorem k_91_33 : lk 91 33 = some (.getfield 79, 36, 1, 4, .int 0) := by decide +kernel
theorem x_91_33 : Tr sc d 91 (33, [l0, l1, l2, l3, l4], [.ref k0], h) Q = (okp h k0 1 = true ∧ Tr sc d 91 (36, [l0, l1, l2, l3, l4], [.int (hI h k0 4)], h) Q) := t_gd k_91_33 rfl
theorem k_91_36 : lk 91 36 = some (.sipush 2000, 39, 0, 0, .int 2000) := by decide +kernel
theorem x_91_36 : Tr sc d 91 (36, [l0, l1, l2, l3, l4], [.int i0], h) Q = Tr sc d 91 (39, [l0, l1, l2, l3, l4], [.int 2000, .int i0], h) Q := t_go k_91_36 rfl
theorem k_91_39 : lk 91 39 = some (.if_icmp .gt 45, 42, 84, 0, .null) := by decide +kernel
theorem x_91_39 : Tr sc d 91 (39, [l0, l1, l2, l3, l4], [.int i1, .int i0], h) Q = if i1 < i0 then Tr sc d 91 (84, [l0, l1, l2, l3, l4], [], h) Q else Tr sc d 91 (42, [l0, l1, l2, l3, l4], [], h) Q := t_if k_91_39 rfl
theorem k_91_42 : lk 91 42 = some (.iconst 0, 43, 0, 0, .int 0) := by decide +kernel
theorem x_91_42 : Tr sc d 91 (42, [l0, l1, l2, l3, l4], [], h) Q = Tr sc d 91 (43, [l0, l1, l2, l3, l4], [.int 0], h) Q := t_go k_91_42 rfl
theorem k_91_43 : lk 91 43 = some (.istore 4, 45, 4, 0, .null) := by decide +kernel
theorem x_91_43 : Tr sc d 91 (43, [l0, l1, l2, l3, l4], [.int i0], h) Q = Tr sc d 91 (45, [l0, l1, l2, cl2 l3, some (.int i0)], [], h) Q := t_istore k_91_43 (Nat.le_of_ble_eq_true rfl)
theorem k_91_45 : lk 91 45 = some (.iload 4, 47, 4, 0, .null) := by decide +kernel
theorem x_91_45 : Tr sc d 91 (45, [l0, l1, l2, l3, some (.int x)], [], h) Q = Tr sc d 91 (47, [l0, l1, l2, l3, some (.int x)], [.int x], h) Q := t_iload k_91_45 rfl
theorem k_91_47 : lk 91 47 = some (.aload_n 0, 48, 0, 0, .null) := by decide +kernel
theorem x_91_47 : Tr sc d 91 (47, [some (.ref xk), l1, l2, l3, l4], [.int i0], h) Q = Tr sc d 91 (48, [some (.ref xk), l1, l2, l3, l4], [.ref xk, .int i0], h) Q := t_aload_n k_91_47 rfl
theorem k_91_48 : lk 91 48 = some (.getfield 22, 51, 8, 4, .int 0) := by decide +kernel
theorem x_91_48 : Tr sc d 91 (48, [l0, l1, l2, l3, l4], [.ref k1, .int i0], h) Q = (okp h k1 8 = true ∧ Tr sc d 91 (51, [l0, l1, l2, l3, l4], [.int (hI h k1 4), .int i0], h) Q) := t_gd k_91_48 rfl
theorem k_91_51 : lk 91 51 = some (.if_icmp .ge 27, 54, 78, 0, .null) := by decide +kernel
theorem x_91_51 : Tr sc d 91 (51, [l0, l1, l2, l3, l4], [.int i1, .int i0], h) Q = if i1 ≤ i0 then Tr sc d 91 (78, [l0, l1, l2, l3, l4], [], h) Q else Tr sc d 91 (54, [l0, l1, l2, l3, l4], [], h) Q := t_if k_91_51 rfl
theorem k_91_54 : lk 91 54 = some (.aload_n 0, 55, 0, 0, .null) := by decide +kernel
theorem x_91_54 : Tr sc d 91 (54, [some (.ref xk), l1, l2, l3, l4], [], h) Q = Tr sc d 91 (55, [some (.ref xk), l1, l2, l3, l4], [.ref xk], h) Q := t_aload_n k_91_54 rfl
theorem k_91_55 : lk 91 55 = some (.aload_n 0, 56, 0, 0, .null) := by decide +kernel
theorem x_91_55 : Tr sc d 91 (55, [some (.ref xk), l1, l2, l3, l4], [.ref k0], h) Q = Tr sc d 91 (56, [some (.ref xk), l1, l2, l3, l4], [.ref xk, .ref k0], h) Q := t_aload_n k_91_55 rfl
theorem k_91_56 : lk 91 56 = some (.iload_n 3, 57, 3, 0, .null) := by decide +kernel
theorem x_91_56 : Tr sc d 91 (56, [l0, l1, l2, some (.int x), l4], [.ref k1, .ref k0], h) Q = Tr sc d 91 (57, [l0, l1, l2, some (.int x), l4], [.int x, .ref k1, .ref k0], h) Q := t_iload_n k_91_56 rfl
theorem k_91_57 : lk 91 57 = some (.iload 4, 59, 4, 0, .null) := by decide +kernel
theorem x_91_57 : Tr sc d 91 (57, [l0, l1, l2, l3, some (.int x)], [.int i2, .ref k1, .ref k0], h) Q = Tr sc d 91 (59, [l0, l1, l2, l3, some (.int x)], [.int x, .int i2, .ref k1, .ref k0], h) Q := t_iload k_91_57 rfl
theorem k_91_59 : lk 91 59 = some (.invokevirtual 82, 62, 89, 2, .null) := by decide +kernel
theorem x_91_59 : Tr sc (d + 1) 91 (59, [l0, l1, l2, l3, l4], [.int i3, .int i2, .ref k1, .ref k0], h) Q = (okp h k1 8 = true ∧ Tr sc d 89 (ent0 89 [.ref k1, .int i2, .int i3] h) (fun z => Tr sc (d + 1) 91 (62, [l0, l1, l2, l3, l4], z.1.toList ++ [.ref k0], z.2) Q)) := t_cv (as := [.int i2, .int i3]) (r := [.ref k0]) k_91_59 rfl rfl (Nat.le_of_ble_eq_true rfl) (Nat.le_of_ble_eq_true rfl) (Nat.le_of_ble_eq_true rfl)
theorem k_91_62 : lk 91 62 = some (.aload_n 0, 63, 0, 0, .null) := by decide +kernel
theorem x_91_62 : Tr sc d 91 (62, [some (.ref xk), l1, l2, l3, l4], [.int i1, .ref k0], h) Q = Tr sc d 91 (63, [some (.ref xk), l1, l2, l3, l4], [.ref xk, .int i1, .ref k0], h) Q := t_aload_n k_91_62 rfl
theorem k_91_63 : lk 91 63 = some (.iload_n 3, 64, 3, 0, .null) := by decide +kernel
theorem x_91_63 : Tr sc d 91 (63, [l0, l1, l2, some (.int x), l4], [.ref k2, .int i1, .ref k0], h) Q = Tr sc d 91 (64, [l0, l1, l2, some (.int x), l4], [.int x, .ref k2, .int i1, .ref k0], h) Q := t_iload_n k_91_63 rfl
theorem k_91_64 : lk 91 64 = some (.iload 4, 66, 4, 0, .null) := by decide +kernel
theorem x_91_64 : Tr sc d 91 (64, [l0, l1, l2, l3, some (.int x)], [.int i3, .ref k2, .int i1, .ref k0], h) Q = Tr sc d 91 (66, [l0, l1, l2, l3, some (.int x)], [.int x, .int i3, .ref k2, .int i1, .ref k0], h) Q := t_iload k_91_64 rfl
theorem k_91_66 : lk 91 66 = some (.invokevirtual 86, 69, 90, 2, .null) := by decide +kernel
theorem x_91_66 : Tr sc (d + 1) 91 (66, [l0, l1, l2, l3, l4], [.int i4, .int i3, .ref k2, .int i1, .ref k0], h) Q = (okp h k2 8 = true ∧ Tr sc d 90 (ent0 90 [.ref k2, .int i3, .int i4] h) (fun z => Tr sc (d + 1) 91 (69, [l0, l1, l2, l3, l4], z.1.toList ++ [.int i1, .ref k0], z.2) Q)) := t_cv (as := [.int i3, .int i4]) (r := [.int i1, .ref k0]) k_91_66 rfl rfl (Nat.le_of_ble_eq_true rfl) (Nat.le_of_ble_eq_true rfl) (Nat.le_of_ble_eq_true rfl)
theorem k_91_69 : lk 91 69 = some (.invokevirtual 75, 72, 92, 2, .null) := by decide +kernel
theorem x_91_69 : Tr sc (d + 1) 91 (69, [l0, l1, l2, l3, l4], [.int i2, .int i1, .ref k0], h) Q = (okp h k0 8 = true ∧ Tr sc d 92 (ent0 92 [.ref k0, .int i1, .int i2] h) (fun z => Tr sc (d + 1) 91 (72, [l0, l1, l2, l3, l4], z.1.toList ++ [], z.2) Q)) := t_cv (as := [.int i1, .int i2]) (r := []) k_91_69 rfl rfl (Nat.le_of_ble_eq_true rfl) (Nat.le_of_ble_eq_true rfl) (Nat.le_of_ble_eq_true rfl)
theorem k_91_72 : lk 91 72 = some (.iinc 4 1, 75, 4, 0, .int 1) := by decide +kernel
theorem x_91_72 : Tr sc d 91 (72, [l0, l1, l2, l3, some (.int x)], [], h) Q = Tr sc d 91 (75, [l0, l1, l2, cl2 l3, some (.int (x + 1))], [], h) Q := t_inc k_91_72 rfl (Nat.le_of_ble_eq_true rfl)
theorem k_91_75 : lk 91 75 = some (.goto (-30), 78, 45, 0, .null) := by decide +kernel
theorem x_91_75 : Tr sc d 91 (75, [l0, l1, l2, l3, l4], [], h) Q = Tr sc d 91 (45, [l0, l1, l2, l3, l4], [], h) Q := t_go k_91_75 rfl
theorem k_91_78 : lk 91 78 = some (.iinc 3 1, 81, 3, 0, .int 1) := by decide +kernel
theorem x_91_78 : Tr sc d 91 (78, [l0, l1, l2, some (.int x), l4], [], h) Q = Tr sc d 91 (81, [l0, l1, cl2 l2, some (.int (x + 1)), l4], [], h) Q := t_inc k_91_78 rfl (Nat.le_of_ble_eq_true rfl)
theorem k_91_81 : lk 91 81 = some (.goto (-63), 84, 18, 0, .null) := by decide +kernel
theorem x_91_81 : Tr sc d 91 (81, [l0, l1, l2, l3, l4], [], h) Q = Tr sc d 91 (18, [l0, l1, l2, l3, l4], [], h) Q := t_go k_91_81 rfl
theorem k_91_84 : lk 91 84 = some (.aload_n 0, 85, 0, 0, .null) := by decide +kernel
theorem x_91_84 : Tr sc d 91 (84, [some (.ref xk), l1, l2, l3, l4], [], h) Q = Tr sc d 91 (85, [some (.ref xk), l1, l2, l3, l4], [.ref xk], h) Q := t_aload_n k_91_84 rfl
theorem k_91_85 : lk 91 85 = some (.getfield 29, 88, 8, 3, .null) := by decide +kernel
theorem x_91_85 : Tr sc d 91 (85, [l0, l1, l2, l3, l4], [.ref k0], h) Q = (okp h k0 8 = true ∧ ∃ q, hR h k0 3 = some q ∧ Tr sc d 91 (88, [l0, l1, l2, l3, l4], [.ref q], h) Q) := t_getr k_91_85
theorem k_91_88 : lk 91 88 = some (.getfield 79, 91, 1, 4, .int 0) := by decide +kernel
theorem x_91_88 : Tr sc d 91 (88, [l0, l1, l2, l3, l4], [.ref k0], h) Q = (okp h k0 1 = true ∧ Tr sc d 91 (91, [l0, l1, l2, l3, l4], [.int (hI h k0 4)], h) Q) := t_gd k_91_88 rfl
theorem k_91_91 : lk 91 91 = some (.sipush 2000, 94, 0, 0, .int 2000) := by decide +kernel
theorem x_91_91 : Tr sc d 91 (91, [l0, l1, l2, l3, l4], [.int i0], h) Q = Tr sc d 91 (94, [l0, l1, l2, l3, l4], [.int 2000, .int i0], h) Q := t_go k_91_91 rfl
theorem k_91_94 : lk 91 94 = some (.if_icmp .gt 7, 97, 101, 0, .null) := by decide +kernel
theorem x_91_94 : Tr sc d 91 (94, [l0, l1, l2, l3, l4], [.int i1, .int i0], h) Q = if i1 < i0 then Tr sc d 91 (101, [l0, l1, l2, l3, l4], [], h) Q else Tr sc d 91 (97, [l0, l1, l2, l3, l4], [], h) Q := t_if k_91_94 rfl
theorem k_91_97 : lk 91 97 = some (.iconst 1, 98, 0, 0, .int 1) := by decide +kernel
theorem x_91_97 : Tr sc d 91 (97, [l0, l1, l2, l3, l4], [], h) Q = Tr sc d 91 (98, [l0, l1, l2, l3, l4], [.int 1], h) Q := t_go k_91_97 rfl
theorem k_91_98 : lk 91 98 = some (.goto 4, 101, 102, 0, .null) := by decide +kernel
theorem x_91_98 : Tr sc d 91 (98, [l0, l1, l2, l3, l4], [.int i0], h) Q = Tr sc d 91 (102, [l0, l1, l2, l3, l4], [.int i0], h) Q := t_go k_91_98 rfl
theorem k_91_101 : lk 91 101 = some (.iconst 0, 102, 0, 0, .int 0) := by decide +kernel
theorem x_91_101 : Tr sc d 91 (101, [l0, l1, l2, l3, l4], [], h) Q = Tr sc d 91 (102, [l0, l1, l2, l3, l4], [.int 0], h) Q := t_go k_91_101 rfl
theorem k_91_102 : lk 91 102 = some (.ireturn, 103, 0, 0, .null) := by decide +kernel
theorem x_91_102 : Tr sc d 91 (102, [l0, l1, l2, l3, l4], [.int i0], h) Q = (vp_nar .boolean i0 = i0 ∧ Q (some (.int i0), h)) := t_zret k_91_102 r_91
theorem e_91 : Tr sc d 91 (ent0 91 [.ref k0, .int i1, .int i2] h) Q = Tr sc d 91 (0, [some (.ref k0), some (.int i1), some (.int i2), none, none], [], h) Q := by
  have e : mL 91 = 5 := by decide +kernel
  unfold ent0
  rw [e]
  rfl
theorem r_92 : mR 92 = none := by decide +kernel
theorem k_92_0 : lk 92 0 = some (.aload_n 0, 1, 0, 0, .null) := by decide +kernel
theorem x_92_0 : Tr sc d 92 (0, [some (.ref xk), l1, l2], [], h) Q = Tr sc d 92 (1, [some (.ref xk), l1, l2], [.ref xk], h) Q := t_aload_n k_92_0 rfl
theorem k_92_1 : lk 92 1 = some (.iload_n 1, 2, 1, 0, .null) := by decide +kernel
theorem x_92_1 : Tr sc d 92 (1, [l0, some (.int x), l2], [.ref k0], h) Q = Tr sc d 92 (2, [l0, some (.int x), l2], [.int x, .ref k0], h) Q := t_iload_n k_92_1 rfl
theorem k_92_2 : lk 92 2 = some (.iload_n 2, 3, 2, 0, .null) := by decide +kernel
theorem x_92_2 : Tr sc d 92 (2, [l0, l1, some (.int x)], [.int i1, .ref k0], h) Q = Tr sc d 92 (3, [l0, l1, some (.int x)], [.int x, .int i1, .ref k0], h) Q := t_iload_n k_92_2 rfl
theorem k_92_3 : lk 92 3 = some (.invokevirtual 89, 6, 88, 2, .null) := by decide +kernel
theorem x_92_3 : Tr sc (d + 1) 92 (3, [l0, l1, l2], [.int i2, .int i1, .ref k0], h) Q = (okp h k0 8 = true ∧ Tr sc d 88 (ent0 88 [.ref k0, .int i1, .int i2] h) (fun z => Tr sc (d + 1) 92 (6, [l0, l1, l2], z.1.toList ++ [], z.2) Q)) := t_cv (as := [.int i1, .int i2]) (r := []) k_92_3 rfl rfl (Nat.le_of_ble_eq_true rfl) (Nat.le_of_ble_eq_true rfl) (Nat.le_of_ble_eq_true rfl)
theorem k_92_6 : lk 92 6 = some (.ifCond .eq 12, 9, 18, 0, .null) := by decide +kernel
theorem x_92_6 : Tr sc d 92 (6, [l0, l1, l2], [.int i0], h) Q = if i0 = 0 then Tr sc d 92 (18, [l0, l1, l2], [], h) Q else Tr sc d 92 (9, [l0, l1, l2], [], h) Q := t_if k_92_6 rfl
theorem k_92_9 : lk 92 9 = some (.aload_n 0, 10, 0, 0, .null) := by decide +kernel
theorem x_92_9 : Tr sc d 92 (9, [some (.ref xk), l1, l2], [], h) Q = Tr sc d 92 (10, [some (.ref xk), l1, l2], [.ref xk], h) Q := t_aload_n k_92_9 rfl
theorem k_92_10 : lk 92 10 = some (.getfield 29, 13, 8, 3, .null) := by decide +kernel
theorem x_92_10 : Tr sc d 92 (10, [l0, l1, l2], [.ref k0], h) Q = (okp h k0 8 = true ∧ ∃ q, hR h k0 3 = some q ∧ Tr sc d 92 (13, [l0, l1, l2], [.ref q], h) Q) := t_getr k_92_10
theorem k_92_13 : lk 92 13 = some (.iload_n 1, 14, 1, 0, .null) := by decide +kernel
theorem x_92_13 : Tr sc d 92 (13, [l0, some (.int x), l2], [.ref k0], h) Q = Tr sc d 92 (14, [l0, some (.int x), l2], [.int x, .ref k0], h) Q := t_iload_n k_92_13 rfl
theorem k_92_14 : lk 92 14 = some (.iload_n 2, 15, 2, 0, .null) := by decide +kernel
theorem x_92_14 : Tr sc d 92 (14, [l0, l1, some (.int x)], [.int i1, .ref k0], h) Q = Tr sc d 92 (15, [l0, l1, some (.int x)], [.int x, .int i1, .ref k0], h) Q := t_iload_n k_92_14 rfl
theorem k_92_15 : lk 92 15 = some (.invokevirtual 93, 18, 18, 2, .null) := by decide +kernel
theorem x_92_15 : Tr sc (d + 1) 92 (15, [l0, l1, l2], [.int i2, .int i1, .ref k0], h) Q = (okp h k0 1 = true ∧ Tr sc d 18 (ent0 18 [.ref k0, .int i1, .int i2] h) (fun z => Tr sc (d + 1) 92 (18, [l0, l1, l2], z.1.toList ++ [], z.2) Q)) := t_cv (as := [.int i1, .int i2]) (r := []) k_92_15 rfl rfl (Nat.le_of_ble_eq_true rfl) (Nat.le_of_ble_eq_true rfl) (Nat.le_of_ble_eq_true rfl)
theorem k_92_18 : lk 92 18 = some (.return_, 19, 0, 0, .null) := by decide +kernel
theorem x_92_18 : Tr sc d 92 (18, [l0, l1, l2], [], h) Q = Q (none, h) := t_ret k_92_18 (by rw [r_92]; rfl)
theorem e_92 : Tr sc d 92 (ent0 92 [.ref k0, .int i1, .int i2] h) Q = Tr sc d 92 (0, [some (.ref k0), some (.int i1), some (.int i2)], [], h) Q := by
  have e : mL 92 = 3 := by decide +kernel
  unfold ent0
  rw [e]
  rfl
theorem r_93 : mR 93 = some .int := by decide +kernel
theorem k_93_0 : lk 93 0 = some (.iconst 0, 1, 0, 0, .int 0) := by decide +kernel
theorem x_93_0 : Tr sc d 93 (0, [l0, l1, l2, l3], [], h) Q = Tr sc d 93 (1, [l0, l1, l2, l3], [.int 0], h) Q := t_go k_93_0 rfl
theorem k_93_1 : lk 93 1 = some (.istore_n 1, 2, 1, 0, .null) := by decide +kernel
theorem x_93_1 : Tr sc d 93 (1, [l0, l1, l2, l3], [.int i0], h) Q = Tr sc d 93 (2, [cl2 l0, some (.int i0), l2, l3], [], h) Q := t_istore_n k_93_1 (Nat.le_of_ble_eq_true rfl)
theorem k_93_2 : lk 93 2 = some (.iload_n 1, 3, 1, 0, .null) := by decide +kernel
theorem x_93_2 : Tr sc d 93 (2, [l0, some (.int x), l2, l3], [], h) Q = Tr sc d 93 (3, [l0, some (.int x), l2, l3], [.int x], h) Q := t_iload_n k_93_2 rfl
theorem k_93_3 : lk 93 3 = some (.aload_n 0, 4, 0, 0, .null) := by decide +kernel
theorem x_93_3 : Tr sc d 93 (3, [some (.ref xk), l1, l2, l3], [.int i0], h) Q = Tr sc d 93 (4, [some (.ref xk), l1, l2, l3], [.ref xk, .int i0], h) Q := t_aload_n k_93_3 rfl
theorem k_93_4 : lk 93 4 = some (.getfield 29, 7, 8, 3, .null) := by decide +kernel
theorem x_93_4 : Tr sc d 93 (4, [l0, l1, l2, l3], [.ref k1, .int i0], h) Q = (okp h k1 8 = true ∧ ∃ q, hR h k1 3 = some q ∧ Tr sc d 93 (7, [l0, l1, l2, l3], [.ref q, .int i0], h) Q) := t_getr k_93_4
theorem k_93_7 : lk 93 7 = some (.getfield 79, 10, 1, 4, .int 0) := by decide +kernel
theorem x_93_7 : Tr sc d 93 (7, [l0, l1, l2, l3], [.ref k1, .int i0], h) Q = (okp h k1 1 = true ∧ Tr sc d 93 (10, [l0, l1, l2, l3], [.int (hI h k1 4), .int i0], h) Q) := t_gd k_93_7 rfl
theorem k_93_10 : lk 93 10 = some (.if_icmp .ge 16, 13, 26, 0, .null) := by decide +kernel
theorem x_93_10 : Tr sc d 93 (10, [l0, l1, l2, l3], [.int i1, .int i0], h) Q = if i1 ≤ i0 then Tr sc d 93 (26, [l0, l1, l2, l3], [], h) Q else Tr sc d 93 (13, [l0, l1, l2, l3], [], h) Q := t_if k_93_10 rfl
theorem k_93_13 : lk 93 13 = some (.aload_n 0, 14, 0, 0, .null) := by decide +kernel
theorem x_93_13 : Tr sc d 93 (13, [some (.ref xk), l1, l2, l3], [], h) Q = Tr sc d 93 (14, [some (.ref xk), l1, l2, l3], [.ref xk], h) Q := t_aload_n k_93_13 rfl
theorem k_93_14 : lk 93 14 = some (.getfield 11, 17, 8, 0, .null) := by decide +kernel
theorem x_93_14 : Tr sc d 93 (14, [l0, l1, l2, l3], [.ref k0], h) Q = (okp h k0 8 = true ∧ ∃ q, hR h k0 0 = some q ∧ Tr sc d 93 (17, [l0, l1, l2, l3], [.ref q], h) Q) := t_getr k_93_14
theorem k_93_17 : lk 93 17 = some (.iload_n 1, 18, 1, 0, .null) := by decide +kernel
theorem x_93_17 : Tr sc d 93 (17, [l0, some (.int x), l2, l3], [.ref k0], h) Q = Tr sc d 93 (18, [l0, some (.int x), l2, l3], [.int x, .ref k0], h) Q := t_iload_n k_93_17 rfl
theorem k_93_18 : lk 93 18 = some (.iconst 0, 19, 0, 0, .int 0) := by decide +kernel
theorem x_93_18 : Tr sc d 93 (18, [l0, l1, l2, l3], [.int i1, .ref k0], h) Q = Tr sc d 93 (19, [l0, l1, l2, l3], [.int 0, .int i1, .ref k0], h) Q := t_go k_93_18 rfl
theorem k_93_19 : lk 93 19 = some (.bastore, 20, 0, 0, .null) := by decide +kernel
theorem x_93_19 : Tr sc d 93 (19, [l0, l1, l2, l3], [.int i2, .int i1, .ref k0], h) Q = ((okp h k0 13 && inb i1 (LN k0)) = true ∧ Tr sc d 93 (20, [l0, l1, l2, l3], [], (sI h k0 i1.toNatClampNeg (vp_nar .boolean i2))) Q) := t_gd k_93_19 rfl
theorem k_93_20 : lk 93 20 = some (.iinc 1 1, 23, 1, 0, .int 1) := by decide +kernel
theorem x_93_20 : Tr sc d 93 (20, [l0, some (.int x), l2, l3], [], h) Q = Tr sc d 93 (23, [cl2 l0, some (.int (x + 1)), l2, l3], [], h) Q := t_inc k_93_20 rfl (Nat.le_of_ble_eq_true rfl)
theorem k_93_23 : lk 93 23 = some (.goto (-21), 26, 2, 0, .null) := by decide +kernel
theorem x_93_23 : Tr sc d 93 (23, [l0, l1, l2, l3], [], h) Q = Tr sc d 93 (2, [l0, l1, l2, l3], [], h) Q := t_go k_93_23 rfl
theorem k_93_26 : lk 93 26 = some (.iconst 1, 27, 0, 0, .int 1) := by decide +kernel
theorem x_93_26 : Tr sc d 93 (26, [l0, l1, l2, l3], [], h) Q = Tr sc d 93 (27, [l0, l1, l2, l3], [.int 1], h) Q := t_go k_93_26 rfl
theorem k_93_27 : lk 93 27 = some (.istore_n 1, 28, 1, 0, .null) := by decide +kernel
theorem x_93_27 : Tr sc d 93 (27, [l0, l1, l2, l3], [.int i0], h) Q = Tr sc d 93 (28, [cl2 l0, some (.int i0), l2, l3], [], h) Q := t_istore_n k_93_27 (Nat.le_of_ble_eq_true rfl)
theorem k_93_28 : lk 93 28 = some (.iconst 0, 29, 0, 0, .int 0) := by decide +kernel
theorem x_93_28 : Tr sc d 93 (28, [l0, l1, l2, l3], [], h) Q = Tr sc d 93 (29, [l0, l1, l2, l3], [.int 0], h) Q := t_go k_93_28 rfl
theorem k_93_29 : lk 93 29 = some (.istore_n 2, 30, 2, 0, .null) := by decide +kernel
theorem x_93_29 : Tr sc d 93 (29, [l0, l1, l2, l3], [.int i0], h) Q = Tr sc d 93 (30, [l0, cl2 l1, some (.int i0), l3], [], h) Q := t_istore_n k_93_29 (Nat.le_of_ble_eq_true rfl)
theorem k_93_30 : lk 93 30 = some (.iload_n 2, 31, 2, 0, .null) := by decide +kernel
theorem x_93_30 : Tr sc d 93 (30, [l0, l1, some (.int x), l3], [], h) Q = Tr sc d 93 (31, [l0, l1, some (.int x), l3], [.int x], h) Q := t_iload_n k_93_30 rfl
theorem k_93_31 : lk 93 31 = some (.sipush 2000, 34, 0, 0, .int 2000) := by decide +kernel
theorem x_93_31 : Tr sc d 93 (31, [l0, l1, l2, l3], [.int i0], h) Q = Tr sc d 93 (34, [l0, l1, l2, l3], [.int 2000, .int i0], h) Q := t_go k_93_31 rfl
theorem k_93_34 : lk 93 34 = some (.if_icmp .gt 18, 37, 52, 0, .null) := by decide +kernel
theorem x_93_34 : Tr sc d 93 (34, [l0, l1, l2, l3], [.int i1, .int i0], h) Q = if i1 < i0 then Tr sc d 93 (52, [l0, l1, l2, l3], [], h) Q else Tr sc d 93 (37, [l0, l1, l2, l3], [], h) Q := t_if k_93_34 rfl
theorem k_93_37 : lk 93 37 = some (.iload_n 1, 38, 1, 0, .null) := by decide +kernel
theorem x_93_37 : Tr sc d 93 (37, [l0, some (.int x), l2, l3], [], h) Q = Tr sc d 93 (38, [l0, some (.int x), l2, l3], [.int x], h) Q := t_iload_n k_93_37 rfl
theorem k_93_38 : lk 93 38 = some (.ifCond .eq 14, 41, 52, 0, .null) := by decide +kernel
theorem x_93_38 : Tr sc d 93 (38, [l0, l1, l2, l3], [.int i0], h) Q = if i0 = 0 then Tr sc d 93 (52, [l0, l1, l2, l3], [], h) Q else Tr sc d 93 (41, [l0, l1, l2, l3], [], h) Q := t_if k_93_38 rfl
theorem k_93_41 : lk 93 41 = some (.aload_n 0, 42, 0, 0, .null) := by decide +kernel
theorem x_93_41 : Tr sc d 93 (41, [some (.ref xk), l1, l2, l3], [], h) Q = Tr sc d 93 (42, [some (.ref xk), l1, l2, l3], [.ref xk], h) Q := t_aload_n k_93_41 rfl
theorem k_93_42 : lk 93 42 = some (.invokevirtual 96, 45, 94, 0, .null) := by decide +kernel
theorem x_93_42 : Tr sc (d + 1) 93 (42, [l0, l1, l2, l3], [.ref k0], h) Q = (okp h k0 8 = true ∧ Tr sc d 94 (ent0 94 [.ref k0] h) (fun z => Tr sc (d + 1) 93 (45, [l0, l1, l2, l3], z.1.toList ++ [], z.2) Q)) := t_cv (as := []) (r := []) k_93_42 rfl rfl (Nat.le_of_ble_eq_true rfl) (Nat.le_of_ble_eq_true rfl) (Nat.le_of_ble_eq_true rfl)
theorem k_93_45 : lk 93 45 = some (.istore_n 1, 46, 1, 0, .null) := by decide +kernel
theorem x_93_45 : Tr sc d 93 (45, [l0, l1, l2, l3], [.int i0], h) Q = Tr sc d 93 (46, [cl2 l0, some (.int i0), l2, l3], [], h) Q := t_istore_n k_93_45 (Nat.le_of_ble_eq_true rfl)
theorem k_93_46 : lk 93 46 = some (.iinc 2 1, 49, 2, 0, .int 1) := by decide +kernel
theorem x_93_46 : Tr sc d 93 (46, [l0, l1, some (.int x), l3], [], h) Q = Tr sc d 93 (49, [l0, cl2 l1, some (.int (x + 1)), l3], [], h) Q := t_inc k_93_46 rfl (Nat.le_of_ble_eq_true rfl)
theorem k_93_49 : lk 93 49 = some (.goto (-19), 52, 30, 0, .null) := by decide +kernel
theorem x_93_49 : Tr sc d 93 (49, [l0, l1, l2, l3], [], h) Q = Tr sc d 93 (30, [l0, l1, l2, l3], [], h) Q := t_go k_93_49 rfl
theorem k_93_52 : lk 93 52 = some (.iconst 0, 53, 0, 0, .int 0) := by decide +kernel
theorem x_93_52 : Tr sc d 93 (52, [l0, l1, l2, l3], [], h) Q = Tr sc d 93 (53, [l0, l1, l2, l3], [.int 0], h) Q := t_go k_93_52 rfl
theorem k_93_53 : lk 93 53 = some (.istore_n 2, 54, 2, 0, .null) := by decide +kernel
theorem x_93_53 : Tr sc d 93 (53, [l0, l1, l2, l3], [.int i0], h) Q = Tr sc d 93 (54, [l0, cl2 l1, some (.int i0), l3], [], h) Q := t_istore_n k_93_53 (Nat.le_of_ble_eq_true rfl)
theorem k_93_54 : lk 93 54 = some (.iconst 0, 55, 0, 0, .int 0) := by decide +kernel
theorem x_93_54 : Tr sc d 93 (54, [l0, l1, l2, l3], [], h) Q = Tr sc d 93 (55, [l0, l1, l2, l3], [.int 0], h) Q := t_go k_93_54 rfl
theorem k_93_55 : lk 93 55 = some (.istore_n 3, 56, 3, 0, .null) := by decide +kernel
theorem x_93_55 : Tr sc d 93 (55, [l0, l1, l2, l3], [.int i0], h) Q = Tr sc d 93 (56, [l0, l1, cl2 l2, some (.int i0)], [], h) Q := t_istore_n k_93_55 (Nat.le_of_ble_eq_true rfl)
theorem k_93_56 : lk 93 56 = some (.iload_n 3, 57, 3, 0, .null) := by decide +kernel
theorem x_93_56 : Tr sc d 93 (56, [l0, l1, l2, some (.int x)], [], h) Q = Tr sc d 93 (57, [l0, l1, l2, some (.int x)], [.int x], h) Q := t_iload_n k_93_56 rfl
theorem k_93_57 : lk 93 57 = some (.aload_n 0, 58, 0, 0, .null) := by decide +kernel
theorem x_93_57 : Tr sc d 93 (57, [some (.ref xk), l1, l2, l3], [.int i0], h) Q = Tr sc d 93 (58, [some (.ref xk), l1, l2, l3], [.ref xk, .int i0], h) Q := t_aload_n k_93_57 rfl
theorem k_93_58 : lk 93 58 = some (.getfield 29, 61, 8, 3, .null) := by decide +kernel
theorem x_93_58 : Tr sc d 93 (58, [l0, l1, l2, l3], [.ref k1, .int i0], h) Q = (okp h k1 8 = true ∧ ∃ q, hR h k1 3 = some q ∧ Tr sc d 93 (61, [l0, l1, l2, l3], [.ref q, .int i0], h) Q) := t_getr k_93_58
theorem k_93_61 : lk 93 61 = some (.getfield 79, 64, 1, 4, .int 0) := by decide +kernel
theorem x_93_61 : Tr sc d 93 (61, [l0, l1, l2, l3], [.ref k1, .int i0], h) Q = (okp h k1 1 = true ∧ Tr sc d 93 (64, [l0, l1, l2, l3], [.int (hI h k1 4), .int i0], h) Q) := t_gd k_93_61 rfl
theorem k_93_64 : lk 93 64 = some (.if_icmp .ge 21, 67, 85, 0, .null) := by decide +kernel
theorem x_93_64 : Tr sc d 93 (64, [l0, l1, l2, l3], [.int i1, .int i0], h) Q = if i1 ≤ i0 then Tr sc d 93 (85, [l0, l1, l2, l3], [], h) Q else Tr sc d 93 (67, [l0, l1, l2, l3], [], h) Q := t_if k_93_64 rfl
theorem k_93_67 : lk 93 67 = some (.aload_n 0, 68, 0, 0, .null) := by decide +kernel
theorem x_93_67 : Tr sc d 93 (67, [some (.ref xk), l1, l2, l3], [], h) Q = Tr sc d 93 (68, [some (.ref xk), l1, l2, l3], [.ref xk], h) Q := t_aload_n k_93_67 rfl
theorem k_93_68 : lk 93 68 = some (.getfield 11, 71, 8, 0, .null) := by decide +kernel
theorem x_93_68 : Tr sc d 93 (68, [l0, l1, l2, l3], [.ref k0], h) Q = (okp h k0 8 = true ∧ ∃ q, hR h k0 0 = some q ∧ Tr sc d 93 (71, [l0, l1, l2, l3], [.ref q], h) Q) := t_getr k_93_68
theorem k_93_71 : lk 93 71 = some (.iload_n 3, 72, 3, 0, .null) := by decide +kernel
theorem x_93_71 : Tr sc d 93 (71, [l0, l1, l2, some (.int x)], [.ref k0], h) Q = Tr sc d 93 (72, [l0, l1, l2, some (.int x)], [.int x, .ref k0], h) Q := t_iload_n k_93_71 rfl
theorem k_93_72 : lk 93 72 = some (.baload, 73, 0, 0, .null) := by decide +kernel
theorem x_93_72 : Tr sc d 93 (72, [l0, l1, l2, l3], [.int i1, .ref k0], h) Q = ((okp h k0 13 && inb i1 (LN k0)) = true ∧ Tr sc d 93 (73, [l0, l1, l2, l3], [.int (hI h k0 i1.toNatClampNeg)], h) Q) := t_gd k_93_72 rfl
theorem k_93_73 : lk 93 73 = some (.ifCond .ne 6, 76, 79, 0, .null) := by decide +kernel
theorem x_93_73 : Tr sc d 93 (73, [l0, l1, l2, l3], [.int i0], h) Q = if i0 = 0 then Tr sc d 93 (76, [l0, l1, l2, l3], [], h) Q else Tr sc d 93 (79, [l0, l1, l2, l3], [], h) Q := t_if k_93_73 rfl
theorem k_93_76 : lk 93 76 = some (.iinc 2 1, 79, 2, 0, .int 1) := by decide +kernel
theorem x_93_76 : Tr sc d 93 (76, [l0, l1, some (.int x), l3], [], h) Q = Tr sc d 93 (79, [l0, cl2 l1, some (.int (x + 1)), l3], [], h) Q := t_inc k_93_76 rfl (Nat.le_of_ble_eq_true rfl)
theorem k_93_79 : lk 93 79 = some (.iinc 3 1, 82, 3, 0, .int 1) := by decide +kernel
theorem x_93_79 : Tr sc d 93 (79, [l0, l1, l2, some (.int x)], [], h) Q = Tr sc d 93 (82, [l0, l1, cl2 l2, some (.int (x + 1))], [], h) Q := t_inc k_93_79 rfl (Nat.le_of_ble_eq_true rfl)
theorem k_93_82 : lk 93 82 = some (.goto (-26), 85, 56, 0, .null) := by decide +kernel
theorem x_93_82 : Tr sc d 93 (82, [l0, l1, l2, l3], [], h) Q = Tr sc d 93 (56, [l0, l1, l2, l3], [], h) Q := t_go k_93_82 rfl
theorem k_93_85 : lk 93 85 = some (.iload_n 2, 86, 2, 0, .null) := by decide +kernel
theorem x_93_85 : Tr sc d 93 (85, [l0, l1, some (.int x), l3], [], h) Q = Tr sc d 93 (86, [l0, l1, some (.int x), l3], [.int x], h) Q := t_iload_n k_93_85 rfl
theorem k_93_86 : lk 93 86 = some (.ireturn, 87, 0, 0, .null) := by decide +kernel
theorem x_93_86 : Tr sc d 93 (86, [l0, l1, l2, l3], [.int i0], h) Q = Q (some (.int i0), h) := t_ret k_93_86 (by rw [r_93]; rfl)
theorem e_93 : Tr sc d 93 (ent0 93 [.ref k0] h) Q = Tr sc d 93 (0, [some (.ref k0), none, none, none], [], h) Q := by
  have e : mL 93 = 4 := by decide +kernel
  unfold ent0
  rw [e]
  rfl
theorem r_94 : mR 94 = some .boolean := by decide +kernel
theorem k_94_0 : lk 94 0 = some (.iconst 0, 1, 0, 0, .int 0) := by decide +kernel
theorem x_94_0 : Tr sc d 94 (0, [l0, l1, l2], [], h) Q = Tr sc d 94 (1, [l0, l1, l2], [.int 0], h) Q := t_go k_94_0 rfl
theorem k_94_1 : lk 94 1 = some (.istore_n 1, 2, 1, 0, .null) := by decide +kernel
theorem x_94_1 : Tr sc d 94 (1, [l0, l1, l2], [.int i0], h) Q = Tr sc d 94 (2, [cl2 l0, some (.int i0), l2], [], h) Q := t_istore_n k_94_1 (Nat.le_of_ble_eq_true rfl)
theorem k_94_2 : lk 94 2 = some (.aload_n 0, 3, 0, 0, .null) := by decide +kernel
theorem x_94_2 : Tr sc d 94 (2, [some (.ref xk), l1, l2], [], h) Q = Tr sc d 94 (3, [some (.ref xk), l1, l2], [.ref xk], h) Q := t_aload_n k_94_2 rfl
theorem k_94_3 : lk 94 3 = some (.getfield 29, 6, 8, 3, .null) := by decide +kernel
theorem x_94_3 : Tr sc d 94 (3, [l0, l1, l2], [.ref k0], h) Q = (okp h k0 8 = true ∧ ∃ q, hR h k0 3 = some q ∧ Tr sc d 94 (6, [l0, l1, l2], [.ref q], h) Q) := t_getr k_94_3
theorem k_94_6 : lk 94 6 = some (.getfield 79, 9, 1, 4, .int 0) := by decide +kernel
theorem x_94_6 : Tr sc d 94 (6, [l0, l1, l2], [.ref k0], h) Q = (okp h k0 1 = true ∧ Tr sc d 94 (9, [l0, l1, l2], [.int (hI h k0 4)], h) Q) := t_gd k_94_6 rfl
theorem k_94_9 : lk 94 9 = some (.iconst 1, 10, 0, 0, .int 1) := by decide +kernel
theorem x_94_9 : Tr sc d 94 (9, [l0, l1, l2], [.int i0], h) Q = Tr sc d 94 (10, [l0, l1, l2], [.int 1, .int i0], h) Q := t_go k_94_9 rfl
theorem k_94_10 : lk 94 10 = some (.isub, 11, 0, 0, .null) := by decide +kernel
theorem x_94_10 : Tr sc d 94 (10, [l0, l1, l2], [.int i1, .int i0], h) Q = Tr sc d 94 (11, [l0, l1, l2], [.int (i0 - i1)], h) Q := t_go k_94_10 rfl
theorem k_94_11 : lk 94 11 = some (.istore_n 2, 12, 2, 0, .null) := by decide +kernel
theorem x_94_11 : Tr sc d 94 (11, [l0, l1, l2], [.int i0], h) Q = Tr sc d 94 (12, [l0, cl2 l1, some (.int i0)], [], h) Q := t_istore_n k_94_11 (Nat.le_of_ble_eq_true rfl)
theorem k_94_12 : lk 94 12 = some (.iload_n 2, 13, 2, 0, .null) := by decide +kernel
theorem x_94_12 : Tr sc d 94 (12, [l0, l1, some (.int x)], [], h) Q = Tr sc d 94 (13, [l0, l1, some (.int x)], [.int x], h) Q := t_iload_n k_94_12 rfl
theorem k_94_13 : lk 94 13 = some (.ifCond .lt 35, 16, 48, 0, .null) := by decide +kernel
theorem x_94_13 : Tr sc d 94 (13, [l0, l1, l2], [.int i0], h) Q = if i0 < 0 then Tr sc d 94 (48, [l0, l1, l2], [], h) Q else Tr sc d 94 (16, [l0, l1, l2], [], h) Q := t_if k_94_13 rfl
theorem k_94_16 : lk 94 16 = some (.aload_n 0, 17, 0, 0, .null) := by decide +kernel
theorem x_94_16 : Tr sc d 94 (16, [some (.ref xk), l1, l2], [], h) Q = Tr sc d 94 (17, [some (.ref xk), l1, l2], [.ref xk], h) Q := t_aload_n k_94_16 rfl
theorem k_94_17 : lk 94 17 = some (.getfield 11, 20, 8, 0, .null) := by decide +kernel
theorem x_94_17 : Tr sc d 94 (17, [l0, l1, l2], [.ref k0], h) Q = (okp h k0 8 = true ∧ ∃ q, hR h k0 0 = some q ∧ Tr sc d 94 (20, [l0, l1, l2], [.ref q], h) Q) := t_getr k_94_17
theorem k_94_20 : lk 94 20 = some (.iload_n 2, 21, 2, 0, .null) := by decide +kernel
theorem x_94_20 : Tr sc d 94 (20, [l0, l1, some (.int x)], [.ref k0], h) Q = Tr sc d 94 (21, [l0, l1, some (.int x)], [.int x, .ref k0], h) Q := t_iload_n k_94_20 rfl
theorem k_94_21 : lk 94 21 = some (.baload, 22, 0, 0, .null) := by decide +kernel
theorem x_94_21 : Tr sc d 94 (21, [l0, l1, l2], [.int i1, .ref k0], h) Q = ((okp h k0 13 && inb i1 (LN k0)) = true ∧ Tr sc d 94 (22, [l0, l1, l2], [.int (hI h k0 i1.toNatClampNeg)], h) Q) := t_gd k_94_21 rfl
theorem k_94_22 : lk 94 22 = some (.ifCond .ne 20, 25, 42, 0, .null) := by decide +kernel
theorem x_94_22 : Tr sc d 94 (22, [l0, l1, l2], [.int i0], h) Q = if i0 = 0 then Tr sc d 94 (25, [l0, l1, l2], [], h) Q else Tr sc d 94 (42, [l0, l1, l2], [], h) Q := t_if k_94_22 rfl
theorem k_94_25 : lk 94 25 = some (.aload_n 0, 26, 0, 0, .null) := by decide +kernel
theorem x_94_25 : Tr sc d 94 (25, [some (.ref xk), l1, l2], [], h) Q = Tr sc d 94 (26, [some (.ref xk), l1, l2], [.ref xk], h) Q := t_aload_n k_94_25 rfl
theorem k_94_26 : lk 94 26 = some (.iload_n 2, 27, 2, 0, .null) := by decide +kernel
theorem x_94_26 : Tr sc d 94 (26, [l0, l1, some (.int x)], [.ref k0], h) Q = Tr sc d 94 (27, [l0, l1, some (.int x)], [.int x, .ref k0], h) Q := t_iload_n k_94_26 rfl
theorem k_94_27 : lk 94 27 = some (.invokevirtual 100, 30, 95, 1, .null) := by decide +kernel
theorem x_94_27 : Tr sc (d + 1) 94 (27, [l0, l1, l2], [.int i1, .ref k0], h) Q = (okp h k0 8 = true ∧ Tr sc d 95 (ent0 95 [.ref k0, .int i1] h) (fun z => Tr sc (d + 1) 94 (30, [l0, l1, l2], z.1.toList ++ [], z.2) Q)) := t_cv (as := [.int i1]) (r := []) k_94_27 rfl rfl (Nat.le_of_ble_eq_true rfl) (Nat.le_of_ble_eq_true rfl) (Nat.le_of_ble_eq_true rfl)
theorem k_94_30 : lk 94 30 = some (.ifCond .ne 12, 33, 42, 0, .null) := by decide +kernel
theorem x_94_30 : Tr sc d 94 (30, [l0, l1, l2], [.int i0], h) Q = if i0 = 0 then Tr sc d 94 (33, [l0, l1, l2], [], h) Q else Tr sc d 94 (42, [l0, l1, l2], [], h) Q := t_if k_94_30 rfl
theorem k_94_33 : lk 94 33 = some (.aload_n 0, 34, 0, 0, .null) := by decide +kernel
theorem x_94_33 : Tr sc d 94 (33, [some (.ref xk), l1, l2], [], h) Q = Tr sc d 94 (34, [some (.ref xk), l1, l2], [.ref xk], h) Q := t_aload_n k_94_33 rfl
theorem k_94_34 : lk 94 34 = some (.getfield 11, 37, 8, 0, .null) := by decide +kernel
theorem x_94_34 : Tr sc d 94 (34, [l0, l1, l2], [.ref k0], h) Q = (okp h k0 8 = true ∧ ∃ q, hR h k0 0 = some q ∧ Tr sc d 94 (37, [l0, l1, l2], [.ref q], h) Q) := t_getr k_94_34
theorem k_94_37 : lk 94 37 = some (.iload_n 2, 38, 2, 0, .null) := by decide +kernel
theorem x_94_37 : Tr sc d 94 (37, [l0, l1, some (.int x)], [.ref k0], h) Q = Tr sc d 94 (38, [l0, l1, some (.int x)], [.int x, .ref k0], h) Q := t_iload_n k_94_37 rfl
theorem k_94_38 : lk 94 38 = some (.iconst 1, 39, 0, 0, .int 1) := by decide +kernel
theorem x_94_38 : Tr sc d 94 (38, [l0, l1, l2], [.int i1, .ref k0], h) Q = Tr sc d 94 (39, [l0, l1, l2], [.int 1, .int i1, .ref k0], h) Q := t_go k_94_38 rfl
theorem k_94_39 : lk 94 39 = some (.bastore, 40, 0, 0, .null) := by decide +kernel
theorem x_94_39 : Tr sc d 94 (39, [l0, l1, l2], [.int i2, .int i1, .ref k0], h) Q = ((okp h k0 13 && inb i1 (LN k0)) = true ∧ Tr sc d 94 (40, [l0, l1, l2], [], (sI h k0 i1.toNatClampNeg (vp_nar .boolean i2))) Q) := t_gd k_94_39 rfl
theorem k_94_40 : lk 94 40 = some (.iconst 1, 41, 0, 0, .int 1) := by decide +kernel
theorem x_94_40 : Tr sc d 94 (40, [l0, l1, l2], [], h) Q = Tr sc d 94 (41, [l0, l1, l2], [.int 1], h) Q := t_go k_94_40 rfl
theorem k_94_41 : lk 94 41 = some (.istore_n 1, 42, 1, 0, .null) := by decide +kernel
theorem x_94_41 : Tr sc d 94 (41, [l0, l1, l2], [.int i0], h) Q = Tr sc d 94 (42, [cl2 l0, some (.int i0), l2], [], h) Q := t_istore_n k_94_41 (Nat.le_of_ble_eq_true rfl)
theorem k_94_42 : lk 94 42 = some (.iinc 2 (-1), 45, 2, 0, .int (-1)) := by decide +kernel
theorem x_94_42 : Tr sc d 94 (42, [l0, l1, some (.int x)], [], h) Q = Tr sc d 94 (45, [l0, cl2 l1, some (.int (x + (-1)))], [], h) Q := t_inc k_94_42 rfl (Nat.le_of_ble_eq_true rfl)
theorem k_94_45 : lk 94 45 = some (.goto (-33), 48, 12, 0, .null) := by decide +kernel
theorem x_94_45 : Tr sc d 94 (45, [l0, l1, l2], [], h) Q = Tr sc d 94 (12, [l0, l1, l2], [], h) Q := t_go k_94_45 rfl
theorem k_94_48 : lk 94 48 = some (.iload_n 1, 49, 1, 0, .null) := by decide +kernel
theorem x_94_48 : Tr sc d 94 (48, [l0, some (.int x), l2], [], h) Q = Tr sc d 94 (49, [l0, some (.int x), l2], [.int x], h) Q := t_iload_n k_94_48 rfl
theorem k_94_49 : lk 94 49 = some (.ireturn, 50, 0, 0, .null) := by decide +kernel
theorem x_94_49 : Tr sc d 94 (49, [l0, l1, l2], [.int i0], h) Q = (vp_nar .boolean i0 = i0 ∧ Q (some (.int i0), h)) := t_zret k_94_49 r_94
theorem e_94 : Tr sc d 94 (ent0 94 [.ref k0] h) Q = Tr sc d 94 (0, [some (.ref k0), none, none], [], h) Q := by
  have e : mL 94 = 3 := by decide +kernel
  unfold ent0
  rw [e]
  rfl
theorem r_95 : mR 95 = some .boolean := by decide +kernel
theorem k_95_0 : lk 95 0 = some (.iconst 0, 1, 0, 0, .int 0) := by decide +kernel
theorem x_95_0 : Tr sc d 95 (0, [l0, l1, l2, l3], [], h) Q = Tr sc d 95 (1, [l0, l1, l2, l3], [.int 0], h) Q := t_go k_95_0 rfl
theorem k_95_1 : lk 95 1 = some (.istore_n 2, 2, 2, 0, .null) := by decide +kernel
theorem x_95_1 : Tr sc d 95 (1, [l0, l1, l2, l3], [.int i0], h) Q = Tr sc d 95 (2, [l0, cl2 l1, some (.int i0), l3], [], h) Q := t_istore_n k_95_1 (Nat.le_of_ble_eq_true rfl)
theorem k_95_2 : lk 95 2 = some (.iload_n 2, 3, 2, 0, .null) := by decide +kernel
theorem x_95_2 : Tr sc d 95 (2, [l0, l1, some (.int x), l3], [], h) Q = Tr sc d 95 (3, [l0, l1, some (.int x), l3], [.int x], h) Q := t_iload_n k_95_2 rfl
theorem k_95_3 : lk 95 3 = some (.aload_n 0, 4, 0, 0, .null) := by decide +kernel
theorem x_95_3 : Tr sc d 95 (3, [some (.ref xk), l1, l2, l3], [.int i0], h) Q = Tr sc d 95 (4, [some (.ref xk), l1, l2, l3], [.ref xk, .int i0], h) Q := t_aload_n k_95_3 rfl
theorem k_95_4 : lk 95 4 = some (.getfield 22, 7, 8, 4, .int 0) := by decide +kernel
theorem x_95_4 : Tr sc d 95 (4, [l0, l1, l2, l3], [.ref k1, .int i0], h) Q = (okp h k1 8 = true ∧ Tr sc d 95 (7, [l0, l1, l2, l3], [.int (hI h k1 4), .int i0], h) Q) := t_gd k_95_4 rfl
theorem k_95_7 : lk 95 7 = some (.if_icmp .ge 44, 10, 51, 0, .null) := by decide +kernel
theorem x_95_7 : Tr sc d 95 (7, [l0, l1, l2, l3], [.int i1, .int i0], h) Q = if i1 ≤ i0 then Tr sc d 95 (51, [l0, l1, l2, l3], [], h) Q else Tr sc d 95 (10, [l0, l1, l2, l3], [], h) Q := t_if k_95_7 rfl
theorem k_95_10 : lk 95 10 = some (.aload_n 0, 11, 0, 0, .null) := by decide +kernel
theorem x_95_10 : Tr sc d 95 (10, [some (.ref xk), l1, l2, l3], [], h) Q = Tr sc d 95 (11, [some (.ref xk), l1, l2, l3], [.ref xk], h) Q := t_aload_n k_95_10 rfl
theorem k_95_11 : lk 95 11 = some (.getfield 29, 14, 8, 3, .null) := by decide +kernel
theorem x_95_11 : Tr sc d 95 (11, [l0, l1, l2, l3], [.ref k0], h) Q = (okp h k0 8 = true ∧ ∃ q, hR h k0 3 = some q ∧ Tr sc d 95 (14, [l0, l1, l2, l3], [.ref q], h) Q) := t_getr k_95_11
theorem k_95_14 : lk 95 14 = some (.aload_n 0, 15, 0, 0, .null) := by decide +kernel
theorem x_95_14 : Tr sc d 95 (14, [some (.ref xk), l1, l2, l3], [.ref k0], h) Q = Tr sc d 95 (15, [some (.ref xk), l1, l2, l3], [.ref xk, .ref k0], h) Q := t_aload_n k_95_14 rfl
theorem k_95_15 : lk 95 15 = some (.iload_n 1, 16, 1, 0, .null) := by decide +kernel
theorem x_95_15 : Tr sc d 95 (15, [l0, some (.int x), l2, l3], [.ref k1, .ref k0], h) Q = Tr sc d 95 (16, [l0, some (.int x), l2, l3], [.int x, .ref k1, .ref k0], h) Q := t_iload_n k_95_15 rfl
theorem k_95_16 : lk 95 16 = some (.iload_n 2, 17, 2, 0, .null) := by decide +kernel
theorem x_95_16 : Tr sc d 95 (16, [l0, l1, some (.int x), l3], [.int i2, .ref k1, .ref k0], h) Q = Tr sc d 95 (17, [l0, l1, some (.int x), l3], [.int x, .int i2, .ref k1, .ref k0], h) Q := t_iload_n k_95_16 rfl
theorem k_95_17 : lk 95 17 = some (.invokevirtual 82, 20, 89, 2, .null) := by decide +kernel
theorem x_95_17 : Tr sc (d + 1) 95 (17, [l0, l1, l2, l3], [.int i3, .int i2, .ref k1, .ref k0], h) Q = (okp h k1 8 = true ∧ Tr sc d 89 (ent0 89 [.ref k1, .int i2, .int i3] h) (fun z => Tr sc (d + 1) 95 (20, [l0, l1, l2, l3], z.1.toList ++ [.ref k0], z.2) Q)) := t_cv (as := [.int i2, .int i3]) (r := [.ref k0]) k_95_17 rfl rfl (Nat.le_of_ble_eq_true rfl) (Nat.le_of_ble_eq_true rfl) (Nat.le_of_ble_eq_true rfl)
theorem k_95_20 : lk 95 20 = some (.aload_n 0, 21, 0, 0, .null) := by decide +kernel
theorem x_95_20 : Tr sc d 95 (20, [some (.ref xk), l1, l2, l3], [.int i1, .ref k0], h) Q = Tr sc d 95 (21, [some (.ref xk), l1, l2, l3], [.ref xk, .int i1, .ref k0], h) Q := t_aload_n k_95_20 rfl
theorem k_95_21 : lk 95 21 = some (.iload_n 1, 22, 1, 0, .null) := by decide +kernel
theorem x_95_21 : Tr sc d 95 (21, [l0, some (.int x), l2, l3], [.ref k2, .int i1, .ref k0], h) Q = Tr sc d 95 (22, [l0, some (.int x), l2, l3], [.int x, .ref k2, .int i1, .ref k0], h) Q := t_iload_n k_95_21 rfl
theorem k_95_22 : lk 95 22 = some (.iload_n 2, 23, 2, 0, .null) := by decide +kernel
theorem x_95_22 : Tr sc d 95 (22, [l0, l1, some (.int x), l3], [.int i3, .ref k2, .int i1, .ref k0], h) Q = Tr sc d 95 (23, [l0, l1, some (.int x), l3], [.int x, .int i3, .ref k2, .int i1, .ref k0], h) Q := t_iload_n k_95_22 rfl
theorem k_95_23 : lk 95 23 = some (.invokevirtual 86, 26, 90, 2, .null) := by decide +kernel
theorem x_95_23 : Tr sc (d + 1) 95 (23, [l0, l1, l2, l3], [.int i4, .int i3, .ref k2, .int i1, .ref k0], h) Q = (okp h k2 8 = true ∧ Tr sc d 90 (ent0 90 [.ref k2, .int i3, .int i4] h) (fun z => Tr sc (d + 1) 95 (26, [l0, l1, l2, l3], z.1.toList ++ [.int i1, .ref k0], z.2) Q)) := t_cv (as := [.int i3, .int i4]) (r := [.int i1, .ref k0]) k_95_23 rfl rfl (Nat.le_of_ble_eq_true rfl) (Nat.le_of_ble_eq_true rfl) (Nat.le_of_ble_eq_true rfl)
theorem k_95_26 : lk 95 26 = some (.invokevirtual 104, 29, 17, 2, .null) := by decide +kernel
theorem x_95_26 : Tr sc (d + 1) 95 (26, [l0, l1, l2, l3], [.int i2, .int i1, .ref k0], h) Q = (okp h k0 1 = true ∧ Tr sc d 17 (ent0 17 [.ref k0, .int i1, .int i2] h) (fun z => Tr sc (d + 1) 95 (29, [l0, l1, l2, l3], z.1.toList ++ [], z.2) Q)) := t_cv (as := [.int i1, .int i2]) (r := []) k_95_26 rfl rfl (Nat.le_of_ble_eq_true rfl) (Nat.le_of_ble_eq_true rfl) (Nat.le_of_ble_eq_true rfl)
theorem k_95_29 : lk 95 29 = some (.istore_n 3, 30, 3, 0, .null) := by decide +kernel
theorem x_95_29 : Tr sc d 95 (29, [l0, l1, l2, l3], [.int i0], h) Q = Tr sc d 95 (30, [l0, l1, cl2 l2, some (.int i0)], [], h) Q := t_istore_n k_95_29 (Nat.le_of_ble_eq_true rfl)
theorem k_95_30 : lk 95 30 = some (.iload_n 3, 31, 3, 0, .null) := by decide +kernel
theorem x_95_30 : Tr sc d 95 (30, [l0, l1, l2, some (.int x)], [], h) Q = Tr sc d 95 (31, [l0, l1, l2, some (.int x)], [.int x], h) Q := t_iload_n k_95_30 rfl
theorem k_95_31 : lk 95 31 = some (.ifCond .lt 14, 34, 45, 0, .null) := by decide +kernel
theorem x_95_31 : Tr sc d 95 (31, [l0, l1, l2, l3], [.int i0], h) Q = if i0 < 0 then Tr sc d 95 (45, [l0, l1, l2, l3], [], h) Q else Tr sc d 95 (34, [l0, l1, l2, l3], [], h) Q := t_if k_95_31 rfl
theorem k_95_34 : lk 95 34 = some (.aload_n 0, 35, 0, 0, .null) := by decide +kernel
theorem x_95_34 : Tr sc d 95 (34, [some (.ref xk), l1, l2, l3], [], h) Q = Tr sc d 95 (35, [some (.ref xk), l1, l2, l3], [.ref xk], h) Q := t_aload_n k_95_34 rfl
theorem k_95_35 : lk 95 35 = some (.getfield 11, 38, 8, 0, .null) := by decide +kernel
theorem x_95_35 : Tr sc d 95 (35, [l0, l1, l2, l3], [.ref k0], h) Q = (okp h k0 8 = true ∧ ∃ q, hR h k0 0 = some q ∧ Tr sc d 95 (38, [l0, l1, l2, l3], [.ref q], h) Q) := t_getr k_95_35
theorem k_95_38 : lk 95 38 = some (.iload_n 3, 39, 3, 0, .null) := by decide +kernel
theorem x_95_38 : Tr sc d 95 (38, [l0, l1, l2, some (.int x)], [.ref k0], h) Q = Tr sc d 95 (39, [l0, l1, l2, some (.int x)], [.int x, .ref k0], h) Q := t_iload_n k_95_38 rfl
theorem k_95_39 : lk 95 39 = some (.baload, 40, 0, 0, .null) := by decide +kernel
theorem x_95_39 : Tr sc d 95 (39, [l0, l1, l2, l3], [.int i1, .ref k0], h) Q = ((okp h k0 13 && inb i1 (LN k0)) = true ∧ Tr sc d 95 (40, [l0, l1, l2, l3], [.int (hI h k0 i1.toNatClampNeg)], h) Q) := t_gd k_95_39 rfl
theorem k_95_40 : lk 95 40 = some (.ifCond .ne 5, 43, 45, 0, .null) := by decide +kernel
theorem x_95_40 : Tr sc d 95 (40, [l0, l1, l2, l3], [.int i0], h) Q = if i0 = 0 then Tr sc d 95 (43, [l0, l1, l2, l3], [], h) Q else Tr sc d 95 (45, [l0, l1, l2, l3], [], h) Q := t_if k_95_40 rfl
theorem k_95_43 : lk 95 43 = some (.iconst 1, 44, 0, 0, .int 1) := by decide +kernel
theorem x_95_43 : Tr sc d 95 (43, [l0, l1, l2, l3], [], h) Q = Tr sc d 95 (44, [l0, l1, l2, l3], [.int 1], h) Q := t_go k_95_43 rfl
theorem k_95_44 : lk 95 44 = some (.ireturn, 45, 0, 0, .null) := by decide +kernel
theorem x_95_44 : Tr sc d 95 (44, [l0, l1, l2, l3], [.int i0], h) Q = (vp_nar .boolean i0 = i0 ∧ Q (some (.int i0), h)) := t_zret k_95_44 r_95
theorem k_95_45 : lk 95 45 = some (.iinc 2 1, 48, 2, 0, .int 1) := by decide +kernel
theorem x_95_45 : Tr sc d 95 (45, [l0, l1, some (.int x), l3], [], h) Q = Tr sc d 95 (48, [l0, cl2 l1, some (.int (x + 1)), l3], [], h) Q := t_inc k_95_45 rfl (Nat.le_of_ble_eq_true rfl)
theorem k_95_48 : lk 95 48 = some (.goto (-46), 51, 2, 0, .null) := by decide +kernel
theorem x_95_48 : Tr sc d 95 (48, [l0, l1, l2, l3], [], h) Q = Tr sc d 95 (2, [l0, l1, l2, l3], [], h) Q := t_go k_95_48 rfl
theorem k_95_51 : lk 95 51 = some (.iconst 0, 52, 0, 0, .int 0) := by decide +kernel
theorem x_95_51 : Tr sc d 95 (51, [l0, l1, l2, l3], [], h) Q = Tr sc d 95 (52, [l0, l1, l2, l3], [.int 0], h) Q := t_go k_95_51 rfl
theorem k_95_52 : lk 95 52 = some (.ireturn, 53, 0, 0, .null) := by decide +kernel
theorem x_95_52 : Tr sc d 95 (52, [l0, l1, l2, l3], [.int i0], h) Q = (vp_nar .boolean i0 = i0 ∧ Q (some (.int i0), h)) := t_zret k_95_52 r_95
theorem e_95 : Tr sc d 95 (ent0 95 [.ref k0, .int i1] h) Q = Tr sc d 95 (0, [some (.ref k0), some (.int i1), none, none], [], h) Q := by
  have e : mL 95 = 4 := by decide +kernel
  unfold ent0
  rw [e]
  rfl
theorem r_252 : mR 252 = some .int := by decide +kernel
theorem k_252_0 : lk 252 0 = some (.iload_n 0, 1, 0, 0, .null) := by decide +kernel
theorem x_252_0 : Tr sc d 252 (0, [some (.int x)], [], h) Q = Tr sc d 252 (1, [some (.int x)], [.int x], h) Q := t_iload_n k_252_0 rfl
theorem k_252_1 : lk 252 1 = some (.iload_n 0, 2, 0, 0, .null) := by decide +kernel
theorem x_252_1 : Tr sc d 252 (1, [some (.int x)], [.int i0], h) Q = Tr sc d 252 (2, [some (.int x)], [.int x, .int i0], h) Q := t_iload_n k_252_1 rfl
theorem k_252_2 : lk 252 2 = some (.iconst 1, 3, 0, 0, .int 1) := by decide +kernel
theorem x_252_2 : Tr sc d 252 (2, [l0], [.int i1, .int i0], h) Q = Tr sc d 252 (3, [l0], [.int 1, .int i1, .int i0], h) Q := t_go k_252_2 rfl
theorem k_252_3 : lk 252 3 = some (.iushr, 4, 0, 0, .null) := by decide +kernel
theorem x_252_3 : Tr sc d 252 (3, [l0], [.int i2, .int i1, .int i0], h) Q = Tr sc d 252 (4, [l0], [.int ((i1.toUInt32 >>> (i2.toUInt32 &&& Int32.toUInt32 31)).toInt32), .int i0], h) Q := t_go k_252_3 rfl
theorem k_252_4 : lk 252 4 = some (.ldc_w 265, 7, 0, 714, .int 1431655765) := by decide +kernel
theorem x_252_4 : Tr sc d 252 (4, [l0], [.int i1, .int i0], h) Q = Tr sc d 252 (7, [l0], [.int 1431655765, .int i1, .int i0], h) Q := t_go k_252_4 rfl
theorem k_252_7 : lk 252 7 = some (.iand, 8, 0, 0, .null) := by decide +kernel
theorem x_252_7 : Tr sc d 252 (7, [l0], [.int i2, .int i1, .int i0], h) Q = Tr sc d 252 (8, [l0], [.int (i1 &&& i2), .int i0], h) Q := t_go k_252_7 rfl
theorem k_252_8 : lk 252 8 = some (.isub, 9, 0, 0, .null) := by decide +kernel
theorem x_252_8 : Tr sc d 252 (8, [l0], [.int i1, .int i0], h) Q = Tr sc d 252 (9, [l0], [.int (i0 - i1)], h) Q := t_go k_252_8 rfl
theorem k_252_9 : lk 252 9 = some (.istore_n 0, 10, 0, 0, .null) := by decide +kernel
theorem x_252_9 : Tr sc d 252 (9, [l0], [.int i0], h) Q = Tr sc d 252 (10, [some (.int i0)], [], h) Q := t_istore_n k_252_9 (Nat.le_of_ble_eq_true rfl)
theorem k_252_10 : lk 252 10 = some (.iload_n 0, 11, 0, 0, .null) := by decide +kernel
theorem x_252_10 : Tr sc d 252 (10, [some (.int x)], [], h) Q = Tr sc d 252 (11, [some (.int x)], [.int x], h) Q := t_iload_n k_252_10 rfl
theorem k_252_11 : lk 252 11 = some (.ldc_w 266, 14, 0, 715, .int 858993459) := by decide +kernel
theorem x_252_11 : Tr sc d 252 (11, [l0], [.int i0], h) Q = Tr sc d 252 (14, [l0], [.int 858993459, .int i0], h) Q := t_go k_252_11 rfl
theorem k_252_14 : lk 252 14 = some (.iand, 15, 0, 0, .null) := by decide +kernel
theorem x_252_14 : Tr sc d 252 (14, [l0], [.int i1, .int i0], h) Q = Tr sc d 252 (15, [l0], [.int (i0 &&& i1)], h) Q := t_go k_252_14 rfl
theorem k_252_15 : lk 252 15 = some (.iload_n 0, 16, 0, 0, .null) := by decide +kernel
theorem x_252_15 : Tr sc d 252 (15, [some (.int x)], [.int i0], h) Q = Tr sc d 252 (16, [some (.int x)], [.int x, .int i0], h) Q := t_iload_n k_252_15 rfl
theorem k_252_16 : lk 252 16 = some (.iconst 2, 17, 0, 0, .int 2) := by decide +kernel
theorem x_252_16 : Tr sc d 252 (16, [l0], [.int i1, .int i0], h) Q = Tr sc d 252 (17, [l0], [.int 2, .int i1, .int i0], h) Q := t_go k_252_16 rfl
theorem k_252_17 : lk 252 17 = some (.iushr, 18, 0, 0, .null) := by decide +kernel
theorem x_252_17 : Tr sc d 252 (17, [l0], [.int i2, .int i1, .int i0], h) Q = Tr sc d 252 (18, [l0], [.int ((i1.toUInt32 >>> (i2.toUInt32 &&& Int32.toUInt32 31)).toInt32), .int i0], h) Q := t_go k_252_17 rfl
theorem k_252_18 : lk 252 18 = some (.ldc_w 266, 21, 0, 715, .int 858993459) := by decide +kernel
theorem x_252_18 : Tr sc d 252 (18, [l0], [.int i1, .int i0], h) Q = Tr sc d 252 (21, [l0], [.int 858993459, .int i1, .int i0], h) Q := t_go k_252_18 rfl
theorem k_252_21 : lk 252 21 = some (.iand, 22, 0, 0, .null) := by decide +kernel
theorem x_252_21 : Tr sc d 252 (21, [l0], [.int i2, .int i1, .int i0], h) Q = Tr sc d 252 (22, [l0], [.int (i1 &&& i2), .int i0], h) Q := t_go k_252_21 rfl
theorem k_252_22 : lk 252 22 = some (.iadd, 23, 0, 0, .null) := by decide +kernel
theorem x_252_22 : Tr sc d 252 (22, [l0], [.int i1, .int i0], h) Q = Tr sc d 252 (23, [l0], [.int (i0 + i1)], h) Q := t_go k_252_22 rfl
theorem k_252_23 : lk 252 23 = some (.istore_n 0, 24, 0, 0, .null) := by decide +kernel
theorem x_252_23 : Tr sc d 252 (23, [l0], [.int i0], h) Q = Tr sc d 252 (24, [some (.int i0)], [], h) Q := t_istore_n k_252_23 (Nat.le_of_ble_eq_true rfl)
theorem k_252_24 : lk 252 24 = some (.iload_n 0, 25, 0, 0, .null) := by decide +kernel
theorem x_252_24 : Tr sc d 252 (24, [some (.int x)], [], h) Q = Tr sc d 252 (25, [some (.int x)], [.int x], h) Q := t_iload_n k_252_24 rfl
theorem k_252_25 : lk 252 25 = some (.iload_n 0, 26, 0, 0, .null) := by decide +kernel
theorem x_252_25 : Tr sc d 252 (25, [some (.int x)], [.int i0], h) Q = Tr sc d 252 (26, [some (.int x)], [.int x, .int i0], h) Q := t_iload_n k_252_25 rfl
theorem k_252_26 : lk 252 26 = some (.iconst 4, 27, 0, 0, .int 4) := by decide +kernel
theorem x_252_26 : Tr sc d 252 (26, [l0], [.int i1, .int i0], h) Q = Tr sc d 252 (27, [l0], [.int 4, .int i1, .int i0], h) Q := t_go k_252_26 rfl
theorem k_252_27 : lk 252 27 = some (.iushr, 28, 0, 0, .null) := by decide +kernel
theorem x_252_27 : Tr sc d 252 (27, [l0], [.int i2, .int i1, .int i0], h) Q = Tr sc d 252 (28, [l0], [.int ((i1.toUInt32 >>> (i2.toUInt32 &&& Int32.toUInt32 31)).toInt32), .int i0], h) Q := t_go k_252_27 rfl
theorem k_252_28 : lk 252 28 = some (.iadd, 29, 0, 0, .null) := by decide +kernel
theorem x_252_28 : Tr sc d 252 (28, [l0], [.int i1, .int i0], h) Q = Tr sc d 252 (29, [l0], [.int (i0 + i1)], h) Q := t_go k_252_28 rfl
theorem k_252_29 : lk 252 29 = some (.ldc_w 267, 32, 0, 716, .int 252645135) := by decide +kernel
theorem x_252_29 : Tr sc d 252 (29, [l0], [.int i0], h) Q = Tr sc d 252 (32, [l0], [.int 252645135, .int i0], h) Q := t_go k_252_29 rfl
theorem k_252_32 : lk 252 32 = some (.iand, 33, 0, 0, .null) := by decide +kernel
theorem x_252_32 : Tr sc d 252 (32, [l0], [.int i1, .int i0], h) Q = Tr sc d 252 (33, [l0], [.int (i0 &&& i1)], h) Q := t_go k_252_32 rfl
theorem k_252_33 : lk 252 33 = some (.istore_n 0, 34, 0, 0, .null) := by decide +kernel
theorem x_252_33 : Tr sc d 252 (33, [l0], [.int i0], h) Q = Tr sc d 252 (34, [some (.int i0)], [], h) Q := t_istore_n k_252_33 (Nat.le_of_ble_eq_true rfl)
theorem k_252_34 : lk 252 34 = some (.iload_n 0, 35, 0, 0, .null) := by decide +kernel
theorem x_252_34 : Tr sc d 252 (34, [some (.int x)], [], h) Q = Tr sc d 252 (35, [some (.int x)], [.int x], h) Q := t_iload_n k_252_34 rfl
theorem k_252_35 : lk 252 35 = some (.iload_n 0, 36, 0, 0, .null) := by decide +kernel
theorem x_252_35 : Tr sc d 252 (35, [some (.int x)], [.int i0], h) Q = Tr sc d 252 (36, [some (.int x)], [.int x, .int i0], h) Q := t_iload_n k_252_35 rfl
theorem k_252_36 : lk 252 36 = some (.bipush 8, 38, 0, 0, .int 8) := by decide +kernel
theorem x_252_36 : Tr sc d 252 (36, [l0], [.int i1, .int i0], h) Q = Tr sc d 252 (38, [l0], [.int 8, .int i1, .int i0], h) Q := t_go k_252_36 rfl
theorem k_252_38 : lk 252 38 = some (.iushr, 39, 0, 0, .null) := by decide +kernel
theorem x_252_38 : Tr sc d 252 (38, [l0], [.int i2, .int i1, .int i0], h) Q = Tr sc d 252 (39, [l0], [.int ((i1.toUInt32 >>> (i2.toUInt32 &&& Int32.toUInt32 31)).toInt32), .int i0], h) Q := t_go k_252_38 rfl
theorem k_252_39 : lk 252 39 = some (.iadd, 40, 0, 0, .null) := by decide +kernel
theorem x_252_39 : Tr sc d 252 (39, [l0], [.int i1, .int i0], h) Q = Tr sc d 252 (40, [l0], [.int (i0 + i1)], h) Q := t_go k_252_39 rfl
theorem k_252_40 : lk 252 40 = some (.istore_n 0, 41, 0, 0, .null) := by decide +kernel
theorem x_252_40 : Tr sc d 252 (40, [l0], [.int i0], h) Q = Tr sc d 252 (41, [some (.int i0)], [], h) Q := t_istore_n k_252_40 (Nat.le_of_ble_eq_true rfl)
theorem k_252_41 : lk 252 41 = some (.iload_n 0, 42, 0, 0, .null) := by decide +kernel
theorem x_252_41 : Tr sc d 252 (41, [some (.int x)], [], h) Q = Tr sc d 252 (42, [some (.int x)], [.int x], h) Q := t_iload_n k_252_41 rfl
theorem k_252_42 : lk 252 42 = some (.iload_n 0, 43, 0, 0, .null) := by decide +kernel
theorem x_252_42 : Tr sc d 252 (42, [some (.int x)], [.int i0], h) Q = Tr sc d 252 (43, [some (.int x)], [.int x, .int i0], h) Q := t_iload_n k_252_42 rfl
theorem k_252_43 : lk 252 43 = some (.bipush 16, 45, 0, 0, .int 16) := by decide +kernel
theorem x_252_43 : Tr sc d 252 (43, [l0], [.int i1, .int i0], h) Q = Tr sc d 252 (45, [l0], [.int 16, .int i1, .int i0], h) Q := t_go k_252_43 rfl
theorem k_252_45 : lk 252 45 = some (.iushr, 46, 0, 0, .null) := by decide +kernel
theorem x_252_45 : Tr sc d 252 (45, [l0], [.int i2, .int i1, .int i0], h) Q = Tr sc d 252 (46, [l0], [.int ((i1.toUInt32 >>> (i2.toUInt32 &&& Int32.toUInt32 31)).toInt32), .int i0], h) Q := t_go k_252_45 rfl
theorem k_252_46 : lk 252 46 = some (.iadd, 47, 0, 0, .null) := by decide +kernel
theorem x_252_46 : Tr sc d 252 (46, [l0], [.int i1, .int i0], h) Q = Tr sc d 252 (47, [l0], [.int (i0 + i1)], h) Q := t_go k_252_46 rfl
theorem k_252_47 : lk 252 47 = some (.istore_n 0, 48, 0, 0, .null) := by decide +kernel
theorem x_252_47 : Tr sc d 252 (47, [l0], [.int i0], h) Q = Tr sc d 252 (48, [some (.int i0)], [], h) Q := t_istore_n k_252_47 (Nat.le_of_ble_eq_true rfl)
theorem k_252_48 : lk 252 48 = some (.iload_n 0, 49, 0, 0, .null) := by decide +kernel
theorem x_252_48 : Tr sc d 252 (48, [some (.int x)], [], h) Q = Tr sc d 252 (49, [some (.int x)], [.int x], h) Q := t_iload_n k_252_48 rfl
theorem k_252_49 : lk 252 49 = some (.bipush 63, 51, 0, 0, .int 63) := by decide +kernel
theorem x_252_49 : Tr sc d 252 (49, [l0], [.int i0], h) Q = Tr sc d 252 (51, [l0], [.int 63, .int i0], h) Q := t_go k_252_49 rfl
theorem k_252_51 : lk 252 51 = some (.iand, 52, 0, 0, .null) := by decide +kernel
theorem x_252_51 : Tr sc d 252 (51, [l0], [.int i1, .int i0], h) Q = Tr sc d 252 (52, [l0], [.int (i0 &&& i1)], h) Q := t_go k_252_51 rfl
theorem k_252_52 : lk 252 52 = some (.ireturn, 53, 0, 0, .null) := by decide +kernel
theorem x_252_52 : Tr sc d 252 (52, [l0], [.int i0], h) Q = Q (some (.int i0), h) := t_ret k_252_52 (by rw [r_252]; rfl)
theorem e_252 : Tr sc d 252 (ent0 252 [.int i0] h) Q = Tr sc d 252 (0, [some (.int i0)], [], h) Q := by
  have e : mL 252 = 1 := by decide +kernel
  unfold ent0
  rw [e]
  rfl
theorem r_253 : mR 253 = some .int := by decide +kernel
theorem k_253_0 : lk 253 0 = some (.lload_n 0, 1, 0, 0, .null) := by decide +kernel
theorem x_253_0 : Tr sc d 253 (0, [some (.long xl), l1], [], h) Q = Tr sc d 253 (1, [some (.long xl), l1], [.long xl], h) Q := t_lload_n k_253_0 rfl
theorem k_253_1 : lk 253 1 = some (.lload_n 0, 2, 0, 0, .null) := by decide +kernel
theorem x_253_1 : Tr sc d 253 (1, [some (.long xl), l1], [.long j0], h) Q = Tr sc d 253 (2, [some (.long xl), l1], [.long xl, .long j0], h) Q := t_lload_n k_253_1 rfl
theorem k_253_2 : lk 253 2 = some (.iconst 1, 3, 0, 0, .int 1) := by decide +kernel
theorem x_253_2 : Tr sc d 253 (2, [l0, l1], [.long j1, .long j0], h) Q = Tr sc d 253 (3, [l0, l1], [.int 1, .long j1, .long j0], h) Q := t_go k_253_2 rfl
theorem k_253_3 : lk 253 3 = some (.lushr, 4, 0, 0, .null) := by decide +kernel
theorem x_253_3 : Tr sc d 253 (3, [l0, l1], [.int i2, .long j1, .long j0], h) Q = Tr sc d 253 (4, [l0, l1], [.long ((j1.toUInt64 >>> (i2.toInt64.toUInt64 &&& Int64.toUInt64 63)).toInt64), .long j0], h) Q := t_go k_253_3 rfl
theorem k_253_4 : lk 253 4 = some (.ldc2_w 314, 7, 0, 1114, .long 6148914691236517205) := by decide +kernel
theorem x_253_4 : Tr sc d 253 (4, [l0, l1], [.long j1, .long j0], h) Q = Tr sc d 253 (7, [l0, l1], [.long 6148914691236517205, .long j1, .long j0], h) Q := t_go k_253_4 rfl
theorem k_253_7 : lk 253 7 = some (.land, 8, 0, 0, .null) := by decide +kernel
theorem x_253_7 : Tr sc d 253 (7, [l0, l1], [.long j2, .long j1, .long j0], h) Q = Tr sc d 253 (8, [l0, l1], [.long (j1 &&& j2), .long j0], h) Q := t_go k_253_7 rfl
theorem k_253_8 : lk 253 8 = some (.lsub, 9, 0, 0, .null) := by decide +kernel
theorem x_253_8 : Tr sc d 253 (8, [l0, l1], [.long j1, .long j0], h) Q = Tr sc d 253 (9, [l0, l1], [.long (j0 - j1)], h) Q := t_go k_253_8 rfl
theorem k_253_9 : lk 253 9 = some (.lstore_n 0, 10, 0, 0, .null) := by decide +kernel
theorem x_253_9 : Tr sc d 253 (9, [l0, l1], [.long j0], h) Q = Tr sc d 253 (10, [some (.long j0), none], [], h) Q := t_lstore_n k_253_9 (Nat.le_of_ble_eq_true rfl)
theorem k_253_10 : lk 253 10 = some (.lload_n 0, 11, 0, 0, .null) := by decide +kernel
theorem x_253_10 : Tr sc d 253 (10, [some (.long xl), l1], [], h) Q = Tr sc d 253 (11, [some (.long xl), l1], [.long xl], h) Q := t_lload_n k_253_10 rfl
theorem k_253_11 : lk 253 11 = some (.ldc2_w 316, 14, 0, 1115, .long 3689348814741910323) := by decide +kernel
theorem x_253_11 : Tr sc d 253 (11, [l0, l1], [.long j0], h) Q = Tr sc d 253 (14, [l0, l1], [.long 3689348814741910323, .long j0], h) Q := t_go k_253_11 rfl
theorem k_253_14 : lk 253 14 = some (.land, 15, 0, 0, .null) := by decide +kernel
theorem x_253_14 : Tr sc d 253 (14, [l0, l1], [.long j1, .long j0], h) Q = Tr sc d 253 (15, [l0, l1], [.long (j0 &&& j1)], h) Q := t_go k_253_14 rfl
theorem k_253_15 : lk 253 15 = some (.lload_n 0, 16, 0, 0, .null) := by decide +kernel
theorem x_253_15 : Tr sc d 253 (15, [some (.long xl), l1], [.long j0], h) Q = Tr sc d 253 (16, [some (.long xl), l1], [.long xl, .long j0], h) Q := t_lload_n k_253_15 rfl
theorem k_253_16 : lk 253 16 = some (.iconst 2, 17, 0, 0, .int 2) := by decide +kernel
theorem x_253_16 : Tr sc d 253 (16, [l0, l1], [.long j1, .long j0], h) Q = Tr sc d 253 (17, [l0, l1], [.int 2, .long j1, .long j0], h) Q := t_go k_253_16 rfl
theorem k_253_17 : lk 253 17 = some (.lushr, 18, 0, 0, .null) := by decide +kernel
theorem x_253_17 : Tr sc d 253 (17, [l0, l1], [.int i2, .long j1, .long j0], h) Q = Tr sc d 253 (18, [l0, l1], [.long ((j1.toUInt64 >>> (i2.toInt64.toUInt64 &&& Int64.toUInt64 63)).toInt64), .long j0], h) Q := t_go k_253_17 rfl
theorem k_253_18 : lk 253 18 = some (.ldc2_w 316, 21, 0, 1115, .long 3689348814741910323) := by decide +kernel
theorem x_253_18 : Tr sc d 253 (18, [l0, l1], [.long j1, .long j0], h) Q = Tr sc d 253 (21, [l0, l1], [.long 3689348814741910323, .long j1, .long j0], h) Q := t_go k_253_18 rfl
theorem k_253_21 : lk 253 21 = some (.land, 22, 0, 0, .null) := by decide +kernel
theorem x_253_21 : Tr sc d 253 (21, [l0, l1], [.long j2, .long j1, .long j0], h) Q = Tr sc d 253 (22, [l0, l1], [.long (j1 &&& j2), .long j0], h) Q := t_go k_253_21 rfl
theorem k_253_22 : lk 253 22 = some (.ladd, 23, 0, 0, .null) := by decide +kernel
theorem x_253_22 : Tr sc d 253 (22, [l0, l1], [.long j1, .long j0], h) Q = Tr sc d 253 (23, [l0, l1], [.long (j0 + j1)], h) Q := t_go k_253_22 rfl
theorem k_253_23 : lk 253 23 = some (.lstore_n 0, 24, 0, 0, .null) := by decide +kernel
theorem x_253_23 : Tr sc d 253 (23, [l0, l1], [.long j0], h) Q = Tr sc d 253 (24, [some (.long j0), none], [], h) Q := t_lstore_n k_253_23 (Nat.le_of_ble_eq_true rfl)
theorem k_253_24 : lk 253 24 = some (.lload_n 0, 25, 0, 0, .null) := by decide +kernel
theorem x_253_24 : Tr sc d 253 (24, [some (.long xl), l1], [], h) Q = Tr sc d 253 (25, [some (.long xl), l1], [.long xl], h) Q := t_lload_n k_253_24 rfl
theorem k_253_25 : lk 253 25 = some (.lload_n 0, 26, 0, 0, .null) := by decide +kernel
theorem x_253_25 : Tr sc d 253 (25, [some (.long xl), l1], [.long j0], h) Q = Tr sc d 253 (26, [some (.long xl), l1], [.long xl, .long j0], h) Q := t_lload_n k_253_25 rfl
theorem k_253_26 : lk 253 26 = some (.iconst 4, 27, 0, 0, .int 4) := by decide +kernel
theorem x_253_26 : Tr sc d 253 (26, [l0, l1], [.long j1, .long j0], h) Q = Tr sc d 253 (27, [l0, l1], [.int 4, .long j1, .long j0], h) Q := t_go k_253_26 rfl
theorem k_253_27 : lk 253 27 = some (.lushr, 28, 0, 0, .null) := by decide +kernel
theorem x_253_27 : Tr sc d 253 (27, [l0, l1], [.int i2, .long j1, .long j0], h) Q = Tr sc d 253 (28, [l0, l1], [.long ((j1.toUInt64 >>> (i2.toInt64.toUInt64 &&& Int64.toUInt64 63)).toInt64), .long j0], h) Q := t_go k_253_27 rfl
theorem k_253_28 : lk 253 28 = some (.ladd, 29, 0, 0, .null) := by decide +kernel
theorem x_253_28 : Tr sc d 253 (28, [l0, l1], [.long j1, .long j0], h) Q = Tr sc d 253 (29, [l0, l1], [.long (j0 + j1)], h) Q := t_go k_253_28 rfl
theorem k_253_29 : lk 253 29 = some (.ldc2_w 318, 32, 0, 1116, .long 1085102592571150095) := by decide +kernel
theorem x_253_29 : Tr sc d 253 (29, [l0, l1], [.long j0], h) Q = Tr sc d 253 (32, [l0, l1], [.long 1085102592571150095, .long j0], h) Q := t_go k_253_29 rfl
theorem k_253_32 : lk 253 32 = some (.land, 33, 0, 0, .null) := by decide +kernel
theorem x_253_32 : Tr sc d 253 (32, [l0, l1], [.long j1, .long j0], h) Q = Tr sc d 253 (33, [l0, l1], [.long (j0 &&& j1)], h) Q := t_go k_253_32 rfl
theorem k_253_33 : lk 253 33 = some (.lstore_n 0, 34, 0, 0, .null) := by decide +kernel
theorem x_253_33 : Tr sc d 253 (33, [l0, l1], [.long j0], h) Q = Tr sc d 253 (34, [some (.long j0), none], [], h) Q := t_lstore_n k_253_33 (Nat.le_of_ble_eq_true rfl)
theorem k_253_34 : lk 253 34 = some (.lload_n 0, 35, 0, 0, .null) := by decide +kernel
theorem x_253_34 : Tr sc d 253 (34, [some (.long xl), l1], [], h) Q = Tr sc d 253 (35, [some (.long xl), l1], [.long xl], h) Q := t_lload_n k_253_34 rfl
theorem k_253_35 : lk 253 35 = some (.lload_n 0, 36, 0, 0, .null) := by decide +kernel
theorem x_253_35 : Tr sc d 253 (35, [some (.long xl), l1], [.long j0], h) Q = Tr sc d 253 (36, [some (.long xl), l1], [.long xl, .long j0], h) Q := t_lload_n k_253_35 rfl
theorem k_253_36 : lk 253 36 = some (.bipush 8, 38, 0, 0, .int 8) := by decide +kernel
theorem x_253_36 : Tr sc d 253 (36, [l0, l1], [.long j1, .long j0], h) Q = Tr sc d 253 (38, [l0, l1], [.int 8, .long j1, .long j0], h) Q := t_go k_253_36 rfl
theorem k_253_38 : lk 253 38 = some (.lushr, 39, 0, 0, .null) := by decide +kernel
theorem x_253_38 : Tr sc d 253 (38, [l0, l1], [.int i2, .long j1, .long j0], h) Q = Tr sc d 253 (39, [l0, l1], [.long ((j1.toUInt64 >>> (i2.toInt64.toUInt64 &&& Int64.toUInt64 63)).toInt64), .long j0], h) Q := t_go k_253_38 rfl
theorem k_253_39 : lk 253 39 = some (.ladd, 40, 0, 0, .null) := by decide +kernel
theorem x_253_39 : Tr sc d 253 (39, [l0, l1], [.long j1, .long j0], h) Q = Tr sc d 253 (40, [l0, l1], [.long (j0 + j1)], h) Q := t_go k_253_39 rfl
theorem k_253_40 : lk 253 40 = some (.lstore_n 0, 41, 0, 0, .null) := by decide +kernel
theorem x_253_40 : Tr sc d 253 (40, [l0, l1], [.long j0], h) Q = Tr sc d 253 (41, [some (.long j0), none], [], h) Q := t_lstore_n k_253_40 (Nat.le_of_ble_eq_true rfl)
theorem k_253_41 : lk 253 41 = some (.lload_n 0, 42, 0, 0, .null) := by decide +kernel
theorem x_253_41 : Tr sc d 253 (41, [some (.long xl), l1], [], h) Q = Tr sc d 253 (42, [some (.long xl), l1], [.long xl], h) Q := t_lload_n k_253_41 rfl
theorem k_253_42 : lk 253 42 = some (.lload_n 0, 43, 0, 0, .null) := by decide +kernel
theorem x_253_42 : Tr sc d 253 (42, [some (.long xl), l1], [.long j0], h) Q = Tr sc d 253 (43, [some (.long xl), l1], [.long xl, .long j0], h) Q := t_lload_n k_253_42 rfl
theorem k_253_43 : lk 253 43 = some (.bipush 16, 45, 0, 0, .int 16) := by decide +kernel
theorem x_253_43 : Tr sc d 253 (43, [l0, l1], [.long j1, .long j0], h) Q = Tr sc d 253 (45, [l0, l1], [.int 16, .long j1, .long j0], h) Q := t_go k_253_43 rfl
theorem k_253_45 : lk 253 45 = some (.lushr, 46, 0, 0, .null) := by decide +kernel
theorem x_253_45 : Tr sc d 253 (45, [l0, l1], [.int i2, .long j1, .long j0], h) Q = Tr sc d 253 (46, [l0, l1], [.long ((j1.toUInt64 >>> (i2.toInt64.toUInt64 &&& Int64.toUInt64 63)).toInt64), .long j0], h) Q := t_go k_253_45 rfl
theorem k_253_46 : lk 253 46 = some (.ladd, 47, 0, 0, .null) := by decide +kernel
theorem x_253_46 : Tr sc d 253 (46, [l0, l1], [.long j1, .long j0], h) Q = Tr sc d 253 (47, [l0, l1], [.long (j0 + j1)], h) Q := t_go k_253_46 rfl
theorem k_253_47 : lk 253 47 = some (.lstore_n 0, 48, 0, 0, .null) := by decide +kernel
theorem x_253_47 : Tr sc d 253 (47, [l0, l1], [.long j0], h) Q = Tr sc d 253 (48, [some (.long j0), none], [], h) Q := t_lstore_n k_253_47 (Nat.le_of_ble_eq_true rfl)
theorem k_253_48 : lk 253 48 = some (.lload_n 0, 49, 0, 0, .null) := by decide +kernel
theorem x_253_48 : Tr sc d 253 (48, [some (.long xl), l1], [], h) Q = Tr sc d 253 (49, [some (.long xl), l1], [.long xl], h) Q := t_lload_n k_253_48 rfl
theorem k_253_49 : lk 253 49 = some (.lload_n 0, 50, 0, 0, .null) := by decide +kernel
theorem x_253_49 : Tr sc d 253 (49, [some (.long xl), l1], [.long j0], h) Q = Tr sc d 253 (50, [some (.long xl), l1], [.long xl, .long j0], h) Q := t_lload_n k_253_49 rfl
theorem k_253_50 : lk 253 50 = some (.bipush 32, 52, 0, 0, .int 32) := by decide +kernel
theorem x_253_50 : Tr sc d 253 (50, [l0, l1], [.long j1, .long j0], h) Q = Tr sc d 253 (52, [l0, l1], [.int 32, .long j1, .long j0], h) Q := t_go k_253_50 rfl
theorem k_253_52 : lk 253 52 = some (.lushr, 53, 0, 0, .null) := by decide +kernel
theorem x_253_52 : Tr sc d 253 (52, [l0, l1], [.int i2, .long j1, .long j0], h) Q = Tr sc d 253 (53, [l0, l1], [.long ((j1.toUInt64 >>> (i2.toInt64.toUInt64 &&& Int64.toUInt64 63)).toInt64), .long j0], h) Q := t_go k_253_52 rfl
theorem k_253_53 : lk 253 53 = some (.ladd, 54, 0, 0, .null) := by decide +kernel
theorem x_253_53 : Tr sc d 253 (53, [l0, l1], [.long j1, .long j0], h) Q = Tr sc d 253 (54, [l0, l1], [.long (j0 + j1)], h) Q := t_go k_253_53 rfl
theorem k_253_54 : lk 253 54 = some (.lstore_n 0, 55, 0, 0, .null) := by decide +kernel
theorem x_253_54 : Tr sc d 253 (54, [l0, l1], [.long j0], h) Q = Tr sc d 253 (55, [some (.long j0), none], [], h) Q := t_lstore_n k_253_54 (Nat.le_of_ble_eq_true rfl)
theorem k_253_55 : lk 253 55 = some (.lload_n 0, 56, 0, 0, .null) := by decide +kernel
theorem x_253_55 : Tr sc d 253 (55, [some (.long xl), l1], [], h) Q = Tr sc d 253 (56, [some (.long xl), l1], [.long xl], h) Q := t_lload_n k_253_55 rfl
theorem k_253_56 : lk 253 56 = some (.l2i, 57, 0, 0, .null) := by decide +kernel
theorem x_253_56 : Tr sc d 253 (56, [l0, l1], [.long j0], h) Q = Tr sc d 253 (57, [l0, l1], [.int j0.toInt32], h) Q := t_go k_253_56 rfl
theorem k_253_57 : lk 253 57 = some (.bipush 127, 59, 0, 0, .int 127) := by decide +kernel
theorem x_253_57 : Tr sc d 253 (57, [l0, l1], [.int i0], h) Q = Tr sc d 253 (59, [l0, l1], [.int 127, .int i0], h) Q := t_go k_253_57 rfl
theorem k_253_59 : lk 253 59 = some (.iand, 60, 0, 0, .null) := by decide +kernel
theorem x_253_59 : Tr sc d 253 (59, [l0, l1], [.int i1, .int i0], h) Q = Tr sc d 253 (60, [l0, l1], [.int (i0 &&& i1)], h) Q := t_go k_253_59 rfl
theorem k_253_60 : lk 253 60 = some (.ireturn, 61, 0, 0, .null) := by decide +kernel
theorem x_253_60 : Tr sc d 253 (60, [l0, l1], [.int i0], h) Q = Q (some (.int i0), h) := t_ret k_253_60 (by rw [r_253]; rfl)
theorem e_253 : Tr sc d 253 (ent0 253 [.long j0] h) Q = Tr sc d 253 (0, [some (.long j0), none], [], h) Q := by
  have e : mL 253 = 2 := by decide +kernel
  unfold ent0
  rw [e]
  rfl
theorem r_254 : mR 254 = none := by decide +kernel
theorem k_254_0 : lk 254 0 = some (.iload_n 1, 1, 1, 0, .null) := by decide +kernel
theorem x_254_0 : Tr sc d 254 (0, [l0, some (.int x), l2], [], h) Q = Tr sc d 254 (1, [l0, some (.int x), l2], [.int x], h) Q := t_iload_n k_254_0 rfl
theorem k_254_1 : lk 254 1 = some (.iload_n 2, 2, 2, 0, .null) := by decide +kernel
theorem x_254_1 : Tr sc d 254 (1, [l0, l1, some (.int x)], [.int i0], h) Q = Tr sc d 254 (2, [l0, l1, some (.int x)], [.int x, .int i0], h) Q := t_iload_n k_254_1 rfl
theorem k_254_2 : lk 254 2 = some (.if_icmp .le 44, 5, 46, 0, .null) := by decide +kernel
theorem x_254_2 : Tr sc d 254 (2, [l0, l1, l2], [.int i1, .int i0], h) Q = if i0 ≤ i1 then Tr sc d 254 (46, [l0, l1, l2], [], h) Q else Tr sc d 254 (5, [l0, l1, l2], [], h) Q := t_if k_254_2 rfl
theorem k_254_46 : lk 254 46 = some (.iload_n 1, 47, 1, 0, .null) := by decide +kernel
theorem x_254_46 : Tr sc d 254 (46, [l0, some (.int x), l2], [], h) Q = Tr sc d 254 (47, [l0, some (.int x), l2], [.int x], h) Q := t_iload_n k_254_46 rfl
theorem k_254_47 : lk 254 47 = some (.ifCond .ge 12, 50, 59, 0, .null) := by decide +kernel
theorem x_254_47 : Tr sc d 254 (47, [l0, l1, l2], [.int i0], h) Q = if 0 ≤ i0 then Tr sc d 254 (59, [l0, l1, l2], [], h) Q else Tr sc d 254 (50, [l0, l1, l2], [], h) Q := t_if k_254_47 rfl
theorem k_254_59 : lk 254 59 = some (.iload_n 2, 60, 2, 0, .null) := by decide +kernel
theorem x_254_59 : Tr sc d 254 (59, [l0, l1, some (.int x)], [], h) Q = Tr sc d 254 (60, [l0, l1, some (.int x)], [.int x], h) Q := t_iload_n k_254_59 rfl
theorem k_254_60 : lk 254 60 = some (.iload_n 0, 61, 0, 0, .null) := by decide +kernel
theorem x_254_60 : Tr sc d 254 (60, [some (.int x), l1, l2], [.int i0], h) Q = Tr sc d 254 (61, [some (.int x), l1, l2], [.int x, .int i0], h) Q := t_iload_n k_254_60 rfl
theorem k_254_61 : lk 254 61 = some (.if_icmp .le 12, 64, 73, 0, .null) := by decide +kernel
theorem x_254_61 : Tr sc d 254 (61, [l0, l1, l2], [.int i1, .int i0], h) Q = if i0 ≤ i1 then Tr sc d 254 (73, [l0, l1, l2], [], h) Q else Tr sc d 254 (64, [l0, l1, l2], [], h) Q := t_if k_254_61 rfl
theorem k_254_73 : lk 254 73 = some (.return_, 74, 0, 0, .null) := by decide +kernel
theorem x_254_73 : Tr sc d 254 (73, [l0, l1, l2], [], h) Q = Q (none, h) := t_ret k_254_73 (by rw [r_254]; rfl)
theorem e_254 : Tr sc d 254 (ent0 254 [.int i0, .int i1, .int i2] h) Q = Tr sc d 254 (0, [some (.int i0), some (.int i1), some (.int i2)], [], h) Q := by
  have e : mL 254 = 3 := by decide +kernel
  unfold ent0
  rw [e]
  rfl
theorem r_255 : mR 255 = none := by decide +kernel
theorem k_255_0 : lk 255 0 = some (.iconst 0, 1, 0, 0, .int 0) := by decide +kernel
theorem x_255_0 : Tr sc d 255 (0, [l0, l1, l2, l3, l4], [], h) Q = Tr sc d 255 (1, [l0, l1, l2, l3, l4], [.int 0], h) Q := t_go k_255_0 rfl
theorem k_255_1 : lk 255 1 = some (.istore_n 3, 2, 3, 0, .null) := by decide +kernel
theorem x_255_1 : Tr sc d 255 (1, [l0, l1, l2, l3, l4], [.int i0], h) Q = Tr sc d 255 (2, [l0, l1, cl2 l2, some (.int i0), l4], [], h) Q := t_istore_n k_255_1 (Nat.le_of_ble_eq_true rfl)
theorem k_255_2 : lk 255 2 = some (.aload_n 0, 3, 0, 0, .null) := by decide +kernel
theorem x_255_2 : Tr sc d 255 (2, [some (.ref xk), l1, l2, l3, l4], [], h) Q = Tr sc d 255 (3, [some (.ref xk), l1, l2, l3, l4], [.ref xk], h) Q := t_aload_n k_255_2 rfl
theorem k_255_3 : lk 255 3 = some (.arraylength, 4, 0, 0, .null) := by decide +kernel
theorem x_255_3 (hk : k0 < 1000) : Tr sc d 255 (3, [l0, l1, l2, l3, l4], [.ref k0], h) Q = ((okp h k0 11 || (okp h k0 12 || (okp h k0 13 || (okp h k0 14 || okp h k0 15)))) = true ∧ Tr sc d 255 (4, [l0, l1, l2, l3, l4], [.int (Int32.ofNat (LN k0))], h) Q) := t_gd k_255_3 (if_pos hk)
theorem k_255_4 : lk 255 4 = some (.istore 4, 6, 4, 0, .null) := by decide +kernel
theorem x_255_4 : Tr sc d 255 (4, [l0, l1, l2, l3, l4], [.int i0], h) Q = Tr sc d 255 (6, [l0, l1, l2, cl2 l3, some (.int i0)], [], h) Q := t_istore k_255_4 (Nat.le_of_ble_eq_true rfl)
theorem k_255_6 : lk 255 6 = some (.iload_n 3, 7, 3, 0, .null) := by decide +kernel
theorem x_255_6 : Tr sc d 255 (6, [l0, l1, l2, some (.int x), l4], [], h) Q = Tr sc d 255 (7, [l0, l1, l2, some (.int x), l4], [.int x], h) Q := t_iload_n k_255_6 rfl
theorem k_255_7 : lk 255 7 = some (.iload 4, 9, 4, 0, .null) := by decide +kernel
theorem x_255_7 : Tr sc d 255 (7, [l0, l1, l2, l3, some (.int x)], [.int i0], h) Q = Tr sc d 255 (9, [l0, l1, l2, l3, some (.int x)], [.int x, .int i0], h) Q := t_iload k_255_7 rfl
theorem k_255_9 : lk 255 9 = some (.if_icmp .ge 13, 12, 22, 0, .null) := by decide +kernel
theorem x_255_9 : Tr sc d 255 (9, [l0, l1, l2, l3, l4], [.int i1, .int i0], h) Q = if i1 ≤ i0 then Tr sc d 255 (22, [l0, l1, l2, l3, l4], [], h) Q else Tr sc d 255 (12, [l0, l1, l2, l3, l4], [], h) Q := t_if k_255_9 rfl
theorem k_255_12 : lk 255 12 = some (.aload_n 0, 13, 0, 0, .null) := by decide +kernel
theorem x_255_12 : Tr sc d 255 (12, [some (.ref xk), l1, l2, l3, l4], [], h) Q = Tr sc d 255 (13, [some (.ref xk), l1, l2, l3, l4], [.ref xk], h) Q := t_aload_n k_255_12 rfl
theorem k_255_13 : lk 255 13 = some (.iload_n 3, 14, 3, 0, .null) := by decide +kernel
theorem x_255_13 : Tr sc d 255 (13, [l0, l1, l2, some (.int x), l4], [.ref k0], h) Q = Tr sc d 255 (14, [l0, l1, l2, some (.int x), l4], [.int x, .ref k0], h) Q := t_iload_n k_255_13 rfl
theorem k_255_14 : lk 255 14 = some (.lload_n 1, 15, 1, 0, .null) := by decide +kernel
theorem x_255_14 : Tr sc d 255 (14, [l0, some (.long xl), l2, l3, l4], [.int i1, .ref k0], h) Q = Tr sc d 255 (15, [l0, some (.long xl), l2, l3, l4], [.long xl, .int i1, .ref k0], h) Q := t_lload_n k_255_14 rfl
theorem k_255_15 : lk 255 15 = some (.lastore, 16, 0, 0, .null) := by decide +kernel
theorem x_255_15 : Tr sc d 255 (15, [l0, l1, l2, l3, l4], [.long j2, .int i1, .ref k0], h) Q = ((okp h k0 12 && inb i1 (LN k0)) = true ∧ Tr sc d 255 (16, [l0, l1, l2, l3, l4], [], (sL h k0 i1.toNatClampNeg j2)) Q) := t_gd k_255_15 rfl
theorem k_255_16 : lk 255 16 = some (.iinc 3 1, 19, 3, 0, .int 1) := by decide +kernel
theorem x_255_16 : Tr sc d 255 (16, [l0, l1, l2, some (.int x), l4], [], h) Q = Tr sc d 255 (19, [l0, l1, cl2 l2, some (.int (x + 1)), l4], [], h) Q := t_inc k_255_16 rfl (Nat.le_of_ble_eq_true rfl)
theorem k_255_19 : lk 255 19 = some (.goto (-13), 22, 6, 0, .null) := by decide +kernel
theorem x_255_19 : Tr sc d 255 (19, [l0, l1, l2, l3, l4], [], h) Q = Tr sc d 255 (6, [l0, l1, l2, l3, l4], [], h) Q := t_go k_255_19 rfl
theorem k_255_22 : lk 255 22 = some (.return_, 23, 0, 0, .null) := by decide +kernel
theorem x_255_22 : Tr sc d 255 (22, [l0, l1, l2, l3, l4], [], h) Q = Q (none, h) := t_ret k_255_22 (by rw [r_255]; rfl)
theorem e_255 : Tr sc d 255 (ent0 255 [.ref k0, .long j1] h) Q = Tr sc d 255 (0, [some (.ref k0), some (.long j1), none, none, none], [], h) Q := by
  have e : mL 255 = 5 := by decide +kernel
  unfold ent0
  rw [e]
  rfl
theorem r_256 : mR 256 = none := by decide +kernel
theorem k_256_0 : lk 256 0 = some (.aload_n 0, 1, 0, 0, .null) := by decide +kernel
theorem x_256_0 : Tr sc d 256 (0, [some (.ref xk), l1, l2, l3, l4, l5], [], h) Q = Tr sc d 256 (1, [some (.ref xk), l1, l2, l3, l4, l5], [.ref xk], h) Q := t_aload_n k_256_0 rfl
theorem k_256_1 : lk 256 1 = some (.arraylength, 2, 0, 0, .null) := by decide +kernel
theorem x_256_1 (hk : k0 < 1000) : Tr sc d 256 (1, [l0, l1, l2, l3, l4, l5], [.ref k0], h) Q = ((okp h k0 11 || (okp h k0 12 || (okp h k0 13 || (okp h k0 14 || okp h k0 15)))) = true ∧ Tr sc d 256 (2, [l0, l1, l2, l3, l4, l5], [.int (Int32.ofNat (LN k0))], h) Q) := t_gd k_256_1 (if_pos hk)
theorem k_256_2 : lk 256 2 = some (.iload_n 1, 3, 1, 0, .null) := by decide +kernel
theorem x_256_2 : Tr sc d 256 (2, [l0, some (.int x), l2, l3, l4, l5], [.int i0], h) Q = Tr sc d 256 (3, [l0, some (.int x), l2, l3, l4, l5], [.int x, .int i0], h) Q := t_iload_n k_256_2 rfl
theorem k_256_3 : lk 256 3 = some (.iload_n 2, 4, 2, 0, .null) := by decide +kernel
theorem x_256_3 : Tr sc d 256 (3, [l0, l1, some (.int x), l3, l4, l5], [.int i1, .int i0], h) Q = Tr sc d 256 (4, [l0, l1, some (.int x), l3, l4, l5], [.int x, .int i1, .int i0], h) Q := t_iload_n k_256_3 rfl
theorem k_256_4 : lk 256 4 = some (.invokestatic 13, 7, 254, 3, .null) := by decide +kernel
theorem x_256_4 : Tr sc (d + 1) 256 (4, [l0, l1, l2, l3, l4, l5], [.int i2, .int i1, .int i0], h) Q = Tr sc d 254 (ent0 254 [.int i0, .int i1, .int i2] h) (fun z => Tr sc (d + 1) 256 (7, [l0, l1, l2, l3, l4, l5], z.1.toList ++ [], z.2) Q) := t_cs (as := [.int i0, .int i1, .int i2]) (r := []) k_256_4 (by decide) rfl rfl (Nat.le_of_ble_eq_true rfl) (Nat.le_of_ble_eq_true rfl)
theorem k_256_7 : lk 256 7 = some (.iload_n 1, 8, 1, 0, .null) := by decide +kernel
theorem x_256_7 : Tr sc d 256 (7, [l0, some (.int x), l2, l3, l4, l5], [], h) Q = Tr sc d 256 (8, [l0, some (.int x), l2, l3, l4, l5], [.int x], h) Q := t_iload_n k_256_7 rfl
theorem k_256_8 : lk 256 8 = some (.istore 5, 10, 5, 0, .null) := by decide +kernel
theorem x_256_8 : Tr sc d 256 (8, [l0, l1, l2, l3, l4, l5], [.int i0], h) Q = Tr sc d 256 (10, [l0, l1, l2, l3, cl2 l4, some (.int i0)], [], h) Q := t_istore k_256_8 (Nat.le_of_ble_eq_true rfl)
theorem k_256_10 : lk 256 10 = some (.iload 5, 12, 5, 0, .null) := by decide +kernel
theorem x_256_10 : Tr sc d 256 (10, [l0, l1, l2, l3, l4, some (.int x)], [], h) Q = Tr sc d 256 (12, [l0, l1, l2, l3, l4, some (.int x)], [.int x], h) Q := t_iload k_256_10 rfl
theorem k_256_12 : lk 256 12 = some (.iload_n 2, 13, 2, 0, .null) := by decide +kernel
theorem x_256_12 : Tr sc d 256 (12, [l0, l1, some (.int x), l3, l4, l5], [.int i0], h) Q = Tr sc d 256 (13, [l0, l1, some (.int x), l3, l4, l5], [.int x, .int i0], h) Q := t_iload_n k_256_12 rfl
theorem k_256_13 : lk 256 13 = some (.if_icmp .ge 14, 16, 27, 0, .null) := by decide +kernel
theorem x_256_13 : Tr sc d 256 (13, [l0, l1, l2, l3, l4, l5], [.int i1, .int i0], h) Q = if i1 ≤ i0 then Tr sc d 256 (27, [l0, l1, l2, l3, l4, l5], [], h) Q else Tr sc d 256 (16, [l0, l1, l2, l3, l4, l5], [], h) Q := t_if k_256_13 rfl
theorem k_256_16 : lk 256 16 = some (.aload_n 0, 17, 0, 0, .null) := by decide +kernel
theorem x_256_16 : Tr sc d 256 (16, [some (.ref xk), l1, l2, l3, l4, l5], [], h) Q = Tr sc d 256 (17, [some (.ref xk), l1, l2, l3, l4, l5], [.ref xk], h) Q := t_aload_n k_256_16 rfl
theorem k_256_17 : lk 256 17 = some (.iload 5, 19, 5, 0, .null) := by decide +kernel
theorem x_256_17 : Tr sc d 256 (17, [l0, l1, l2, l3, l4, some (.int x)], [.ref k0], h) Q = Tr sc d 256 (19, [l0, l1, l2, l3, l4, some (.int x)], [.int x, .ref k0], h) Q := t_iload k_256_17 rfl
theorem k_256_19 : lk 256 19 = some (.lload_n 3, 20, 3, 0, .null) := by decide +kernel
theorem x_256_19 : Tr sc d 256 (19, [l0, l1, l2, some (.long xl), l4, l5], [.int i1, .ref k0], h) Q = Tr sc d 256 (20, [l0, l1, l2, some (.long xl), l4, l5], [.long xl, .int i1, .ref k0], h) Q := t_lload_n k_256_19 rfl
theorem k_256_20 : lk 256 20 = some (.lastore, 21, 0, 0, .null) := by decide +kernel
theorem x_256_20 : Tr sc d 256 (20, [l0, l1, l2, l3, l4, l5], [.long j2, .int i1, .ref k0], h) Q = ((okp h k0 12 && inb i1 (LN k0)) = true ∧ Tr sc d 256 (21, [l0, l1, l2, l3, l4, l5], [], (sL h k0 i1.toNatClampNeg j2)) Q) := t_gd k_256_20 rfl
theorem k_256_21 : lk 256 21 = some (.iinc 5 1, 24, 5, 0, .int 1) := by decide +kernel
theorem x_256_21 : Tr sc d 256 (21, [l0, l1, l2, l3, l4, some (.int x)], [], h) Q = Tr sc d 256 (24, [l0, l1, l2, l3, cl2 l4, some (.int (x + 1))], [], h) Q := t_inc k_256_21 rfl (Nat.le_of_ble_eq_true rfl)
theorem k_256_24 : lk 256 24 = some (.goto (-14), 27, 10, 0, .null) := by decide +kernel
theorem x_256_24 : Tr sc d 256 (24, [l0, l1, l2, l3, l4, l5], [], h) Q = Tr sc d 256 (10, [l0, l1, l2, l3, l4, l5], [], h) Q := t_go k_256_24 rfl
theorem k_256_27 : lk 256 27 = some (.return_, 28, 0, 0, .null) := by decide +kernel
theorem x_256_27 : Tr sc d 256 (27, [l0, l1, l2, l3, l4, l5], [], h) Q = Q (none, h) := t_ret k_256_27 (by rw [r_256]; rfl)
theorem e_256 : Tr sc d 256 (ent0 256 [.ref k0, .int i1, .int i2, .long j3] h) Q = Tr sc d 256 (0, [some (.ref k0), some (.int i1), some (.int i2), some (.long j3), none, none], [], h) Q := by
  have e : mL 256 = 6 := by decide +kernel
  unfold ent0
  rw [e]
  rfl
theorem r_257 : mR 257 = none := by decide +kernel
theorem k_257_0 : lk 257 0 = some (.iconst 0, 1, 0, 0, .int 0) := by decide +kernel
theorem x_257_0 : Tr sc d 257 (0, [l0, l1, l2, l3], [], h) Q = Tr sc d 257 (1, [l0, l1, l2, l3], [.int 0], h) Q := t_go k_257_0 rfl
theorem k_257_1 : lk 257 1 = some (.istore_n 2, 2, 2, 0, .null) := by decide +kernel
theorem x_257_1 : Tr sc d 257 (1, [l0, l1, l2, l3], [.int i0], h) Q = Tr sc d 257 (2, [l0, cl2 l1, some (.int i0), l3], [], h) Q := t_istore_n k_257_1 (Nat.le_of_ble_eq_true rfl)
theorem k_257_2 : lk 257 2 = some (.aload_n 0, 3, 0, 0, .null) := by decide +kernel
theorem x_257_2 : Tr sc d 257 (2, [some (.ref xk), l1, l2, l3], [], h) Q = Tr sc d 257 (3, [some (.ref xk), l1, l2, l3], [.ref xk], h) Q := t_aload_n k_257_2 rfl
theorem k_257_3 : lk 257 3 = some (.arraylength, 4, 0, 0, .null) := by decide +kernel
theorem x_257_3 (hk : k0 < 1000) : Tr sc d 257 (3, [l0, l1, l2, l3], [.ref k0], h) Q = ((okp h k0 11 || (okp h k0 12 || (okp h k0 13 || (okp h k0 14 || okp h k0 15)))) = true ∧ Tr sc d 257 (4, [l0, l1, l2, l3], [.int (Int32.ofNat (LN k0))], h) Q) := t_gd k_257_3 (if_pos hk)
theorem k_257_4 : lk 257 4 = some (.istore_n 3, 5, 3, 0, .null) := by decide +kernel
theorem x_257_4 : Tr sc d 257 (4, [l0, l1, l2, l3], [.int i0], h) Q = Tr sc d 257 (5, [l0, l1, cl2 l2, some (.int i0)], [], h) Q := t_istore_n k_257_4 (Nat.le_of_ble_eq_true rfl)
theorem k_257_5 : lk 257 5 = some (.iload_n 2, 6, 2, 0, .null) := by decide +kernel
theorem x_257_5 : Tr sc d 257 (5, [l0, l1, some (.int x), l3], [], h) Q = Tr sc d 257 (6, [l0, l1, some (.int x), l3], [.int x], h) Q := t_iload_n k_257_5 rfl
theorem k_257_6 : lk 257 6 = some (.iload_n 3, 7, 3, 0, .null) := by decide +kernel
theorem x_257_6 : Tr sc d 257 (6, [l0, l1, l2, some (.int x)], [.int i0], h) Q = Tr sc d 257 (7, [l0, l1, l2, some (.int x)], [.int x, .int i0], h) Q := t_iload_n k_257_6 rfl
theorem k_257_7 : lk 257 7 = some (.if_icmp .ge 13, 10, 20, 0, .null) := by decide +kernel
theorem x_257_7 : Tr sc d 257 (7, [l0, l1, l2, l3], [.int i1, .int i0], h) Q = if i1 ≤ i0 then Tr sc d 257 (20, [l0, l1, l2, l3], [], h) Q else Tr sc d 257 (10, [l0, l1, l2, l3], [], h) Q := t_if k_257_7 rfl
theorem k_257_10 : lk 257 10 = some (.aload_n 0, 11, 0, 0, .null) := by decide +kernel
theorem x_257_10 : Tr sc d 257 (10, [some (.ref xk), l1, l2, l3], [], h) Q = Tr sc d 257 (11, [some (.ref xk), l1, l2, l3], [.ref xk], h) Q := t_aload_n k_257_10 rfl
theorem k_257_11 : lk 257 11 = some (.iload_n 2, 12, 2, 0, .null) := by decide +kernel
theorem x_257_11 : Tr sc d 257 (11, [l0, l1, some (.int x), l3], [.ref k0], h) Q = Tr sc d 257 (12, [l0, l1, some (.int x), l3], [.int x, .ref k0], h) Q := t_iload_n k_257_11 rfl
theorem k_257_12 : lk 257 12 = some (.iload_n 1, 13, 1, 0, .null) := by decide +kernel
theorem x_257_12 : Tr sc d 257 (12, [l0, some (.int x), l2, l3], [.int i1, .ref k0], h) Q = Tr sc d 257 (13, [l0, some (.int x), l2, l3], [.int x, .int i1, .ref k0], h) Q := t_iload_n k_257_12 rfl
theorem k_257_13 : lk 257 13 = some (.iastore, 14, 0, 0, .null) := by decide +kernel
theorem x_257_13 : Tr sc d 257 (13, [l0, l1, l2, l3], [.int i2, .int i1, .ref k0], h) Q = ((okp h k0 11 && inb i1 (LN k0)) = true ∧ Tr sc d 257 (14, [l0, l1, l2, l3], [], (sI h k0 i1.toNatClampNeg i2)) Q) := t_gd k_257_13 rfl
theorem k_257_14 : lk 257 14 = some (.iinc 2 1, 17, 2, 0, .int 1) := by decide +kernel
theorem x_257_14 : Tr sc d 257 (14, [l0, l1, some (.int x), l3], [], h) Q = Tr sc d 257 (17, [l0, cl2 l1, some (.int (x + 1)), l3], [], h) Q := t_inc k_257_14 rfl (Nat.le_of_ble_eq_true rfl)
theorem k_257_17 : lk 257 17 = some (.goto (-12), 20, 5, 0, .null) := by decide +kernel
theorem x_257_17 : Tr sc d 257 (17, [l0, l1, l2, l3], [], h) Q = Tr sc d 257 (5, [l0, l1, l2, l3], [], h) Q := t_go k_257_17 rfl
theorem k_257_20 : lk 257 20 = some (.return_, 21, 0, 0, .null) := by decide +kernel
theorem x_257_20 : Tr sc d 257 (20, [l0, l1, l2, l3], [], h) Q = Q (none, h) := t_ret k_257_20 (by rw [r_257]; rfl)
theorem e_257 : Tr sc d 257 (ent0 257 [.ref k0, .int i1] h) Q = Tr sc d 257 (0, [some (.ref k0), some (.int i1), none, none], [], h) Q := by
  have e : mL 257 = 4 := by decide +kernel
  unfold ent0
  rw [e]
  rfl
theorem r_258 : mR 258 = none := by decide +kernel
theorem k_258_0 : lk 258 0 = some (.aload_n 0, 1, 0, 0, .null) := by decide +kernel
theorem x_258_0 : Tr sc d 258 (0, [some (.ref xk), l1, l2, l3, l4], [], h) Q = Tr sc d 258 (1, [some (.ref xk), l1, l2, l3, l4], [.ref xk], h) Q := t_aload_n k_258_0 rfl
theorem k_258_1 : lk 258 1 = some (.arraylength, 2, 0, 0, .null) := by decide +kernel
theorem x_258_1 (hk : k0 < 1000) : Tr sc d 258 (1, [l0, l1, l2, l3, l4], [.ref k0], h) Q = ((okp h k0 11 || (okp h k0 12 || (okp h k0 13 || (okp h k0 14 || okp h k0 15)))) = true ∧ Tr sc d 258 (2, [l0, l1, l2, l3, l4], [.int (Int32.ofNat (LN k0))], h) Q) := t_gd k_258_1 (if_pos hk)
theorem k_258_2 : lk 258 2 = some (.iload_n 1, 3, 1, 0, .null) := by decide +kernel
theorem x_258_2 : Tr sc d 258 (2, [l0, some (.int x), l2, l3, l4], [.int i0], h) Q = Tr sc d 258 (3, [l0, some (.int x), l2, l3, l4], [.int x, .int i0], h) Q := t_iload_n k_258_2 rfl
theorem k_258_3 : lk 258 3 = some (.iload_n 2, 4, 2, 0, .null) := by decide +kernel
theorem x_258_3 : Tr sc d 258 (3, [l0, l1, some (.int x), l3, l4], [.int i1, .int i0], h) Q = Tr sc d 258 (4, [l0, l1, some (.int x), l3, l4], [.int x, .int i1, .int i0], h) Q := t_iload_n k_258_3 rfl
theorem k_258_4 : lk 258 4 = some (.invokestatic 13, 7, 254, 3, .null) := by decide +kernel
theorem x_258_4 : Tr sc (d + 1) 258 (4, [l0, l1, l2, l3, l4], [.int i2, .int i1, .int i0], h) Q = Tr sc d 254 (ent0 254 [.int i0, .int i1, .int i2] h) (fun z => Tr sc (d + 1) 258 (7, [l0, l1, l2, l3, l4], z.1.toList ++ [], z.2) Q) := t_cs (as := [.int i0, .int i1, .int i2]) (r := []) k_258_4 (by decide) rfl rfl (Nat.le_of_ble_eq_true rfl) (Nat.le_of_ble_eq_true rfl)
theorem k_258_7 : lk 258 7 = some (.iload_n 1, 8, 1, 0, .null) := by decide +kernel
theorem x_258_7 : Tr sc d 258 (7, [l0, some (.int x), l2, l3, l4], [], h) Q = Tr sc d 258 (8, [l0, some (.int x), l2, l3, l4], [.int x], h) Q := t_iload_n k_258_7 rfl
theorem k_258_8 : lk 258 8 = some (.istore 4, 10, 4, 0, .null) := by decide +kernel
theorem x_258_8 : Tr sc d 258 (8, [l0, l1, l2, l3, l4], [.int i0], h) Q = Tr sc d 258 (10, [l0, l1, l2, cl2 l3, some (.int i0)], [], h) Q := t_istore k_258_8 (Nat.le_of_ble_eq_true rfl)
theorem k_258_10 : lk 258 10 = some (.iload 4, 12, 4, 0, .null) := by decide +kernel
theorem x_258_10 : Tr sc d 258 (10, [l0, l1, l2, l3, some (.int x)], [], h) Q = Tr sc d 258 (12, [l0, l1, l2, l3, some (.int x)], [.int x], h) Q := t_iload k_258_10 rfl
theorem k_258_12 : lk 258 12 = some (.iload_n 2, 13, 2, 0, .null) := by decide +kernel
theorem x_258_12 : Tr sc d 258 (12, [l0, l1, some (.int x), l3, l4], [.int i0], h) Q = Tr sc d 258 (13, [l0, l1, some (.int x), l3, l4], [.int x, .int i0], h) Q := t_iload_n k_258_12 rfl
theorem k_258_13 : lk 258 13 = some (.if_icmp .ge 14, 16, 27, 0, .null) := by decide +kernel
theorem x_258_13 : Tr sc d 258 (13, [l0, l1, l2, l3, l4], [.int i1, .int i0], h) Q = if i1 ≤ i0 then Tr sc d 258 (27, [l0, l1, l2, l3, l4], [], h) Q else Tr sc d 258 (16, [l0, l1, l2, l3, l4], [], h) Q := t_if k_258_13 rfl
theorem k_258_16 : lk 258 16 = some (.aload_n 0, 17, 0, 0, .null) := by decide +kernel
theorem x_258_16 : Tr sc d 258 (16, [some (.ref xk), l1, l2, l3, l4], [], h) Q = Tr sc d 258 (17, [some (.ref xk), l1, l2, l3, l4], [.ref xk], h) Q := t_aload_n k_258_16 rfl
theorem k_258_17 : lk 258 17 = some (.iload 4, 19, 4, 0, .null) := by decide +kernel
theorem x_258_17 : Tr sc d 258 (17, [l0, l1, l2, l3, some (.int x)], [.ref k0], h) Q = Tr sc d 258 (19, [l0, l1, l2, l3, some (.int x)], [.int x, .ref k0], h) Q := t_iload k_258_17 rfl
theorem k_258_19 : lk 258 19 = some (.iload_n 3, 20, 3, 0, .null) := by decide +kernel
theorem x_258_19 : Tr sc d 258 (19, [l0, l1, l2, some (.int x), l4], [.int i1, .ref k0], h) Q = Tr sc d 258 (20, [l0, l1, l2, some (.int x), l4], [.int x, .int i1, .ref k0], h) Q := t_iload_n k_258_19 rfl
theorem k_258_20 : lk 258 20 = some (.iastore, 21, 0, 0, .null) := by decide +kernel
theorem x_258_20 : Tr sc d 258 (20, [l0, l1, l2, l3, l4], [.int i2, .int i1, .ref k0], h) Q = ((okp h k0 11 && inb i1 (LN k0)) = true ∧ Tr sc d 258 (21, [l0, l1, l2, l3, l4], [], (sI h k0 i1.toNatClampNeg i2)) Q) := t_gd k_258_20 rfl
theorem k_258_21 : lk 258 21 = some (.iinc 4 1, 24, 4, 0, .int 1) := by decide +kernel
theorem x_258_21 : Tr sc d 258 (21, [l0, l1, l2, l3, some (.int x)], [], h) Q = Tr sc d 258 (24, [l0, l1, l2, cl2 l3, some (.int (x + 1))], [], h) Q := t_inc k_258_21 rfl (Nat.le_of_ble_eq_true rfl)
theorem k_258_24 : lk 258 24 = some (.goto (-14), 27, 10, 0, .null) := by decide +kernel
theorem x_258_24 : Tr sc d 258 (24, [l0, l1, l2, l3, l4], [], h) Q = Tr sc d 258 (10, [l0, l1, l2, l3, l4], [], h) Q := t_go k_258_24 rfl
theorem k_258_27 : lk 258 27 = some (.return_, 28, 0, 0, .null) := by decide +kernel
theorem x_258_27 : Tr sc d 258 (27, [l0, l1, l2, l3, l4], [], h) Q = Q (none, h) := t_ret k_258_27 (by rw [r_258]; rfl)
theorem e_258 : Tr sc d 258 (ent0 258 [.ref k0, .int i1, .int i2, .int i3] h) Q = Tr sc d 258 (0, [some (.ref k0), some (.int i1), some (.int i2), some (.int i3), none], [], h) Q := by
  have e : mL 258 = 5 := by decide +kernel
  unfold ent0
  rw [e]
  rfl
end XX
