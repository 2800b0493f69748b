section XX
variable {sc : Nat × (Nat → Int32)} {d : Nat} {Q : PRes → Prop} {h : PH} {l0 l1 l2 l3 l4 l5 l6 l7 l8 l9 l10 l11 l12 l13 l14 l15 l16 l17 l18 l19 l20 l21 l22 l23 l24 l25 l26 l27 : Option Value} {x i0 i1 i2 i3 i4 i5 i6 i7 i8 i9 i10 i11 : Int32} {xl j0 j1 j2 j3 j4 j5 j6 j7 j8 j9 j10 j11 : Int64} {xk k0 k1 k2 k3 k4 k5 k6 k7 k8 k9 k10 k11 : Nat}
theorem r_206 : mR 206 = some .int := by decide +kernel
theorem k_206_0 : lk 206 0 = some (.iload_n 2, 1, 2, 0, .null) := by decide +kernel
theorem x_206_0 : Tr sc d 206 (0, [l0, l1, some (.int x), l3], [], h) Q = Tr sc d 206 (1, [l0, l1, some (.int x), l3], [.int x], h) Q := t_iload_n k_206_0 rfl
theorem k_206_1 : lk 206 1 = some (.iconst 0, 2, 0, 0, .int 0) := by decide +kernel
theorem x_206_1 : Tr sc d 206 (1, [l0, l1, l2, l3], [.int i0], h) Q = Tr sc d 206 (2, [l0, l1, l2, l3], [.int 0, .int i0], h) Q := t_go k_206_1 rfl
theorem k_206_2 : lk 206 2 = some (.iload_n 3, 3, 3, 0, .null) := by decide +kernel
theorem x_206_2 : Tr sc d 206 (2, [l0, l1, l2, some (.int x)], [.int i1, .int i0], h) Q = Tr sc d 206 (3, [l0, l1, l2, some (.int x)], [.int x, .int i1, .int i0], h) Q := t_iload_n k_206_2 rfl
theorem k_206_3 : lk 206 3 = some (.invokestatic 144, 6, 157, 3, .null) := by decide +kernel
theorem x_206_3 : Tr sc (d + 1) 206 (3, [l0, l1, l2, l3], [.int i2, .int i1, .int i0], h) Q = Tr sc d 157 (ent0 157 [.int i0, .int i1, .int i2] h) (fun z => Tr sc (d + 1) 206 (6, [l0, l1, l2, l3], z.1.toList ++ [], z.2) Q) := t_cs (as := [.int i0, .int i1, .int i2]) (r := []) k_206_3 (by decide) rfl rfl (Nat.le_of_ble_eq_true rfl) (Nat.le_of_ble_eq_true rfl)
theorem k_206_6 : lk 206 6 = some (.ifCond .ne 7, 9, 13, 0, .null) := by decide +kernel
theorem x_206_6 : Tr sc d 206 (6, [l0, l1, l2, l3], [.int i0], h) Q = if i0 = 0 then Tr sc d 206 (9, [l0, l1, l2, l3], [], h) Q else Tr sc d 206 (13, [l0, l1, l2, l3], [], h) Q := t_if k_206_6 rfl
theorem k_206_9 : lk 206 9 = some (.iconst (-1), 10, 0, 0, .int (-1)) := by decide +kernel
theorem x_206_9 : Tr sc d 206 (9, [l0, l1, l2, l3], [], h) Q = Tr sc d 206 (10, [l0, l1, l2, l3], [.int (-1)], h) Q := t_go k_206_9 rfl
theorem k_206_10 : lk 206 10 = some (.goto 8, 13, 18, 0, .null) := by decide +kernel
theorem x_206_10 : Tr sc d 206 (10, [l0, l1, l2, l3], [.int i0], h) Q = Tr sc d 206 (18, [l0, l1, l2, l3], [.int i0], h) Q := t_go k_206_10 rfl
theorem k_206_13 : lk 206 13 = some (.aload_n 0, 14, 0, 0, .null) := by decide +kernel
theorem x_206_13 : Tr sc d 206 (13, [some (.ref xk), l1, l2, l3], [], h) Q = Tr sc d 206 (14, [some (.ref xk), l1, l2, l3], [.ref xk], h) Q := t_aload_n k_206_13 rfl
theorem k_206_14 : lk 206 14 = some (.iload_n 1, 15, 1, 0, .null) := by decide +kernel
theorem x_206_14 : Tr sc d 206 (14, [l0, some (.int x), l2, l3], [.ref k0], h) Q = Tr sc d 206 (15, [l0, some (.int x), l2, l3], [.int x, .ref k0], h) Q := t_iload_n k_206_14 rfl
theorem k_206_15 : lk 206 15 = some (.invokevirtual 220, 18, 177, 1, .null) := by decide +kernel
theorem x_206_15 : Tr sc (d + 1) 206 (15, [l0, l1, l2, l3], [.int i1, .ref k0], h) Q = (okp h k0 10 = true ∧ Tr sc d 177 (ent0 177 [.ref k0, .int i1] h) (fun z => Tr sc (d + 1) 206 (18, [l0, l1, l2, l3], z.1.toList ++ [], z.2) Q)) := t_cv (as := [.int i1]) (r := []) k_206_15 rfl rfl (Nat.le_of_ble_eq_true rfl) (Nat.le_of_ble_eq_true rfl) (Nat.le_of_ble_eq_true rfl)
theorem k_206_18 : lk 206 18 = some (.ireturn, 19, 0, 0, .null) := by decide +kernel
theorem x_206_18 : Tr sc d 206 (18, [l0, l1, l2, l3], [.int i0], h) Q = Q (some (.int i0), h) := t_ret k_206_18 (by rw [r_206]; rfl)
theorem e_206 : Tr sc d 206 (ent0 206 [.ref k0, .int i1, .int i2, .int i3] h) Q = Tr sc d 206 (0, [some (.ref k0), some (.int i1), some (.int i2), some (.int i3)], [], h) Q := by
  have e : mL 206 = 4 := by decide +kernel
  unfold ent0
  rw [e]
  rfl
theorem r_207 : mR 207 = some .int := by decide +kernel
theorem k_207_0 : lk 207 0 = some (.aload_n 0, 1, 0, 0, .null) := by decide +kernel
theorem x_207_0 : Tr sc d 207 (0, [some (.ref xk), l1, l2, l3], [], h) Q = Tr sc d 207 (1, [some (.ref xk), l1, l2, l3], [.ref xk], h) Q := t_aload_n k_207_0 rfl
theorem k_207_1 : lk 207 1 = some (.iload_n 1, 2, 1, 0, .null) := by decide +kernel
theorem x_207_1 : Tr sc d 207 (1, [l0, some (.int x), l2, l3], [.ref k0], h) Q = Tr sc d 207 (2, [l0, some (.int x), l2, l3], [.int x, .ref k0], h) Q := t_iload_n k_207_1 rfl
theorem k_207_2 : lk 207 2 = some (.iload_n 2, 3, 2, 0, .null) := by decide +kernel
theorem x_207_2 : Tr sc d 207 (2, [l0, l1, some (.int x), l3], [.int i1, .ref k0], h) Q = Tr sc d 207 (3, [l0, l1, some (.int x), l3], [.int x, .int i1, .ref k0], h) Q := t_iload_n k_207_2 rfl
theorem k_207_3 : lk 207 3 = some (.iconst 5, 4, 0, 0, .int 5) := by decide +kernel
theorem x_207_3 : Tr sc d 207 (3, [l0, l1, l2, l3], [.int i2, .int i1, .ref k0], h) Q = Tr sc d 207 (4, [l0, l1, l2, l3], [.int 5, .int i2, .int i1, .ref k0], h) Q := t_go k_207_3 rfl
theorem k_207_4 : lk 207 4 = some (.invokevirtual 304, 7, 206, 3, .null) := by decide +kernel
theorem x_207_4 : Tr sc (d + 1) 207 (4, [l0, l1, l2, l3], [.int i3, .int i2, .int i1, .ref k0], h) Q = (okp h k0 10 = true ∧ Tr sc d 206 (ent0 206 [.ref k0, .int i1, .int i2, .int i3] h) (fun z => Tr sc (d + 1) 207 (7, [l0, l1, l2, l3], z.1.toList ++ [], z.2) Q)) := t_cv (as := [.int i1, .int i2, .int i3]) (r := []) k_207_4 rfl rfl (Nat.le_of_ble_eq_true rfl) (Nat.le_of_ble_eq_true rfl) (Nat.le_of_ble_eq_true rfl)
theorem k_207_7 : lk 207 7 = some (.istore_n 3, 8, 3, 0, .null) := by decide +kernel
theorem x_207_7 : Tr sc d 207 (7, [l0, l1, l2, l3], [.int i0], h) Q = Tr sc d 207 (8, [l0, l1, cl2 l2, some (.int i0)], [], h) Q := t_istore_n k_207_7 (Nat.le_of_ble_eq_true rfl)
theorem k_207_8 : lk 207 8 = some (.iload_n 3, 9, 3, 0, .null) := by decide +kernel
theorem x_207_8 : Tr sc d 207 (8, [l0, l1, l2, some (.int x)], [], h) Q = Tr sc d 207 (9, [l0, l1, l2, some (.int x)], [.int x], h) Q := t_iload_n k_207_8 rfl
theorem k_207_9 : lk 207 9 = some (.ifCond .ge 5, 12, 14, 0, .null) := by decide +kernel
theorem x_207_9 : Tr sc d 207 (9, [l0, l1, l2, l3], [.int i0], h) Q = if 0 ≤ i0 then Tr sc d 207 (14, [l0, l1, l2, l3], [], h) Q else Tr sc d 207 (12, [l0, l1, l2, l3], [], h) Q := t_if k_207_9 rfl
theorem k_207_12 : lk 207 12 = some (.iload_n 3, 13, 3, 0, .null) := by decide +kernel
theorem x_207_12 : Tr sc d 207 (12, [l0, l1, l2, some (.int x)], [], h) Q = Tr sc d 207 (13, [l0, l1, l2, some (.int x)], [.int x], h) Q := t_iload_n k_207_12 rfl
theorem k_207_13 : lk 207 13 = some (.ireturn, 14, 0, 0, .null) := by decide +kernel
theorem x_207_13 : Tr sc d 207 (13, [l0, l1, l2, l3], [.int i0], h) Q = Q (some (.int i0), h) := t_ret k_207_13 (by rw [r_207]; rfl)
theorem k_207_14 : lk 207 14 = some (.aload_n 0, 15, 0, 0, .null) := by decide +kernel
theorem x_207_14 : Tr sc d 207 (14, [some (.ref xk), l1, l2, l3], [], h) Q = Tr sc d 207 (15, [some (.ref xk), l1, l2, l3], [.ref xk], h) Q := t_aload_n k_207_14 rfl
theorem k_207_15 : lk 207 15 = some (.iload_n 1, 16, 1, 0, .null) := by decide +kernel
theorem x_207_15 : Tr sc d 207 (15, [l0, some (.int x), l2, l3], [.ref k0], h) Q = Tr sc d 207 (16, [l0, some (.int x), l2, l3], [.int x, .ref k0], h) Q := t_iload_n k_207_15 rfl
theorem k_207_16 : lk 207 16 = some (.iload_n 2, 17, 2, 0, .null) := by decide +kernel
theorem x_207_16 : Tr sc d 207 (16, [l0, l1, some (.int x), l3], [.int i1, .ref k0], h) Q = Tr sc d 207 (17, [l0, l1, some (.int x), l3], [.int x, .int i1, .ref k0], h) Q := t_iload_n k_207_16 rfl
theorem k_207_17 : lk 207 17 = some (.invokevirtual 307, 20, 204, 2, .null) := by decide +kernel
theorem x_207_17 : Tr sc (d + 1) 207 (17, [l0, l1, l2, l3], [.int i2, .int i1, .ref k0], h) Q = (okp h k0 10 = true ∧ Tr sc d 204 (ent0 204 [.ref k0, .int i1, .int i2] h) (fun z => Tr sc (d + 1) 207 (20, [l0, l1, l2, l3], z.1.toList ++ [], z.2) Q)) := t_cv (as := [.int i1, .int i2]) (r := []) k_207_17 rfl rfl (Nat.le_of_ble_eq_true rfl) (Nat.le_of_ble_eq_true rfl) (Nat.le_of_ble_eq_true rfl)
theorem k_207_20 : lk 207 20 = some (.aload_n 0, 21, 0, 0, .null) := by decide +kernel
theorem x_207_20 : Tr sc d 207 (20, [some (.ref xk), l1, l2, l3], [], h) Q = Tr sc d 207 (21, [some (.ref xk), l1, l2, l3], [.ref xk], h) Q := t_aload_n k_207_20 rfl
theorem k_207_21 : lk 207 21 = some (.aload_n 0, 22, 0, 0, .null) := by decide +kernel
theorem x_207_21 : Tr sc d 207 (21, [some (.ref xk), l1, l2, l3], [.ref k0], h) Q = Tr sc d 207 (22, [some (.ref xk), l1, l2, l3], [.ref xk, .ref k0], h) Q := t_aload_n k_207_21 rfl
theorem k_207_22 : lk 207 22 = some (.getfield 286, 25, 10, 37, .int 0) := by decide +kernel
theorem x_207_22 : Tr sc d 207 (22, [l0, l1, l2, l3], [.ref k1, .ref k0], h) Q = (okp h k1 10 = true ∧ Tr sc d 207 (25, [l0, l1, l2, l3], [.int (hI h k1 37), .ref k0], h) Q) := t_gd k_207_22 rfl
theorem k_207_25 : lk 207 25 = some (.aload_n 0, 26, 0, 0, .null) := by decide +kernel
theorem x_207_25 : Tr sc d 207 (25, [some (.ref xk), l1, l2, l3], [.int i1, .ref k0], h) Q = Tr sc d 207 (26, [some (.ref xk), l1, l2, l3], [.ref xk, .int i1, .ref k0], h) Q := t_aload_n k_207_25 rfl
theorem k_207_26 : lk 207 26 = some (.getfield 283, 29, 10, 36, .int 0) := by decide +kernel
theorem x_207_26 : Tr sc d 207 (26, [l0, l1, l2, l3], [.ref k2, .int i1, .ref k0], h) Q = (okp h k2 10 = true ∧ Tr sc d 207 (29, [l0, l1, l2, l3], [.int (hI h k2 36), .int i1, .ref k0], h) Q) := t_gd k_207_26 rfl
theorem k_207_29 : lk 207 29 = some (.invokevirtual 162, 32, 159, 2, .null) := by decide +kernel
theorem x_207_29 : Tr sc (d + 1) 207 (29, [l0, l1, l2, l3], [.int i2, .int i1, .ref k0], h) Q = (okp h k0 10 = true ∧ Tr sc d 159 (ent0 159 [.ref k0, .int i1, .int i2] h) (fun z => Tr sc (d + 1) 207 (32, [l0, l1, l2, l3], z.1.toList ++ [], z.2) Q)) := t_cv (as := [.int i1, .int i2]) (r := []) k_207_29 rfl rfl (Nat.le_of_ble_eq_true rfl) (Nat.le_of_ble_eq_true rfl) (Nat.le_of_ble_eq_true rfl)
theorem k_207_32 : lk 207 32 = some (.ireturn, 33, 0, 0, .null) := by decide +kernel
theorem x_207_32 : Tr sc d 207 (32, [l0, l1, l2, l3], [.int i0], h) Q = Q (some (.int i0), h) := t_ret k_207_32 (by rw [r_207]; rfl)
theorem e_207 : Tr sc d 207 (ent0 207 [.ref k0, .int i1, .int i2] h) Q = Tr sc d 207 (0, [some (.ref k0), some (.int i1), some (.int i2), none], [], h) Q := by
  have e : mL 207 = 4 := by decide +kernel
  unfold ent0
  rw [e]
  rfl
theorem r_208 : mR 208 = some .int := by decide +kernel
theorem k_208_0 : lk 208 0 = some (.aload_n 0, 1, 0, 0, .null) := by decide +kernel
theorem x_208_0 : Tr sc d 208 (0, [some (.ref xk), l1, l2, l3, l4, l5, l6, l7], [], h) Q = Tr sc d 208 (1, [some (.ref xk), l1, l2, l3, l4, l5, l6, l7], [.ref xk], h) Q := t_aload_n k_208_0 rfl
theorem k_208_1 : lk 208 1 = some (.iload_n 1, 2, 1, 0, .null) := by decide +kernel
theorem x_208_1 : Tr sc d 208 (1, [l0, some (.int x), l2, l3, l4, l5, l6, l7], [.ref k0], h) Q = Tr sc d 208 (2, [l0, some (.int x), l2, l3, l4, l5, l6, l7], [.int x, .ref k0], h) Q := t_iload_n k_208_1 rfl
theorem k_208_2 : lk 208 2 = some (.iload_n 2, 3, 2, 0, .null) := by decide +kernel
theorem x_208_2 : Tr sc d 208 (2, [l0, l1, some (.int x), l3, l4, l5, l6, l7], [.int i1, .ref k0], h) Q = Tr sc d 208 (3, [l0, l1, some (.int x), l3, l4, l5, l6, l7], [.int x, .int i1, .ref k0], h) Q := t_iload_n k_208_2 rfl
theorem k_208_3 : lk 208 3 = some (.iconst 5, 4, 0, 0, .int 5) := by decide +kernel
theorem x_208_3 : Tr sc d 208 (3, [l0, l1, l2, l3, l4, l5, l6, l7], [.int i2, .int i1, .ref k0], h) Q = Tr sc d 208 (4, [l0, l1, l2, l3, l4, l5, l6, l7], [.int 5, .int i2, .int i1, .ref k0], h) Q := t_go k_208_3 rfl
theorem k_208_4 : lk 208 4 = some (.invokevirtual 304, 7, 206, 3, .null) := by decide +kernel
theorem x_208_4 : Tr sc (d + 1) 208 (4, [l0, l1, l2, l3, l4, l5, l6, l7], [.int i3, .int i2, .int i1, .ref k0], h) Q = (okp h k0 10 = true ∧ Tr sc d 206 (ent0 206 [.ref k0, .int i1, .int i2, .int i3] h) (fun z => Tr sc (d + 1) 208 (7, [l0, l1, l2, l3, l4, l5, l6, l7], z.1.toList ++ [], z.2) Q)) := t_cv (as := [.int i1, .int i2, .int i3]) (r := []) k_208_4 rfl rfl (Nat.le_of_ble_eq_true rfl) (Nat.le_of_ble_eq_true rfl) (Nat.le_of_ble_eq_true rfl)
theorem k_208_7 : lk 208 7 = some (.istore 5, 9, 5, 0, .null) := by decide +kernel
theorem x_208_7 : Tr sc d 208 (7, [l0, l1, l2, l3, l4, l5, l6, l7], [.int i0], h) Q = Tr sc d 208 (9, [l0, l1, l2, l3, cl2 l4, some (.int i0), l6, l7], [], h) Q := t_istore k_208_7 (Nat.le_of_ble_eq_true rfl)
theorem k_208_9 : lk 208 9 = some (.iload 5, 11, 5, 0, .null) := by decide +kernel
theorem x_208_9 : Tr sc d 208 (9, [l0, l1, l2, l3, l4, some (.int x), l6, l7], [], h) Q = Tr sc d 208 (11, [l0, l1, l2, l3, l4, some (.int x), l6, l7], [.int x], h) Q := t_iload k_208_9 rfl
theorem k_208_11 : lk 208 11 = some (.ifCond .ge 6, 14, 17, 0, .null) := by decide +kernel
theorem x_208_11 : Tr sc d 208 (11, [l0, l1, l2, l3, l4, l5, l6, l7], [.int i0], h) Q = if 0 ≤ i0 then Tr sc d 208 (17, [l0, l1, l2, l3, l4, l5, l6, l7], [], h) Q else Tr sc d 208 (14, [l0, l1, l2, l3, l4, l5, l6, l7], [], h) Q := t_if k_208_11 rfl
theorem k_208_14 : lk 208 14 = some (.iload 5, 16, 5, 0, .null) := by decide +kernel
theorem x_208_14 : Tr sc d 208 (14, [l0, l1, l2, l3, l4, some (.int x), l6, l7], [], h) Q = Tr sc d 208 (16, [l0, l1, l2, l3, l4, some (.int x), l6, l7], [.int x], h) Q := t_iload k_208_14 rfl
theorem k_208_16 : lk 208 16 = some (.ireturn, 17, 0, 0, .null) := by decide +kernel
theorem x_208_16 : Tr sc d 208 (16, [l0, l1, l2, l3, l4, l5, l6, l7], [.int i0], h) Q = Q (some (.int i0), h) := t_ret k_208_16 (by rw [r_208]; rfl)
theorem k_208_17 : lk 208 17 = some (.aload_n 0, 18, 0, 0, .null) := by decide +kernel
theorem x_208_17 : Tr sc d 208 (17, [some (.ref xk), l1, l2, l3, l4, l5, l6, l7], [], h) Q = Tr sc d 208 (18, [some (.ref xk), l1, l2, l3, l4, l5, l6, l7], [.ref xk], h) Q := t_aload_n k_208_17 rfl
theorem k_208_18 : lk 208 18 = some (.iload_n 1, 19, 1, 0, .null) := by decide +kernel
theorem x_208_18 : Tr sc d 208 (18, [l0, some (.int x), l2, l3, l4, l5, l6, l7], [.ref k0], h) Q = Tr sc d 208 (19, [l0, some (.int x), l2, l3, l4, l5, l6, l7], [.int x, .ref k0], h) Q := t_iload_n k_208_18 rfl
theorem k_208_19 : lk 208 19 = some (.iload_n 2, 20, 2, 0, .null) := by decide +kernel
theorem x_208_19 : Tr sc d 208 (19, [l0, l1, some (.int x), l3, l4, l5, l6, l7], [.int i1, .ref k0], h) Q = Tr sc d 208 (20, [l0, l1, some (.int x), l3, l4, l5, l6, l7], [.int x, .int i1, .ref k0], h) Q := t_iload_n k_208_19 rfl
theorem k_208_20 : lk 208 20 = some (.invokevirtual 273, 23, 202, 2, .null) := by decide +kernel
theorem x_208_20 : Tr sc (d + 1) 208 (20, [l0, l1, l2, l3, l4, l5, l6, l7], [.int i2, .int i1, .ref k0], h) Q = (okp h k0 10 = true ∧ Tr sc d 202 (ent0 202 [.ref k0, .int i1, .int i2] h) (fun z => Tr sc (d + 1) 208 (23, [l0, l1, l2, l3, l4, l5, l6, l7], z.1.toList ++ [], z.2) Q)) := t_cv (as := [.int i1, .int i2]) (r := []) k_208_20 rfl rfl (Nat.le_of_ble_eq_true rfl) (Nat.le_of_ble_eq_true rfl) (Nat.le_of_ble_eq_true rfl)
theorem k_208_23 : lk 208 23 = some (.iconst 0, 24, 0, 0, .int 0) := by decide +kernel
theorem x_208_23 : Tr sc d 208 (23, [l0, l1, l2, l3, l4, l5, l6, l7], [], h) Q = Tr sc d 208 (24, [l0, l1, l2, l3, l4, l5, l6, l7], [.int 0], h) Q := t_go k_208_23 rfl
theorem k_208_24 : lk 208 24 = some (.istore 6, 26, 6, 0, .null) := by decide +kernel
theorem x_208_24 : Tr sc d 208 (24, [l0, l1, l2, l3, l4, l5, l6, l7], [.int i0], h) Q = Tr sc d 208 (26, [l0, l1, l2, l3, l4, cl2 l5, some (.int i0), l7], [], h) Q := t_istore k_208_24 (Nat.le_of_ble_eq_true rfl)
theorem k_208_26 : lk 208 26 = some (.iconst 0, 27, 0, 0, .int 0) := by decide +kernel
theorem x_208_26 : Tr sc d 208 (26, [l0, l1, l2, l3, l4, l5, l6, l7], [], h) Q = Tr sc d 208 (27, [l0, l1, l2, l3, l4, l5, l6, l7], [.int 0], h) Q := t_go k_208_26 rfl
theorem k_208_27 : lk 208 27 = some (.istore 7, 29, 7, 0, .null) := by decide +kernel
theorem x_208_27 : Tr sc d 208 (27, [l0, l1, l2, l3, l4, l5, l6, l7], [.int i0], h) Q = Tr sc d 208 (29, [l0, l1, l2, l3, l4, l5, cl2 l6, some (.int i0)], [], h) Q := t_istore k_208_27 (Nat.le_of_ble_eq_true rfl)
theorem k_208_29 : lk 208 29 = some (.iload 7, 31, 7, 0, .null) := by decide +kernel
theorem x_208_29 : Tr sc d 208 (29, [l0, l1, l2, l3, l4, l5, l6, some (.int x)], [], h) Q = Tr sc d 208 (31, [l0, l1, l2, l3, l4, l5, l6, some (.int x)], [.int x], h) Q := t_iload k_208_29 rfl
theorem k_208_31 : lk 208 31 = some (.aload_n 0, 32, 0, 0, .null) := by decide +kernel
theorem x_208_31 : Tr sc d 208 (31, [some (.ref xk), l1, l2, l3, l4, l5, l6, l7], [.int i0], h) Q = Tr sc d 208 (32, [some (.ref xk), l1, l2, l3, l4, l5, l6, l7], [.ref xk, .int i0], h) Q := t_aload_n k_208_31 rfl
theorem k_208_32 : lk 208 32 = some (.getfield 270, 35, 10, 31, .int 0) := by decide +kernel
theorem x_208_32 : Tr sc d 208 (32, [l0, l1, l2, l3, l4, l5, l6, l7], [.ref k1, .int i0], h) Q = (okp h k1 10 = true ∧ Tr sc d 208 (35, [l0, l1, l2, l3, l4, l5, l6, l7], [.int (hI h k1 31), .int i0], h) Q) := t_gd k_208_32 rfl
theorem k_208_35 : lk 208 35 = some (.if_icmp .ge 42, 38, 77, 0, .null) := by decide +kernel
theorem x_208_35 : Tr sc d 208 (35, [l0, l1, l2, l3, l4, l5, l6, l7], [.int i1, .int i0], h) Q = if i1 ≤ i0 then Tr sc d 208 (77, [l0, l1, l2, l3, l4, l5, l6, l7], [], h) Q else Tr sc d 208 (38, [l0, l1, l2, l3, l4, l5, l6, l7], [], h) Q := t_if k_208_35 rfl
theorem k_208_38 : lk 208 38 = some (.iload 6, 40, 6, 0, .null) := by decide +kernel
theorem x_208_38 : Tr sc d 208 (38, [l0, l1, l2, l3, l4, l5, some (.int x), l7], [], h) Q = Tr sc d 208 (40, [l0, l1, l2, l3, l4, l5, some (.int x), l7], [.int x], h) Q := t_iload k_208_38 rfl
theorem k_208_40 : lk 208 40 = some (.aload_n 0, 41, 0, 0, .null) := by decide +kernel
theorem x_208_40 : Tr sc d 208 (40, [some (.ref xk), l1, l2, l3, l4, l5, l6, l7], [.int i0], h) Q = Tr sc d 208 (41, [some (.ref xk), l1, l2, l3, l4, l5, l6, l7], [.ref xk, .int i0], h) Q := t_aload_n k_208_40 rfl
theorem k_208_41 : lk 208 41 = some (.getfield 63, 44, 10, 32, .null) := by decide +kernel
theorem x_208_41 : Tr sc d 208 (41, [l0, l1, l2, l3, l4, l5, l6, l7], [.ref k1, .int i0], h) Q = (okp h k1 10 = true ∧ ∃ q, hR h k1 32 = some q ∧ Tr sc d 208 (44, [l0, l1, l2, l3, l4, l5, l6, l7], [.ref q, .int i0], h) Q) := t_getr k_208_41
theorem k_208_44 : lk 208 44 = some (.iload 7, 46, 7, 0, .null) := by decide +kernel
theorem x_208_44 : Tr sc d 208 (44, [l0, l1, l2, l3, l4, l5, l6, some (.int x)], [.ref k1, .int i0], h) Q = Tr sc d 208 (46, [l0, l1, l2, l3, l4, l5, l6, some (.int x)], [.int x, .ref k1, .int i0], h) Q := t_iload k_208_44 rfl
theorem k_208_46 : lk 208 46 = some (.iaload, 47, 0, 0, .null) := by decide +kernel
theorem x_208_46 : Tr sc d 208 (46, [l0, l1, l2, l3, l4, l5, l6, l7], [.int i2, .ref k1, .int i0], h) Q = (iOk sc h k1 i2 ∧ Tr sc d 208 (47, [l0, l1, l2, l3, l4, l5, l6, l7], [.int (iRd sc h k1 i2), .int i0], h) Q) := t_iald k_208_46
theorem k_208_47 : lk 208 47 = some (.iload_n 3, 48, 3, 0, .null) := by decide +kernel
theorem x_208_47 : Tr sc d 208 (47, [l0, l1, l2, some (.int x), l4, l5, l6, l7], [.int i1, .int i0], h) Q = Tr sc d 208 (48, [l0, l1, l2, some (.int x), l4, l5, l6, l7], [.int x, .int i1, .int i0], h) Q := t_iload_n k_208_47 rfl
theorem k_208_48 : lk 208 48 = some (.if_icmp .ne 19, 51, 67, 0, .null) := by decide +kernel
theorem x_208_48 : Tr sc d 208 (48, [l0, l1, l2, l3, l4, l5, l6, l7], [.int i2, .int i1, .int i0], h) Q = if i1 = i2 then Tr sc d 208 (51, [l0, l1, l2, l3, l4, l5, l6, l7], [.int i0], h) Q else Tr sc d 208 (67, [l0, l1, l2, l3, l4, l5, l6, l7], [.int i0], h) Q := t_if k_208_48 rfl
theorem k_208_51 : lk 208 51 = some (.aload_n 0, 52, 0, 0, .null) := by decide +kernel
theorem x_208_51 : Tr sc d 208 (51, [some (.ref xk), l1, l2, l3, l4, l5, l6, l7], [.int i0], h) Q = Tr sc d 208 (52, [some (.ref xk), l1, l2, l3, l4, l5, l6, l7], [.ref xk, .int i0], h) Q := t_aload_n k_208_51 rfl
theorem k_208_52 : lk 208 52 = some (.getfield 66, 55, 10, 33, .null) := by decide +kernel
theorem x_208_52 : Tr sc d 208 (52, [l0, l1, l2, l3, l4, l5, l6, l7], [.ref k1, .int i0], h) Q = (okp h k1 10 = true ∧ ∃ q, hR h k1 33 = some q ∧ Tr sc d 208 (55, [l0, l1, l2, l3, l4, l5, l6, l7], [.ref q, .int i0], h) Q) := t_getr k_208_52
theorem k_208_55 : lk 208 55 = some (.iload 7, 57, 7, 0, .null) := by decide +kernel
theorem x_208_55 : Tr sc d 208 (55, [l0, l1, l2, l3, l4, l5, l6, some (.int x)], [.ref k1, .int i0], h) Q = Tr sc d 208 (57, [l0, l1, l2, l3, l4, l5, l6, some (.int x)], [.int x, .ref k1, .int i0], h) Q := t_iload k_208_55 rfl
theorem k_208_57 : lk 208 57 = some (.iaload, 58, 0, 0, .null) := by decide +kernel
theorem x_208_57 : Tr sc d 208 (57, [l0, l1, l2, l3, l4, l5, l6, l7], [.int i2, .ref k1, .int i0], h) Q = (iOk sc h k1 i2 ∧ Tr sc d 208 (58, [l0, l1, l2, l3, l4, l5, l6, l7], [.int (iRd sc h k1 i2), .int i0], h) Q) := t_iald k_208_57
theorem k_208_58 : lk 208 58 = some (.iload 4, 60, 4, 0, .null) := by decide +kernel
theorem x_208_58 : Tr sc d 208 (58, [l0, l1, l2, l3, some (.int x), l5, l6, l7], [.int i1, .int i0], h) Q = Tr sc d 208 (60, [l0, l1, l2, l3, some (.int x), l5, l6, l7], [.int x, .int i1, .int i0], h) Q := t_iload k_208_58 rfl
theorem k_208_60 : lk 208 60 = some (.if_icmp .ne 7, 63, 67, 0, .null) := by decide +kernel
theorem x_208_60 : Tr sc d 208 (60, [l0, l1, l2, l3, l4, l5, l6, l7], [.int i2, .int i1, .int i0], h) Q = if i1 = i2 then Tr sc d 208 (63, [l0, l1, l2, l3, l4, l5, l6, l7], [.int i0], h) Q else Tr sc d 208 (67, [l0, l1, l2, l3, l4, l5, l6, l7], [.int i0], h) Q := t_if k_208_60 rfl
theorem k_208_63 : lk 208 63 = some (.iconst 1, 64, 0, 0, .int 1) := by decide +kernel
theorem x_208_63 : Tr sc d 208 (63, [l0, l1, l2, l3, l4, l5, l6, l7], [.int i0], h) Q = Tr sc d 208 (64, [l0, l1, l2, l3, l4, l5, l6, l7], [.int 1, .int i0], h) Q := t_go k_208_63 rfl
theorem k_208_64 : lk 208 64 = some (.goto 4, 67, 68, 0, .null) := by decide +kernel
theorem x_208_64 : Tr sc d 208 (64, [l0, l1, l2, l3, l4, l5, l6, l7], [.int i1, .int i0], h) Q = Tr sc d 208 (68, [l0, l1, l2, l3, l4, l5, l6, l7], [.int i1, .int i0], h) Q := t_go k_208_64 rfl
theorem k_208_67 : lk 208 67 = some (.iconst 0, 68, 0, 0, .int 0) := by decide +kernel
theorem x_208_67 : Tr sc d 208 (67, [l0, l1, l2, l3, l4, l5, l6, l7], [.int i0], h) Q = Tr sc d 208 (68, [l0, l1, l2, l3, l4, l5, l6, l7], [.int 0, .int i0], h) Q := t_go k_208_67 rfl
theorem k_208_68 : lk 208 68 = some (.iadd, 69, 0, 0, .null) := by decide +kernel
theorem x_208_68 : Tr sc d 208 (68, [l0, l1, l2, l3, l4, l5, l6, l7], [.int i1, .int i0], h) Q = Tr sc d 208 (69, [l0, l1, l2, l3, l4, l5, l6, l7], [.int (i0 + i1)], h) Q := t_go k_208_68 rfl
theorem k_208_69 : lk 208 69 = some (.istore 6, 71, 6, 0, .null) := by decide +kernel
theorem x_208_69 : Tr sc d 208 (69, [l0, l1, l2, l3, l4, l5, l6, l7], [.int i0], h) Q = Tr sc d 208 (71, [l0, l1, l2, l3, l4, cl2 l5, some (.int i0), l7], [], h) Q := t_istore k_208_69 (Nat.le_of_ble_eq_true rfl)
theorem k_208_71 : lk 208 71 = some (.iinc 7 1, 74, 7, 0, .int 1) := by decide +kernel
theorem x_208_71 : Tr sc d 208 (71, [l0, l1, l2, l3, l4, l5, l6, some (.int x)], [], h) Q = Tr sc d 208 (74, [l0, l1, l2, l3, l4, l5, cl2 l6, some (.int (x + 1))], [], h) Q := t_inc k_208_71 rfl (Nat.le_of_ble_eq_true rfl)
theorem k_208_74 : lk 208 74 = some (.goto (-45), 77, 29, 0, .null) := by decide +kernel
theorem x_208_74 : Tr sc d 208 (74, [l0, l1, l2, l3, l4, l5, l6, l7], [], h) Q = Tr sc d 208 (29, [l0, l1, l2, l3, l4, l5, l6, l7], [], h) Q := t_go k_208_74 rfl
theorem k_208_77 : lk 208 77 = some (.iload 6, 79, 6, 0, .null) := by decide +kernel
theorem x_208_77 : Tr sc d 208 (77, [l0, l1, l2, l3, l4, l5, some (.int x), l7], [], h) Q = Tr sc d 208 (79, [l0, l1, l2, l3, l4, l5, some (.int x), l7], [.int x], h) Q := t_iload k_208_77 rfl
theorem k_208_79 : lk 208 79 = some (.ireturn, 80, 0, 0, .null) := by decide +kernel
theorem x_208_79 : Tr sc d 208 (79, [l0, l1, l2, l3, l4, l5, l6, l7], [.int i0], h) Q = Q (some (.int i0), h) := t_ret k_208_79 (by rw [r_208]; rfl)
theorem e_208 : Tr sc d 208 (ent0 208 [.ref k0, .int i1, .int i2, .int i3, .int i4] h) Q = Tr sc d 208 (0, [some (.ref k0), some (.int i1), some (.int i2), some (.int i3), some (.int i4), none, none, none], [], h) Q := by
  have e : mL 208 = 8 := by decide +kernel
  unfold ent0
  rw [e]
  rfl
theorem r_209 : mR 209 = some .int := by decide +kernel
theorem k_209_0 : lk 209 0 = some (.iload_n 3, 1, 3, 0, .null) := by decide +kernel
theorem x_209_0 : Tr sc d 209 (0, [l0, l1, l2, some (.int x), l4], [], h) Q = Tr sc d 209 (1, [l0, l1, l2, some (.int x), l4], [.int x], h) Q := t_iload_n k_209_0 rfl
theorem k_209_1 : lk 209 1 = some (.iconst 0, 2, 0, 0, .int 0) := by decide +kernel
theorem x_209_1 : Tr sc d 209 (1, [l0, l1, l2, l3, l4], [.int i0], h) Q = Tr sc d 209 (2, [l0, l1, l2, l3, l4], [.int 0, .int i0], h) Q := t_go k_209_1 rfl
theorem k_209_2 : lk 209 2 = some (.iconst 3, 3, 0, 0, .int 3) := by decide +kernel
theorem x_209_2 : Tr sc d 209 (2, [l0, l1, l2, l3, l4], [.int i1, .int i0], h) Q = Tr sc d 209 (3, [l0, l1, l2, l3, l4], [.int 3, .int i1, .int i0], h) Q := t_go k_209_2 rfl
theorem k_209_3 : lk 209 3 = some (.invokestatic 144, 6, 157, 3, .null) := by decide +kernel
theorem x_209_3 : Tr sc (d + 1) 209 (3, [l0, l1, l2, l3, l4], [.int i2, .int i1, .int i0], h) Q = Tr sc d 157 (ent0 157 [.int i0, .int i1, .int i2] h) (fun z => Tr sc (d + 1) 209 (6, [l0, l1, l2, l3, l4], z.1.toList ++ [], z.2) Q) := t_cs (as := [.int i0, .int i1, .int i2]) (r := []) k_209_3 (by decide) rfl rfl (Nat.le_of_ble_eq_true rfl) (Nat.le_of_ble_eq_true rfl)
theorem k_209_6 : lk 209 6 = some (.ifCond .ne 5, 9, 11, 0, .null) := by decide +kernel
theorem x_209_6 : Tr sc d 209 (6, [l0, l1, l2, l3, l4], [.int i0], h) Q = if i0 = 0 then Tr sc d 209 (9, [l0, l1, l2, l3, l4], [], h) Q else Tr sc d 209 (11, [l0, l1, l2, l3, l4], [], h) Q := t_if k_209_6 rfl
theorem k_209_9 : lk 209 9 = some (.iconst (-1), 10, 0, 0, .int (-1)) := by decide +kernel
theorem x_209_9 : Tr sc d 209 (9, [l0, l1, l2, l3, l4], [], h) Q = Tr sc d 209 (10, [l0, l1, l2, l3, l4], [.int (-1)], h) Q := t_go k_209_9 rfl
theorem k_209_10 : lk 209 10 = some (.ireturn, 11, 0, 0, .null) := by decide +kernel
theorem x_209_10 : Tr sc d 209 (10, [l0, l1, l2, l3, l4], [.int i0], h) Q = Q (some (.int i0), h) := t_ret k_209_10 (by rw [r_209]; rfl)
theorem k_209_11 : lk 209 11 = some (.aload_n 0, 12, 0, 0, .null) := by decide +kernel
theorem x_209_11 : Tr sc d 209 (11, [some (.ref xk), l1, l2, l3, l4], [], h) Q = Tr sc d 209 (12, [some (.ref xk), l1, l2, l3, l4], [.ref xk], h) Q := t_aload_n k_209_11 rfl
theorem k_209_12 : lk 209 12 = some (.iload_n 1, 13, 1, 0, .null) := by decide +kernel
theorem x_209_12 : Tr sc d 209 (12, [l0, some (.int x), l2, l3, l4], [.ref k0], h) Q = Tr sc d 209 (13, [l0, some (.int x), l2, l3, l4], [.int x, .ref k0], h) Q := t_iload_n k_209_12 rfl
theorem k_209_13 : lk 209 13 = some (.iload_n 2, 14, 2, 0, .null) := by decide +kernel
theorem x_209_13 : Tr sc d 209 (13, [l0, l1, some (.int x), l3, l4], [.int i1, .ref k0], h) Q = Tr sc d 209 (14, [l0, l1, some (.int x), l3, l4], [.int x, .int i1, .ref k0], h) Q := t_iload_n k_209_13 rfl
theorem k_209_14 : lk 209 14 = some (.iconst 5, 15, 0, 0, .int 5) := by decide +kernel
theorem x_209_14 : Tr sc d 209 (14, [l0, l1, l2, l3, l4], [.int i2, .int i1, .ref k0], h) Q = Tr sc d 209 (15, [l0, l1, l2, l3, l4], [.int 5, .int i2, .int i1, .ref k0], h) Q := t_go k_209_14 rfl
theorem k_209_15 : lk 209 15 = some (.invokevirtual 304, 18, 206, 3, .null) := by decide +kernel
theorem x_209_15 : Tr sc (d + 1) 209 (15, [l0, l1, l2, l3, l4], [.int i3, .int i2, .int i1, .ref k0], h) Q = (okp h k0 10 = true ∧ Tr sc d 206 (ent0 206 [.ref k0, .int i1, .int i2, .int i3] h) (fun z => Tr sc (d + 1) 209 (18, [l0, l1, l2, l3, l4], z.1.toList ++ [], z.2) Q)) := t_cv (as := [.int i1, .int i2, .int i3]) (r := []) k_209_15 rfl rfl (Nat.le_of_ble_eq_true rfl) (Nat.le_of_ble_eq_true rfl) (Nat.le_of_ble_eq_true rfl)
theorem k_209_18 : lk 209 18 = some (.istore 4, 20, 4, 0, .null) := by decide +kernel
theorem x_209_18 : Tr sc d 209 (18, [l0, l1, l2, l3, l4], [.int i0], h) Q = Tr sc d 209 (20, [l0, l1, l2, cl2 l3, some (.int i0)], [], h) Q := t_istore k_209_18 (Nat.le_of_ble_eq_true rfl)
theorem k_209_20 : lk 209 20 = some (.iload 4, 22, 4, 0, .null) := by decide +kernel
theorem x_209_20 : Tr sc d 209 (20, [l0, l1, l2, l3, some (.int x)], [], h) Q = Tr sc d 209 (22, [l0, l1, l2, l3, some (.int x)], [.int x], h) Q := t_iload k_209_20 rfl
theorem k_209_22 : lk 209 22 = some (.ifCond .ge 6, 25, 28, 0, .null) := by decide +kernel
theorem x_209_22 : Tr sc d 209 (22, [l0, l1, l2, l3, l4], [.int i0], h) Q = if 0 ≤ i0 then Tr sc d 209 (28, [l0, l1, l2, l3, l4], [], h) Q else Tr sc d 209 (25, [l0, l1, l2, l3, l4], [], h) Q := t_if k_209_22 rfl
theorem k_209_25 : lk 209 25 = some (.iload 4, 27, 4, 0, .null) := by decide +kernel
theorem x_209_25 : Tr sc d 209 (25, [l0, l1, l2, l3, some (.int x)], [], h) Q = Tr sc d 209 (27, [l0, l1, l2, l3, some (.int x)], [.int x], h) Q := t_iload k_209_25 rfl
theorem k_209_27 : lk 209 27 = some (.ireturn, 28, 0, 0, .null) := by decide +kernel
theorem x_209_27 : Tr sc d 209 (27, [l0, l1, l2, l3, l4], [.int i0], h) Q = Q (some (.int i0), h) := t_ret k_209_27 (by rw [r_209]; rfl)
theorem k_209_28 : lk 209 28 = some (.aload_n 0, 29, 0, 0, .null) := by decide +kernel
theorem x_209_28 : Tr sc d 209 (28, [some (.ref xk), l1, l2, l3, l4], [], h) Q = Tr sc d 209 (29, [some (.ref xk), l1, l2, l3, l4], [.ref xk], h) Q := t_aload_n k_209_28 rfl
theorem k_209_29 : lk 209 29 = some (.iload_n 1, 30, 1, 0, .null) := by decide +kernel
theorem x_209_29 : Tr sc d 209 (29, [l0, some (.int x), l2, l3, l4], [.ref k0], h) Q = Tr sc d 209 (30, [l0, some (.int x), l2, l3, l4], [.int x, .ref k0], h) Q := t_iload_n k_209_29 rfl
theorem k_209_30 : lk 209 30 = some (.iload_n 2, 31, 2, 0, .null) := by decide +kernel
theorem x_209_30 : Tr sc d 209 (30, [l0, l1, some (.int x), l3, l4], [.int i1, .ref k0], h) Q = Tr sc d 209 (31, [l0, l1, some (.int x), l3, l4], [.int x, .int i1, .ref k0], h) Q := t_iload_n k_209_30 rfl
theorem k_209_31 : lk 209 31 = some (.invokevirtual 307, 34, 204, 2, .null) := by decide +kernel
theorem x_209_31 : Tr sc (d + 1) 209 (31, [l0, l1, l2, l3, l4], [.int i2, .int i1, .ref k0], h) Q = (okp h k0 10 = true ∧ Tr sc d 204 (ent0 204 [.ref k0, .int i1, .int i2] h) (fun z => Tr sc (d + 1) 209 (34, [l0, l1, l2, l3, l4], z.1.toList ++ [], z.2) Q)) := t_cv (as := [.int i1, .int i2]) (r := []) k_209_31 rfl rfl (Nat.le_of_ble_eq_true rfl) (Nat.le_of_ble_eq_true rfl) (Nat.le_of_ble_eq_true rfl)
theorem k_209_34 : lk 209 34 = some (.aload_n 0, 35, 0, 0, .null) := by decide +kernel
theorem x_209_34 : Tr sc d 209 (34, [some (.ref xk), l1, l2, l3, l4], [], h) Q = Tr sc d 209 (35, [some (.ref xk), l1, l2, l3, l4], [.ref xk], h) Q := t_aload_n k_209_34 rfl
theorem k_209_35 : lk 209 35 = some (.getfield 283, 38, 10, 36, .int 0) := by decide +kernel
theorem x_209_35 : Tr sc d 209 (35, [l0, l1, l2, l3, l4], [.ref k0], h) Q = (okp h k0 10 = true ∧ Tr sc d 209 (38, [l0, l1, l2, l3, l4], [.int (hI h k0 36)], h) Q) := t_gd k_209_35 rfl
theorem k_209_38 : lk 209 38 = some (.ifCond .ne 11, 41, 49, 0, .null) := by decide +kernel
theorem x_209_38 : Tr sc d 209 (38, [l0, l1, l2, l3, l4], [.int i0], h) Q = if i0 = 0 then Tr sc d 209 (41, [l0, l1, l2, l3, l4], [], h) Q else Tr sc d 209 (49, [l0, l1, l2, l3, l4], [], h) Q := t_if k_209_38 rfl
theorem k_209_41 : lk 209 41 = some (.aload_n 0, 42, 0, 0, .null) := by decide +kernel
theorem x_209_41 : Tr sc d 209 (41, [some (.ref xk), l1, l2, l3, l4], [], h) Q = Tr sc d 209 (42, [some (.ref xk), l1, l2, l3, l4], [.ref xk], h) Q := t_aload_n k_209_41 rfl
theorem k_209_42 : lk 209 42 = some (.iconst 4, 43, 0, 0, .int 4) := by decide +kernel
theorem x_209_42 : Tr sc d 209 (42, [l0, l1, l2, l3, l4], [.ref k0], h) Q = Tr sc d 209 (43, [l0, l1, l2, l3, l4], [.int 4, .ref k0], h) Q := t_go k_209_42 rfl
theorem k_209_43 : lk 209 43 = some (.invokevirtual 152, 46, 158, 1, .null) := by decide +kernel
theorem x_209_43 : Tr sc (d + 1) 209 (43, [l0, l1, l2, l3, l4], [.int i1, .ref k0], h) Q = (okp h k0 10 = true ∧ Tr sc d 158 (ent0 158 [.ref k0, .int i1] h) (fun z => Tr sc (d + 1) 209 (46, [l0, l1, l2, l3, l4], z.1.toList ++ [], z.2) Q)) := t_cv (as := [.int i1]) (r := []) k_209_43 rfl rfl (Nat.le_of_ble_eq_true rfl) (Nat.le_of_ble_eq_true rfl) (Nat.le_of_ble_eq_true rfl)
theorem k_209_46 : lk 209 46 = some (.goto 47, 49, 93, 0, .null) := by decide +kernel
theorem x_209_46 : Tr sc d 209 (46, [l0, l1, l2, l3, l4], [.int i0], h) Q = Tr sc d 209 (93, [l0, l1, l2, l3, l4], [.int i0], h) Q := t_go k_209_46 rfl
theorem k_209_49 : lk 209 49 = some (.aload_n 0, 50, 0, 0, .null) := by decide +kernel
theorem x_209_49 : Tr sc d 209 (49, [some (.ref xk), l1, l2, l3, l4], [], h) Q = Tr sc d 209 (50, [some (.ref xk), l1, l2, l3, l4], [.ref xk], h) Q := t_aload_n k_209_49 rfl
theorem k_209_50 : lk 209 50 = some (.iload_n 3, 51, 3, 0, .null) := by decide +kernel
theorem x_209_50 : Tr sc d 209 (50, [l0, l1, l2, some (.int x), l4], [.ref k0], h) Q = Tr sc d 209 (51, [l0, l1, l2, some (.int x), l4], [.int x, .ref k0], h) Q := t_iload_n k_209_50 rfl
theorem k_209_51 : lk 209 51 = some (.ifCond .ne 10, 54, 61, 0, .null) := by decide +kernel
theorem x_209_51 : Tr sc d 209 (51, [l0, l1, l2, l3, l4], [.int i1, .ref k0], h) Q = if i1 = 0 then Tr sc d 209 (54, [l0, l1, l2, l3, l4], [.ref k0], h) Q else Tr sc d 209 (61, [l0, l1, l2, l3, l4], [.ref k0], h) Q := t_if k_209_51 rfl
theorem k_209_54 : lk 209 54 = some (.aload_n 0, 55, 0, 0, .null) := by decide +kernel
theorem x_209_54 : Tr sc d 209 (54, [some (.ref xk), l1, l2, l3, l4], [.ref k0], h) Q = Tr sc d 209 (55, [some (.ref xk), l1, l2, l3, l4], [.ref xk, .ref k0], h) Q := t_aload_n k_209_54 rfl
theorem k_209_55 : lk 209 55 = some (.getfield 292, 58, 10, 41, .int 0) := by decide +kernel
theorem x_209_55 : Tr sc d 209 (55, [l0, l1, l2, l3, l4], [.ref k1, .ref k0], h) Q = (okp h k1 10 = true ∧ Tr sc d 209 (58, [l0, l1, l2, l3, l4], [.int (hI h k1 41), .ref k0], h) Q) := t_gd k_209_55 rfl
theorem k_209_58 : lk 209 58 = some (.goto 31, 61, 89, 0, .null) := by decide +kernel
theorem x_209_58 : Tr sc d 209 (58, [l0, l1, l2, l3, l4], [.int i1, .ref k0], h) Q = Tr sc d 209 (89, [l0, l1, l2, l3, l4], [.int i1, .ref k0], h) Q := t_go k_209_58 rfl
theorem k_209_61 : lk 209 61 = some (.iload_n 3, 62, 3, 0, .null) := by decide +kernel
theorem x_209_61 : Tr sc d 209 (61, [l0, l1, l2, some (.int x), l4], [.ref k0], h) Q = Tr sc d 209 (62, [l0, l1, l2, some (.int x), l4], [.int x, .ref k0], h) Q := t_iload_n k_209_61 rfl
theorem k_209_62 : lk 209 62 = some (.iconst 1, 63, 0, 0, .int 1) := by decide +kernel
theorem x_209_62 : Tr sc d 209 (62, [l0, l1, l2, l3, l4], [.int i1, .ref k0], h) Q = Tr sc d 209 (63, [l0, l1, l2, l3, l4], [.int 1, .int i1, .ref k0], h) Q := t_go k_209_62 rfl
theorem k_209_63 : lk 209 63 = some (.if_icmp .ne 10, 66, 73, 0, .null) := by decide +kernel
theorem x_209_63 : Tr sc d 209 (63, [l0, l1, l2, l3, l4], [.int i2, .int i1, .ref k0], h) Q = if i1 = i2 then Tr sc d 209 (66, [l0, l1, l2, l3, l4], [.ref k0], h) Q else Tr sc d 209 (73, [l0, l1, l2, l3, l4], [.ref k0], h) Q := t_if k_209_63 rfl
theorem k_209_66 : lk 209 66 = some (.aload_n 0, 67, 0, 0, .null) := by decide +kernel
theorem x_209_66 : Tr sc d 209 (66, [some (.ref xk), l1, l2, l3, l4], [.ref k0], h) Q = Tr sc d 209 (67, [some (.ref xk), l1, l2, l3, l4], [.ref xk, .ref k0], h) Q := t_aload_n k_209_66 rfl
theorem k_209_67 : lk 209 67 = some (.getfield 295, 70, 10, 42, .int 0) := by decide +kernel
theorem x_209_67 : Tr sc d 209 (67, [l0, l1, l2, l3, l4], [.ref k1, .ref k0], h) Q = (okp h k1 10 = true ∧ Tr sc d 209 (70, [l0, l1, l2, l3, l4], [.int (hI h k1 42), .ref k0], h) Q) := t_gd k_209_67 rfl
theorem k_209_70 : lk 209 70 = some (.goto 19, 73, 89, 0, .null) := by decide +kernel
theorem x_209_70 : Tr sc d 209 (70, [l0, l1, l2, l3, l4], [.int i1, .ref k0], h) Q = Tr sc d 209 (89, [l0, l1, l2, l3, l4], [.int i1, .ref k0], h) Q := t_go k_209_70 rfl
theorem k_209_73 : lk 209 73 = some (.iload_n 3, 74, 3, 0, .null) := by decide +kernel
theorem x_209_73 : Tr sc d 209 (73, [l0, l1, l2, some (.int x), l4], [.ref k0], h) Q = Tr sc d 209 (74, [l0, l1, l2, some (.int x), l4], [.int x, .ref k0], h) Q := t_iload_n k_209_73 rfl
theorem k_209_74 : lk 209 74 = some (.iconst 2, 75, 0, 0, .int 2) := by decide +kernel
theorem x_209_74 : Tr sc d 209 (74, [l0, l1, l2, l3, l4], [.int i1, .ref k0], h) Q = Tr sc d 209 (75, [l0, l1, l2, l3, l4], [.int 2, .int i1, .ref k0], h) Q := t_go k_209_74 rfl
theorem k_209_75 : lk 209 75 = some (.if_icmp .ne 10, 78, 85, 0, .null) := by decide +kernel
theorem x_209_75 : Tr sc d 209 (75, [l0, l1, l2, l3, l4], [.int i2, .int i1, .ref k0], h) Q = if i1 = i2 then Tr sc d 209 (78, [l0, l1, l2, l3, l4], [.ref k0], h) Q else Tr sc d 209 (85, [l0, l1, l2, l3, l4], [.ref k0], h) Q := t_if k_209_75 rfl
theorem k_209_78 : lk 209 78 = some (.aload_n 0, 79, 0, 0, .null) := by decide +kernel
theorem x_209_78 : Tr sc d 209 (78, [some (.ref xk), l1, l2, l3, l4], [.ref k0], h) Q = Tr sc d 209 (79, [some (.ref xk), l1, l2, l3, l4], [.ref xk, .ref k0], h) Q := t_aload_n k_209_78 rfl
theorem k_209_79 : lk 209 79 = some (.getfield 298, 82, 10, 43, .int 0) := by decide +kernel
theorem x_209_79 : Tr sc d 209 (79, [l0, l1, l2, l3, l4], [.ref k1, .ref k0], h) Q = (okp h k1 10 = true ∧ Tr sc d 209 (82, [l0, l1, l2, l3, l4], [.int (hI h k1 43), .ref k0], h) Q) := t_gd k_209_79 rfl
theorem k_209_82 : lk 209 82 = some (.goto 7, 85, 89, 0, .null) := by decide +kernel
theorem x_209_82 : Tr sc d 209 (82, [l0, l1, l2, l3, l4], [.int i1, .ref k0], h) Q = Tr sc d 209 (89, [l0, l1, l2, l3, l4], [.int i1, .ref k0], h) Q := t_go k_209_82 rfl
theorem k_209_85 : lk 209 85 = some (.aload_n 0, 86, 0, 0, .null) := by decide +kernel
theorem x_209_85 : Tr sc d 209 (85, [some (.ref xk), l1, l2, l3, l4], [.ref k0], h) Q = Tr sc d 209 (86, [some (.ref xk), l1, l2, l3, l4], [.ref xk, .ref k0], h) Q := t_aload_n k_209_85 rfl
theorem k_209_86 : lk 209 86 = some (.getfield 301, 89, 10, 44, .int 0) := by decide +kernel
theorem x_209_86 : Tr sc d 209 (86, [l0, l1, l2, l3, l4], [.ref k1, .ref k0], h) Q = (okp h k1 10 = true ∧ Tr sc d 209 (89, [l0, l1, l2, l3, l4], [.int (hI h k1 44), .ref k0], h) Q) := t_gd k_209_86 rfl
theorem k_209_89 : lk 209 89 = some (.iconst 1, 90, 0, 0, .int 1) := by decide +kernel
theorem x_209_89 : Tr sc d 209 (89, [l0, l1, l2, l3, l4], [.int i1, .ref k0], h) Q = Tr sc d 209 (90, [l0, l1, l2, l3, l4], [.int 1, .int i1, .ref k0], h) Q := t_go k_209_89 rfl
theorem k_209_90 : lk 209 90 = some (.invokevirtual 162, 93, 159, 2, .null) := by decide +kernel
theorem x_209_90 : Tr sc (d + 1) 209 (90, [l0, l1, l2, l3, l4], [.int i2, .int i1, .ref k0], h) Q = (okp h k0 10 = true ∧ Tr sc d 159 (ent0 159 [.ref k0, .int i1, .int i2] h) (fun z => Tr sc (d + 1) 209 (93, [l0, l1, l2, l3, l4], z.1.toList ++ [], z.2) Q)) := t_cv (as := [.int i1, .int i2]) (r := []) k_209_90 rfl rfl (Nat.le_of_ble_eq_true rfl) (Nat.le_of_ble_eq_true rfl) (Nat.le_of_ble_eq_true rfl)
theorem k_209_93 : lk 209 93 = some (.ireturn, 94, 0, 0, .null) := by decide +kernel
theorem x_209_93 : Tr sc d 209 (93, [l0, l1, l2, l3, l4], [.int i0], h) Q = Q (some (.int i0), h) := t_ret k_209_93 (by rw [r_209]; rfl)
theorem e_209 : Tr sc d 209 (ent0 209 [.ref k0, .int i1, .int i2, .int i3] h) Q = Tr sc d 209 (0, [some (.ref k0), some (.int i1), some (.int i2), some (.int i3), none], [], h) Q := by
  have e : mL 209 = 5 := by decide +kernel
  unfold ent0
  rw [e]
  rfl
theorem r_210 : mR 210 = some .int := by decide +kernel
theorem k_210_0 : lk 210 0 = some (.aload_n 0, 1, 0, 0, .null) := by decide +kernel
theorem x_210_0 : Tr sc d 210 (0, [some (.ref xk), l1, l2, l3], [], h) Q = Tr sc d 210 (1, [some (.ref xk), l1, l2, l3], [.ref xk], h) Q := t_aload_n k_210_0 rfl
theorem k_210_1 : lk 210 1 = some (.iload_n 1, 2, 1, 0, .null) := by decide +kernel
theorem x_210_1 : Tr sc d 210 (1, [l0, some (.int x), l2, l3], [.ref k0], h) Q = Tr sc d 210 (2, [l0, some (.int x), l2, l3], [.int x, .ref k0], h) Q := t_iload_n k_210_1 rfl
theorem k_210_2 : lk 210 2 = some (.invokevirtual 220, 5, 177, 1, .null) := by decide +kernel
theorem x_210_2 : Tr sc (d + 1) 210 (2, [l0, l1, l2, l3], [.int i1, .ref k0], h) Q = (okp h k0 10 = true ∧ Tr sc d 177 (ent0 177 [.ref k0, .int i1] h) (fun z => Tr sc (d + 1) 210 (5, [l0, l1, l2, l3], z.1.toList ++ [], z.2) Q)) := t_cv (as := [.int i1]) (r := []) k_210_2 rfl rfl (Nat.le_of_ble_eq_true rfl) (Nat.le_of_ble_eq_true rfl) (Nat.le_of_ble_eq_true rfl)
theorem k_210_5 : lk 210 5 = some (.istore_n 2, 6, 2, 0, .null) := by decide +kernel
theorem x_210_5 : Tr sc d 210 (5, [l0, l1, l2, l3], [.int i0], h) Q = Tr sc d 210 (6, [l0, cl2 l1, some (.int i0), l3], [], h) Q := t_istore_n k_210_5 (Nat.le_of_ble_eq_true rfl)
theorem k_210_6 : lk 210 6 = some (.iload_n 2, 7, 2, 0, .null) := by decide +kernel
theorem x_210_6 : Tr sc d 210 (6, [l0, l1, some (.int x), l3], [], h) Q = Tr sc d 210 (7, [l0, l1, some (.int x), l3], [.int x], h) Q := t_iload_n k_210_6 rfl
theorem k_210_7 : lk 210 7 = some (.ifCond .ge 5, 10, 12, 0, .null) := by decide +kernel
theorem x_210_7 : Tr sc d 210 (7, [l0, l1, l2, l3], [.int i0], h) Q = if 0 ≤ i0 then Tr sc d 210 (12, [l0, l1, l2, l3], [], h) Q else Tr sc d 210 (10, [l0, l1, l2, l3], [], h) Q := t_if k_210_7 rfl
theorem k_210_10 : lk 210 10 = some (.iload_n 2, 11, 2, 0, .null) := by decide +kernel
theorem x_210_10 : Tr sc d 210 (10, [l0, l1, some (.int x), l3], [], h) Q = Tr sc d 210 (11, [l0, l1, some (.int x), l3], [.int x], h) Q := t_iload_n k_210_10 rfl
theorem k_210_11 : lk 210 11 = some (.ireturn, 12, 0, 0, .null) := by decide +kernel
theorem x_210_11 : Tr sc d 210 (11, [l0, l1, l2, l3], [.int i0], h) Q = Q (some (.int i0), h) := t_ret k_210_11 (by rw [r_210]; rfl)
theorem k_210_12 : lk 210 12 = some (.iconst 1, 13, 0, 0, .int 1) := by decide +kernel
theorem x_210_12 : Tr sc d 210 (12, [l0, l1, l2, l3], [], h) Q = Tr sc d 210 (13, [l0, l1, l2, l3], [.int 1], h) Q := t_go k_210_12 rfl
theorem k_210_13 : lk 210 13 = some (.istore_n 3, 14, 3, 0, .null) := by decide +kernel
theorem x_210_13 : Tr sc d 210 (13, [l0, l1, l2, l3], [.int i0], h) Q = Tr sc d 210 (14, [l0, l1, cl2 l2, some (.int i0)], [], h) Q := t_istore_n k_210_13 (Nat.le_of_ble_eq_true rfl)
theorem k_210_14 : lk 210 14 = some (.iload_n 3, 15, 3, 0, .null) := by decide +kernel
theorem x_210_14 : Tr sc d 210 (14, [l0, l1, l2, some (.int x)], [], h) Q = Tr sc d 210 (15, [l0, l1, l2, some (.int x)], [.int x], h) Q := t_iload_n k_210_14 rfl
theorem k_210_15 : lk 210 15 = some (.iconst 5, 16, 0, 0, .int 5) := by decide +kernel
theorem x_210_15 : Tr sc d 210 (15, [l0, l1, l2, l3], [.int i0], h) Q = Tr sc d 210 (16, [l0, l1, l2, l3], [.int 5, .int i0], h) Q := t_go k_210_15 rfl
theorem k_210_16 : lk 210 16 = some (.if_icmp .gt 34, 19, 50, 0, .null) := by decide +kernel
theorem x_210_16 : Tr sc d 210 (16, [l0, l1, l2, l3], [.int i1, .int i0], h) Q = if i1 < i0 then Tr sc d 210 (50, [l0, l1, l2, l3], [], h) Q else Tr sc d 210 (19, [l0, l1, l2, l3], [], h) Q := t_if k_210_16 rfl
theorem k_210_19 : lk 210 19 = some (.aload_n 0, 20, 0, 0, .null) := by decide +kernel
theorem x_210_19 : Tr sc d 210 (19, [some (.ref xk), l1, l2, l3], [], h) Q = Tr sc d 210 (20, [some (.ref xk), l1, l2, l3], [.ref xk], h) Q := t_aload_n k_210_19 rfl
theorem k_210_20 : lk 210 20 = some (.iload_n 1, 21, 1, 0, .null) := by decide +kernel
theorem x_210_20 : Tr sc d 210 (20, [l0, some (.int x), l2, l3], [.ref k0], h) Q = Tr sc d 210 (21, [l0, some (.int x), l2, l3], [.int x, .ref k0], h) Q := t_iload_n k_210_20 rfl
theorem k_210_21 : lk 210 21 = some (.iload_n 3, 22, 3, 0, .null) := by decide +kernel
theorem x_210_21 : Tr sc d 210 (21, [l0, l1, l2, some (.int x)], [.int i1, .ref k0], h) Q = Tr sc d 210 (22, [l0, l1, l2, some (.int x)], [.int x, .int i1, .ref k0], h) Q := t_iload_n k_210_21 rfl
theorem k_210_22 : lk 210 22 = some (.invokevirtual 307, 25, 204, 2, .null) := by decide +kernel
theorem x_210_22 : Tr sc (d + 1) 210 (22, [l0, l1, l2, l3], [.int i2, .int i1, .ref k0], h) Q = (okp h k0 10 = true ∧ Tr sc d 204 (ent0 204 [.ref k0, .int i1, .int i2] h) (fun z => Tr sc (d + 1) 210 (25, [l0, l1, l2, l3], z.1.toList ++ [], z.2) Q)) := t_cv (as := [.int i1, .int i2]) (r := []) k_210_22 rfl rfl (Nat.le_of_ble_eq_true rfl) (Nat.le_of_ble_eq_true rfl) (Nat.le_of_ble_eq_true rfl)
theorem k_210_25 : lk 210 25 = some (.aload_n 0, 26, 0, 0, .null) := by decide +kernel
theorem x_210_25 : Tr sc d 210 (25, [some (.ref xk), l1, l2, l3], [], h) Q = Tr sc d 210 (26, [some (.ref xk), l1, l2, l3], [.ref xk], h) Q := t_aload_n k_210_25 rfl
theorem k_210_26 : lk 210 26 = some (.getfield 283, 29, 10, 36, .int 0) := by decide +kernel
theorem x_210_26 : Tr sc d 210 (26, [l0, l1, l2, l3], [.ref k0], h) Q = (okp h k0 10 = true ∧ Tr sc d 210 (29, [l0, l1, l2, l3], [.int (hI h k0 36)], h) Q) := t_gd k_210_26 rfl
theorem k_210_29 : lk 210 29 = some (.aload_n 0, 30, 0, 0, .null) := by decide +kernel
theorem x_210_29 : Tr sc d 210 (29, [some (.ref xk), l1, l2, l3], [.int i0], h) Q = Tr sc d 210 (30, [some (.ref xk), l1, l2, l3], [.ref xk, .int i0], h) Q := t_aload_n k_210_29 rfl
theorem k_210_30 : lk 210 30 = some (.getfield 41, 33, 10, 18, .null) := by decide +kernel
theorem x_210_30 : Tr sc d 210 (30, [l0, l1, l2, l3], [.ref k1, .int i0], h) Q = (okp h k1 10 = true ∧ ∃ q, hR h k1 18 = some q ∧ Tr sc d 210 (33, [l0, l1, l2, l3], [.ref q, .int i0], h) Q) := t_getr k_210_30
theorem k_210_33 : lk 210 33 = some (.iload_n 1, 34, 1, 0, .null) := by decide +kernel
theorem x_210_33 : Tr sc d 210 (33, [l0, some (.int x), l2, l3], [.ref k1, .int i0], h) Q = Tr sc d 210 (34, [l0, some (.int x), l2, l3], [.int x, .ref k1, .int i0], h) Q := t_iload_n k_210_33 rfl
theorem k_210_34 : lk 210 34 = some (.iaload, 35, 0, 0, .null) := by decide +kernel
theorem x_210_34 : Tr sc d 210 (34, [l0, l1, l2, l3], [.int i2, .ref k1, .int i0], h) Q = (iOk sc h k1 i2 ∧ Tr sc d 210 (35, [l0, l1, l2, l3], [.int (iRd sc h k1 i2), .int i0], h) Q) := t_iald k_210_34
theorem k_210_35 : lk 210 35 = some (.iload_n 3, 36, 3, 0, .null) := by decide +kernel
theorem x_210_35 : Tr sc d 210 (35, [l0, l1, l2, some (.int x)], [.int i1, .int i0], h) Q = Tr sc d 210 (36, [l0, l1, l2, some (.int x)], [.int x, .int i1, .int i0], h) Q := t_iload_n k_210_35 rfl
theorem k_210_36 : lk 210 36 = some (.invokestatic 247, 39, 196, 2, .null) := by decide +kernel
theorem x_210_36 : Tr sc (d + 1) 210 (36, [l0, l1, l2, l3], [.int i2, .int i1, .int i0], h) Q = Tr sc d 196 (ent0 196 [.int i1, .int i2] h) (fun z => Tr sc (d + 1) 210 (39, [l0, l1, l2, l3], z.1.toList ++ [.int i0], z.2) Q) := t_cs (as := [.int i1, .int i2]) (r := [.int i0]) k_210_36 (by decide) rfl rfl (Nat.le_of_ble_eq_true rfl) (Nat.le_of_ble_eq_true rfl)
theorem k_210_39 : lk 210 39 = some (.if_icmp .eq 5, 42, 44, 0, .null) := by decide +kernel
theorem x_210_39 : Tr sc d 210 (39, [l0, l1, l2, l3], [.int i1, .int i0], h) Q = if i0 = i1 then Tr sc d 210 (44, [l0, l1, l2, l3], [], h) Q else Tr sc d 210 (42, [l0, l1, l2, l3], [], h) Q := t_if k_210_39 rfl
theorem k_210_42 : lk 210 42 = some (.iload_n 3, 43, 3, 0, .null) := by decide +kernel
theorem x_210_42 : Tr sc d 210 (42, [l0, l1, l2, some (.int x)], [], h) Q = Tr sc d 210 (43, [l0, l1, l2, some (.int x)], [.int x], h) Q := t_iload_n k_210_42 rfl
theorem k_210_43 : lk 210 43 = some (.ireturn, 44, 0, 0, .null) := by decide +kernel
theorem x_210_43 : Tr sc d 210 (43, [l0, l1, l2, l3], [.int i0], h) Q = Q (some (.int i0), h) := t_ret k_210_43 (by rw [r_210]; rfl)
theorem k_210_44 : lk 210 44 = some (.iinc 3 1, 47, 3, 0, .int 1) := by decide +kernel
theorem x_210_44 : Tr sc d 210 (44, [l0, l1, l2, some (.int x)], [], h) Q = Tr sc d 210 (47, [l0, l1, cl2 l2, some (.int (x + 1))], [], h) Q := t_inc k_210_44 rfl (Nat.le_of_ble_eq_true rfl)
theorem k_210_47 : lk 210 47 = some (.goto (-33), 50, 14, 0, .null) := by decide +kernel
theorem x_210_47 : Tr sc d 210 (47, [l0, l1, l2, l3], [], h) Q = Tr sc d 210 (14, [l0, l1, l2, l3], [], h) Q := t_go k_210_47 rfl
theorem k_210_50 : lk 210 50 = some (.bipush (-9), 52, 0, 0, .int (-9)) := by decide +kernel
theorem x_210_50 : Tr sc d 210 (50, [l0, l1, l2, l3], [], h) Q = Tr sc d 210 (52, [l0, l1, l2, l3], [.int (-9)], h) Q := t_go k_210_50 rfl
theorem k_210_52 : lk 210 52 = some (.ireturn, 53, 0, 0, .null) := by decide +kernel
theorem x_210_52 : Tr sc d 210 (52, [l0, l1, l2, l3], [.int i0], h) Q = Q (some (.int i0), h) := t_ret k_210_52 (by rw [r_210]; rfl)
theorem e_210 : Tr sc d 210 (ent0 210 [.ref k0, .int i1] h) Q = Tr sc d 210 (0, [some (.ref k0), some (.int i1), none, none], [], h) Q := by
  have e : mL 210 = 4 := by decide +kernel
  unfold ent0
  rw [e]
  rfl
theorem r_211 : mR 211 = some .int := by decide +kernel
theorem k_211_0 : lk 211 0 = some (.iconst 0, 1, 0, 0, .int 0) := by decide +kernel
theorem x_211_0 : Tr sc d 211 (0, [l0, l1, l2, l3, l4, l5, l6], [], h) Q = Tr sc d 211 (1, [l0, l1, l2, l3, l4, l5, l6], [.int 0], h) Q := t_go k_211_0 rfl
theorem k_211_1 : lk 211 1 = some (.istore_n 2, 2, 2, 0, .null) := by decide +kernel
theorem x_211_1 : Tr sc d 211 (1, [l0, l1, l2, l3, l4, l5, l6], [.int i0], h) Q = Tr sc d 211 (2, [l0, cl2 l1, some (.int i0), l3, l4, l5, l6], [], h) Q := t_istore_n k_211_1 (Nat.le_of_ble_eq_true rfl)
theorem k_211_2 : lk 211 2 = some (.iconst 0, 3, 0, 0, .int 0) := by decide +kernel
theorem x_211_2 : Tr sc d 211 (2, [l0, l1, l2, l3, l4, l5, l6], [], h) Q = Tr sc d 211 (3, [l0, l1, l2, l3, l4, l5, l6], [.int 0], h) Q := t_go k_211_2 rfl
theorem k_211_3 : lk 211 3 = some (.istore_n 3, 4, 3, 0, .null) := by decide +kernel
theorem x_211_3 : Tr sc d 211 (3, [l0, l1, l2, l3, l4, l5, l6], [.int i0], h) Q = Tr sc d 211 (4, [l0, l1, cl2 l2, some (.int i0), l4, l5, l6], [], h) Q := t_istore_n k_211_3 (Nat.le_of_ble_eq_true rfl)
theorem k_211_4 : lk 211 4 = some (.iload_n 3, 5, 3, 0, .null) := by decide +kernel
theorem x_211_4 : Tr sc d 211 (4, [l0, l1, l2, some (.int x), l4, l5, l6], [], h) Q = Tr sc d 211 (5, [l0, l1, l2, some (.int x), l4, l5, l6], [.int x], h) Q := t_iload_n k_211_4 rfl
theorem k_211_5 : lk 211 5 = some (.aload_n 0, 6, 0, 0, .null) := by decide +kernel
theorem x_211_5 : Tr sc d 211 (5, [some (.ref xk), l1, l2, l3, l4, l5, l6], [.int i0], h) Q = Tr sc d 211 (6, [some (.ref xk), l1, l2, l3, l4, l5, l6], [.ref xk, .int i0], h) Q := t_aload_n k_211_5 rfl
theorem k_211_6 : lk 211 6 = some (.getfield 41, 9, 10, 18, .null) := by decide +kernel
theorem x_211_6 : Tr sc d 211 (6, [l0, l1, l2, l3, l4, l5, l6], [.ref k1, .int i0], h) Q = (okp h k1 10 = true ∧ ∃ q, hR h k1 18 = some q ∧ Tr sc d 211 (9, [l0, l1, l2, l3, l4, l5, l6], [.ref q, .int i0], h) Q) := t_getr k_211_6
theorem k_211_9 : lk 211 9 = some (.iload_n 1, 10, 1, 0, .null) := by decide +kernel
theorem x_211_9 : Tr sc d 211 (9, [l0, some (.int x), l2, l3, l4, l5, l6], [.ref k1, .int i0], h) Q = Tr sc d 211 (10, [l0, some (.int x), l2, l3, l4, l5, l6], [.int x, .ref k1, .int i0], h) Q := t_iload_n k_211_9 rfl
theorem k_211_10 : lk 211 10 = some (.iaload, 11, 0, 0, .null) := by decide +kernel
theorem x_211_10 : Tr sc d 211 (10, [l0, l1, l2, l3, l4, l5, l6], [.int i2, .ref k1, .int i0], h) Q = (iOk sc h k1 i2 ∧ Tr sc d 211 (11, [l0, l1, l2, l3, l4, l5, l6], [.int (iRd sc h k1 i2), .int i0], h) Q) := t_iald k_211_10
theorem k_211_11 : lk 211 11 = some (.if_icmp .ge 107, 14, 118, 0, .null) := by decide +kernel
theorem x_211_11 : Tr sc d 211 (11, [l0, l1, l2, l3, l4, l5, l6], [.int i1, .int i0], h) Q = if i1 ≤ i0 then Tr sc d 211 (118, [l0, l1, l2, l3, l4, l5, l6], [], h) Q else Tr sc d 211 (14, [l0, l1, l2, l3, l4, l5, l6], [], h) Q := t_if k_211_11 rfl
theorem k_211_14 : lk 211 14 = some (.iconst 0, 15, 0, 0, .int 0) := by decide +kernel
theorem x_211_14 : Tr sc d 211 (14, [l0, l1, l2, l3, l4, l5, l6], [], h) Q = Tr sc d 211 (15, [l0, l1, l2, l3, l4, l5, l6], [.int 0], h) Q := t_go k_211_14 rfl
theorem k_211_15 : lk 211 15 = some (.istore 4, 17, 4, 0, .null) := by decide +kernel
theorem x_211_15 : Tr sc d 211 (15, [l0, l1, l2, l3, l4, l5, l6], [.int i0], h) Q = Tr sc d 211 (17, [l0, l1, l2, cl2 l3, some (.int i0), l5, l6], [], h) Q := t_istore k_211_15 (Nat.le_of_ble_eq_true rfl)
theorem k_211_17 : lk 211 17 = some (.iload 4, 19, 4, 0, .null) := by decide +kernel
theorem x_211_17 : Tr sc d 211 (17, [l0, l1, l2, l3, some (.int x), l5, l6], [], h) Q = Tr sc d 211 (19, [l0, l1, l2, l3, some (.int x), l5, l6], [.int x], h) Q := t_iload k_211_17 rfl
theorem k_211_19 : lk 211 19 = some (.aload_n 0, 20, 0, 0, .null) := by decide +kernel
theorem x_211_19 : Tr sc d 211 (19, [some (.ref xk), l1, l2, l3, l4, l5, l6], [.int i0], h) Q = Tr sc d 211 (20, [some (.ref xk), l1, l2, l3, l4, l5, l6], [.ref xk, .int i0], h) Q := t_aload_n k_211_19 rfl
theorem k_211_20 : lk 211 20 = some (.getfield 41, 23, 10, 18, .null) := by decide +kernel
theorem x_211_20 : Tr sc d 211 (20, [l0, l1, l2, l3, l4, l5, l6], [.ref k1, .int i0], h) Q = (okp h k1 10 = true ∧ ∃ q, hR h k1 18 = some q ∧ Tr sc d 211 (23, [l0, l1, l2, l3, l4, l5, l6], [.ref q, .int i0], h) Q) := t_getr k_211_20
theorem k_211_23 : lk 211 23 = some (.iload_n 1, 24, 1, 0, .null) := by decide +kernel
theorem x_211_23 : Tr sc d 211 (23, [l0, some (.int x), l2, l3, l4, l5, l6], [.ref k1, .int i0], h) Q = Tr sc d 211 (24, [l0, some (.int x), l2, l3, l4, l5, l6], [.int x, .ref k1, .int i0], h) Q := t_iload_n k_211_23 rfl
theorem k_211_24 : lk 211 24 = some (.iaload, 25, 0, 0, .null) := by decide +kernel
theorem x_211_24 : Tr sc d 211 (24, [l0, l1, l2, l3, l4, l5, l6], [.int i2, .ref k1, .int i0], h) Q = (iOk sc h k1 i2 ∧ Tr sc d 211 (25, [l0, l1, l2, l3, l4, l5, l6], [.int (iRd sc h k1 i2), .int i0], h) Q) := t_iald k_211_24
theorem k_211_25 : lk 211 25 = some (.if_icmp .ge 87, 28, 112, 0, .null) := by decide +kernel
theorem x_211_25 : Tr sc d 211 (25, [l0, l1, l2, l3, l4, l5, l6], [.int i1, .int i0], h) Q = if i1 ≤ i0 then Tr sc d 211 (112, [l0, l1, l2, l3, l4, l5, l6], [], h) Q else Tr sc d 211 (28, [l0, l1, l2, l3, l4, l5, l6], [], h) Q := t_if k_211_25 rfl
theorem k_211_28 : lk 211 28 = some (.aload_n 0, 29, 0, 0, .null) := by decide +kernel
theorem x_211_28 : Tr sc d 211 (28, [some (.ref xk), l1, l2, l3, l4, l5, l6], [], h) Q = Tr sc d 211 (29, [some (.ref xk), l1, l2, l3, l4, l5, l6], [.ref xk], h) Q := t_aload_n k_211_28 rfl
theorem k_211_29 : lk 211 29 = some (.getfield 47, 32, 10, 20, .null) := by decide +kernel
theorem x_211_29 : Tr sc d 211 (29, [l0, l1, l2, l3, l4, l5, l6], [.ref k0], h) Q = (okp h k0 10 = true ∧ ∃ q, hR h k0 20 = some q ∧ Tr sc d 211 (32, [l0, l1, l2, l3, l4, l5, l6], [.ref q], h) Q) := t_getr k_211_29
theorem k_211_32 : lk 211 32 = some (.bipush 6, 34, 0, 0, .int 6) := by decide +kernel
theorem x_211_32 : Tr sc d 211 (32, [l0, l1, l2, l3, l4, l5, l6], [.ref k0], h) Q = Tr sc d 211 (34, [l0, l1, l2, l3, l4, l5, l6], [.int 6, .ref k0], h) Q := t_go k_211_32 rfl
theorem k_211_34 : lk 211 34 = some (.iload_n 1, 35, 1, 0, .null) := by decide +kernel
theorem x_211_34 : Tr sc d 211 (34, [l0, some (.int x), l2, l3, l4, l5, l6], [.int i1, .ref k0], h) Q = Tr sc d 211 (35, [l0, some (.int x), l2, l3, l4, l5, l6], [.int x, .int i1, .ref k0], h) Q := t_iload_n k_211_34 rfl
theorem k_211_35 : lk 211 35 = some (.imul, 36, 0, 0, .null) := by decide +kernel
theorem x_211_35 : Tr sc d 211 (35, [l0, l1, l2, l3, l4, l5, l6], [.int i2, .int i1, .ref k0], h) Q = Tr sc d 211 (36, [l0, l1, l2, l3, l4, l5, l6], [.int (i1 * i2), .ref k0], h) Q := t_go k_211_35 rfl
theorem k_211_36 : lk 211 36 = some (.iload 4, 38, 4, 0, .null) := by decide +kernel
theorem x_211_36 : Tr sc d 211 (36, [l0, l1, l2, l3, some (.int x), l5, l6], [.int i1, .ref k0], h) Q = Tr sc d 211 (38, [l0, l1, l2, l3, some (.int x), l5, l6], [.int x, .int i1, .ref k0], h) Q := t_iload k_211_36 rfl
theorem k_211_38 : lk 211 38 = some (.iadd, 39, 0, 0, .null) := by decide +kernel
theorem x_211_38 : Tr sc d 211 (38, [l0, l1, l2, l3, l4, l5, l6], [.int i2, .int i1, .ref k0], h) Q = Tr sc d 211 (39, [l0, l1, l2, l3, l4, l5, l6], [.int (i1 + i2), .ref k0], h) Q := t_go k_211_38 rfl
theorem k_211_39 : lk 211 39 = some (.iaload, 40, 0, 0, .null) := by decide +kernel
theorem x_211_39 : Tr sc d 211 (39, [l0, l1, l2, l3, l4, l5, l6], [.int i1, .ref k0], h) Q = (iOk sc h k0 i1 ∧ Tr sc d 211 (40, [l0, l1, l2, l3, l4, l5, l6], [.int (iRd sc h k0 i1)], h) Q) := t_iald k_211_39
theorem k_211_40 : lk 211 40 = some (.aload_n 0, 41, 0, 0, .null) := by decide +kernel
theorem x_211_40 : Tr sc d 211 (40, [some (.ref xk), l1, l2, l3, l4, l5, l6], [.int i0], h) Q = Tr sc d 211 (41, [some (.ref xk), l1, l2, l3, l4, l5, l6], [.ref xk, .int i0], h) Q := t_aload_n k_211_40 rfl
theorem k_211_41 : lk 211 41 = some (.getfield 47, 44, 10, 20, .null) := by decide +kernel
theorem x_211_41 : Tr sc d 211 (41, [l0, l1, l2, l3, l4, l5, l6], [.ref k1, .int i0], h) Q = (okp h k1 10 = true ∧ ∃ q, hR h k1 20 = some q ∧ Tr sc d 211 (44, [l0, l1, l2, l3, l4, l5, l6], [.ref q, .int i0], h) Q) := t_getr k_211_41
theorem k_211_44 : lk 211 44 = some (.bipush 6, 46, 0, 0, .int 6) := by decide +kernel
theorem x_211_44 : Tr sc d 211 (44, [l0, l1, l2, l3, l4, l5, l6], [.ref k1, .int i0], h) Q = Tr sc d 211 (46, [l0, l1, l2, l3, l4, l5, l6], [.int 6, .ref k1, .int i0], h) Q := t_go k_211_44 rfl
theorem k_211_46 : lk 211 46 = some (.iload_n 1, 47, 1, 0, .null) := by decide +kernel
theorem x_211_46 : Tr sc d 211 (46, [l0, some (.int x), l2, l3, l4, l5, l6], [.int i2, .ref k1, .int i0], h) Q = Tr sc d 211 (47, [l0, some (.int x), l2, l3, l4, l5, l6], [.int x, .int i2, .ref k1, .int i0], h) Q := t_iload_n k_211_46 rfl
theorem k_211_47 : lk 211 47 = some (.imul, 48, 0, 0, .null) := by decide +kernel
theorem x_211_47 : Tr sc d 211 (47, [l0, l1, l2, l3, l4, l5, l6], [.int i3, .int i2, .ref k1, .int i0], h) Q = Tr sc d 211 (48, [l0, l1, l2, l3, l4, l5, l6], [.int (i2 * i3), .ref k1, .int i0], h) Q := t_go k_211_47 rfl
theorem k_211_48 : lk 211 48 = some (.iload_n 3, 49, 3, 0, .null) := by decide +kernel
theorem x_211_48 : Tr sc d 211 (48, [l0, l1, l2, some (.int x), l4, l5, l6], [.int i2, .ref k1, .int i0], h) Q = Tr sc d 211 (49, [l0, l1, l2, some (.int x), l4, l5, l6], [.int x, .int i2, .ref k1, .int i0], h) Q := t_iload_n k_211_48 rfl
theorem k_211_49 : lk 211 49 = some (.iadd, 50, 0, 0, .null) := by decide +kernel
theorem x_211_49 : Tr sc d 211 (49, [l0, l1, l2, l3, l4, l5, l6], [.int i3, .int i2, .ref k1, .int i0], h) Q = Tr sc d 211 (50, [l0, l1, l2, l3, l4, l5, l6], [.int (i2 + i3), .ref k1, .int i0], h) Q := t_go k_211_49 rfl
theorem k_211_50 : lk 211 50 = some (.iaload, 51, 0, 0, .null) := by decide +kernel
theorem x_211_50 : Tr sc d 211 (50, [l0, l1, l2, l3, l4, l5, l6], [.int i2, .ref k1, .int i0], h) Q = (iOk sc h k1 i2 ∧ Tr sc d 211 (51, [l0, l1, l2, l3, l4, l5, l6], [.int (iRd sc h k1 i2), .int i0], h) Q) := t_iald k_211_50
theorem k_211_51 : lk 211 51 = some (.isub, 52, 0, 0, .null) := by decide +kernel
theorem x_211_51 : Tr sc d 211 (51, [l0, l1, l2, l3, l4, l5, l6], [.int i1, .int i0], h) Q = Tr sc d 211 (52, [l0, l1, l2, l3, l4, l5, l6], [.int (i0 - i1)], h) Q := t_go k_211_51 rfl
theorem k_211_52 : lk 211 52 = some (.istore 5, 54, 5, 0, .null) := by decide +kernel
theorem x_211_52 : Tr sc d 211 (52, [l0, l1, l2, l3, l4, l5, l6], [.int i0], h) Q = Tr sc d 211 (54, [l0, l1, l2, l3, cl2 l4, some (.int i0), l6], [], h) Q := t_istore k_211_52 (Nat.le_of_ble_eq_true rfl)
theorem k_211_54 : lk 211 54 = some (.aload_n 0, 55, 0, 0, .null) := by decide +kernel
theorem x_211_54 : Tr sc d 211 (54, [some (.ref xk), l1, l2, l3, l4, l5, l6], [], h) Q = Tr sc d 211 (55, [some (.ref xk), l1, l2, l3, l4, l5, l6], [.ref xk], h) Q := t_aload_n k_211_54 rfl
theorem k_211_55 : lk 211 55 = some (.getfield 50, 58, 10, 21, .null) := by decide +kernel
theorem x_211_55 : Tr sc d 211 (55, [l0, l1, l2, l3, l4, l5, l6], [.ref k0], h) Q = (okp h k0 10 = true ∧ ∃ q, hR h k0 21 = some q ∧ Tr sc d 211 (58, [l0, l1, l2, l3, l4, l5, l6], [.ref q], h) Q) := t_getr k_211_55
theorem k_211_58 : lk 211 58 = some (.bipush 6, 60, 0, 0, .int 6) := by decide +kernel
theorem x_211_58 : Tr sc d 211 (58, [l0, l1, l2, l3, l4, l5, l6], [.ref k0], h) Q = Tr sc d 211 (60, [l0, l1, l2, l3, l4, l5, l6], [.int 6, .ref k0], h) Q := t_go k_211_58 rfl
theorem k_211_60 : lk 211 60 = some (.iload_n 1, 61, 1, 0, .null) := by decide +kernel
theorem x_211_60 : Tr sc d 211 (60, [l0, some (.int x), l2, l3, l4, l5, l6], [.int i1, .ref k0], h) Q = Tr sc d 211 (61, [l0, some (.int x), l2, l3, l4, l5, l6], [.int x, .int i1, .ref k0], h) Q := t_iload_n k_211_60 rfl
theorem k_211_61 : lk 211 61 = some (.imul, 62, 0, 0, .null) := by decide +kernel
theorem x_211_61 : Tr sc d 211 (61, [l0, l1, l2, l3, l4, l5, l6], [.int i2, .int i1, .ref k0], h) Q = Tr sc d 211 (62, [l0, l1, l2, l3, l4, l5, l6], [.int (i1 * i2), .ref k0], h) Q := t_go k_211_61 rfl
theorem k_211_62 : lk 211 62 = some (.iload 4, 64, 4, 0, .null) := by decide +kernel
theorem x_211_62 : Tr sc d 211 (62, [l0, l1, l2, l3, some (.int x), l5, l6], [.int i1, .ref k0], h) Q = Tr sc d 211 (64, [l0, l1, l2, l3, some (.int x), l5, l6], [.int x, .int i1, .ref k0], h) Q := t_iload k_211_62 rfl
theorem k_211_64 : lk 211 64 = some (.iadd, 65, 0, 0, .null) := by decide +kernel
theorem x_211_64 : Tr sc d 211 (64, [l0, l1, l2, l3, l4, l5, l6], [.int i2, .int i1, .ref k0], h) Q = Tr sc d 211 (65, [l0, l1, l2, l3, l4, l5, l6], [.int (i1 + i2), .ref k0], h) Q := t_go k_211_64 rfl
theorem k_211_65 : lk 211 65 = some (.iaload, 66, 0, 0, .null) := by decide +kernel
theorem x_211_65 : Tr sc d 211 (65, [l0, l1, l2, l3, l4, l5, l6], [.int i1, .ref k0], h) Q = (iOk sc h k0 i1 ∧ Tr sc d 211 (66, [l0, l1, l2, l3, l4, l5, l6], [.int (iRd sc h k0 i1)], h) Q) := t_iald k_211_65
theorem k_211_66 : lk 211 66 = some (.aload_n 0, 67, 0, 0, .null) := by decide +kernel
theorem x_211_66 : Tr sc d 211 (66, [some (.ref xk), l1, l2, l3, l4, l5, l6], [.int i0], h) Q = Tr sc d 211 (67, [some (.ref xk), l1, l2, l3, l4, l5, l6], [.ref xk, .int i0], h) Q := t_aload_n k_211_66 rfl
theorem k_211_67 : lk 211 67 = some (.getfield 50, 70, 10, 21, .null) := by decide +kernel
theorem x_211_67 : Tr sc d 211 (67, [l0, l1, l2, l3, l4, l5, l6], [.ref k1, .int i0], h) Q = (okp h k1 10 = true ∧ ∃ q, hR h k1 21 = some q ∧ Tr sc d 211 (70, [l0, l1, l2, l3, l4, l5, l6], [.ref q, .int i0], h) Q) := t_getr k_211_67
theorem k_211_70 : lk 211 70 = some (.bipush 6, 72, 0, 0, .int 6) := by decide +kernel
theorem x_211_70 : Tr sc d 211 (70, [l0, l1, l2, l3, l4, l5, l6], [.ref k1, .int i0], h) Q = Tr sc d 211 (72, [l0, l1, l2, l3, l4, l5, l6], [.int 6, .ref k1, .int i0], h) Q := t_go k_211_70 rfl
theorem k_211_72 : lk 211 72 = some (.iload_n 1, 73, 1, 0, .null) := by decide +kernel
theorem x_211_72 : Tr sc d 211 (72, [l0, some (.int x), l2, l3, l4, l5, l6], [.int i2, .ref k1, .int i0], h) Q = Tr sc d 211 (73, [l0, some (.int x), l2, l3, l4, l5, l6], [.int x, .int i2, .ref k1, .int i0], h) Q := t_iload_n k_211_72 rfl
theorem k_211_73 : lk 211 73 = some (.imul, 74, 0, 0, .null) := by decide +kernel
theorem x_211_73 : Tr sc d 211 (73, [l0, l1, l2, l3, l4, l5, l6], [.int i3, .int i2, .ref k1, .int i0], h) Q = Tr sc d 211 (74, [l0, l1, l2, l3, l4, l5, l6], [.int (i2 * i3), .ref k1, .int i0], h) Q := t_go k_211_73 rfl
theorem k_211_74 : lk 211 74 = some (.iload_n 3, 75, 3, 0, .null) := by decide +kernel
theorem x_211_74 : Tr sc d 211 (74, [l0, l1, l2, some (.int x), l4, l5, l6], [.int i2, .ref k1, .int i0], h) Q = Tr sc d 211 (75, [l0, l1, l2, some (.int x), l4, l5, l6], [.int x, .int i2, .ref k1, .int i0], h) Q := t_iload_n k_211_74 rfl
theorem k_211_75 : lk 211 75 = some (.iadd, 76, 0, 0, .null) := by decide +kernel
theorem x_211_75 : Tr sc d 211 (75, [l0, l1, l2, l3, l4, l5, l6], [.int i3, .int i2, .ref k1, .int i0], h) Q = Tr sc d 211 (76, [l0, l1, l2, l3, l4, l5, l6], [.int (i2 + i3), .ref k1, .int i0], h) Q := t_go k_211_75 rfl
theorem k_211_76 : lk 211 76 = some (.iaload, 77, 0, 0, .null) := by decide +kernel
theorem x_211_76 : Tr sc d 211 (76, [l0, l1, l2, l3, l4, l5, l6], [.int i2, .ref k1, .int i0], h) Q = (iOk sc h k1 i2 ∧ Tr sc d 211 (77, [l0, l1, l2, l3, l4, l5, l6], [.int (iRd sc h k1 i2), .int i0], h) Q) := t_iald k_211_76
theorem k_211_77 : lk 211 77 = some (.isub, 78, 0, 0, .null) := by decide +kernel
theorem x_211_77 : Tr sc d 211 (77, [l0, l1, l2, l3, l4, l5, l6], [.int i1, .int i0], h) Q = Tr sc d 211 (78, [l0, l1, l2, l3, l4, l5, l6], [.int (i0 - i1)], h) Q := t_go k_211_77 rfl
theorem k_211_78 : lk 211 78 = some (.istore 6, 80, 6, 0, .null) := by decide +kernel
theorem x_211_78 : Tr sc d 211 (78, [l0, l1, l2, l3, l4, l5, l6], [.int i0], h) Q = Tr sc d 211 (80, [l0, l1, l2, l3, l4, cl2 l5, some (.int i0)], [], h) Q := t_istore k_211_78 (Nat.le_of_ble_eq_true rfl)
theorem k_211_80 : lk 211 80 = some (.iload 5, 82, 5, 0, .null) := by decide +kernel
theorem x_211_80 : Tr sc d 211 (80, [l0, l1, l2, l3, l4, some (.int x), l6], [], h) Q = Tr sc d 211 (82, [l0, l1, l2, l3, l4, some (.int x), l6], [.int x], h) Q := t_iload k_211_80 rfl
theorem k_211_82 : lk 211 82 = some (.iload_n 2, 83, 2, 0, .null) := by decide +kernel
theorem x_211_82 : Tr sc d 211 (82, [l0, l1, some (.int x), l3, l4, l5, l6], [.int i0], h) Q = Tr sc d 211 (83, [l0, l1, some (.int x), l3, l4, l5, l6], [.int x, .int i0], h) Q := t_iload_n k_211_82 rfl
theorem k_211_83 : lk 211 83 = some (.if_icmp .le 8, 86, 91, 0, .null) := by decide +kernel
theorem x_211_83 : Tr sc d 211 (83, [l0, l1, l2, l3, l4, l5, l6], [.int i1, .int i0], h) Q = if i0 ≤ i1 then Tr sc d 211 (91, [l0, l1, l2, l3, l4, l5, l6], [], h) Q else Tr sc d 211 (86, [l0, l1, l2, l3, l4, l5, l6], [], h) Q := t_if k_211_83 rfl
theorem k_211_86 : lk 211 86 = some (.iload 5, 88, 5, 0, .null) := by decide +kernel
theorem x_211_86 : Tr sc d 211 (86, [l0, l1, l2, l3, l4, some (.int x), l6], [], h) Q = Tr sc d 211 (88, [l0, l1, l2, l3, l4, some (.int x), l6], [.int x], h) Q := t_iload k_211_86 rfl
theorem k_211_88 : lk 211 88 = some (.goto 4, 91, 92, 0, .null) := by decide +kernel
theorem x_211_88 : Tr sc d 211 (88, [l0, l1, l2, l3, l4, l5, l6], [.int i0], h) Q = Tr sc d 211 (92, [l0, l1, l2, l3, l4, l5, l6], [.int i0], h) Q := t_go k_211_88 rfl
theorem k_211_91 : lk 211 91 = some (.iload_n 2, 92, 2, 0, .null) := by decide +kernel
theorem x_211_91 : Tr sc d 211 (91, [l0, l1, some (.int x), l3, l4, l5, l6], [], h) Q = Tr sc d 211 (92, [l0, l1, some (.int x), l3, l4, l5, l6], [.int x], h) Q := t_iload_n k_211_91 rfl
theorem k_211_92 : lk 211 92 = some (.istore_n 2, 93, 2, 0, .null) := by decide +kernel
theorem x_211_92 : Tr sc d 211 (92, [l0, l1, l2, l3, l4, l5, l6], [.int i0], h) Q = Tr sc d 211 (93, [l0, cl2 l1, some (.int i0), l3, l4, l5, l6], [], h) Q := t_istore_n k_211_92 (Nat.le_of_ble_eq_true rfl)
theorem k_211_93 : lk 211 93 = some (.iload 6, 95, 6, 0, .null) := by decide +kernel
theorem x_211_93 : Tr sc d 211 (93, [l0, l1, l2, l3, l4, l5, some (.int x)], [], h) Q = Tr sc d 211 (95, [l0, l1, l2, l3, l4, l5, some (.int x)], [.int x], h) Q := t_iload k_211_93 rfl
theorem k_211_95 : lk 211 95 = some (.iload_n 2, 96, 2, 0, .null) := by decide +kernel
theorem x_211_95 : Tr sc d 211 (95, [l0, l1, some (.int x), l3, l4, l5, l6], [.int i0], h) Q = Tr sc d 211 (96, [l0, l1, some (.int x), l3, l4, l5, l6], [.int x, .int i0], h) Q := t_iload_n k_211_95 rfl
theorem k_211_96 : lk 211 96 = some (.if_icmp .le 8, 99, 104, 0, .null) := by decide +kernel
theorem x_211_96 : Tr sc d 211 (96, [l0, l1, l2, l3, l4, l5, l6], [.int i1, .int i0], h) Q = if i0 ≤ i1 then Tr sc d 211 (104, [l0, l1, l2, l3, l4, l5, l6], [], h) Q else Tr sc d 211 (99, [l0, l1, l2, l3, l4, l5, l6], [], h) Q := t_if k_211_96 rfl
theorem k_211_99 : lk 211 99 = some (.iload 6, 101, 6, 0, .null) := by decide +kernel
theorem x_211_99 : Tr sc d 211 (99, [l0, l1, l2, l3, l4, l5, some (.int x)], [], h) Q = Tr sc d 211 (101, [l0, l1, l2, l3, l4, l5, some (.int x)], [.int x], h) Q := t_iload k_211_99 rfl
theorem k_211_101 : lk 211 101 = some (.goto 4, 104, 105, 0, .null) := by decide +kernel
theorem x_211_101 : Tr sc d 211 (101, [l0, l1, l2, l3, l4, l5, l6], [.int i0], h) Q = Tr sc d 211 (105, [l0, l1, l2, l3, l4, l5, l6], [.int i0], h) Q := t_go k_211_101 rfl
theorem k_211_104 : lk 211 104 = some (.iload_n 2, 105, 2, 0, .null) := by decide +kernel
theorem x_211_104 : Tr sc d 211 (104, [l0, l1, some (.int x), l3, l4, l5, l6], [], h) Q = Tr sc d 211 (105, [l0, l1, some (.int x), l3, l4, l5, l6], [.int x], h) Q := t_iload_n k_211_104 rfl
theorem k_211_105 : lk 211 105 = some (.istore_n 2, 106, 2, 0, .null) := by decide +kernel
theorem x_211_105 : Tr sc d 211 (105, [l0, l1, l2, l3, l4, l5, l6], [.int i0], h) Q = Tr sc d 211 (106, [l0, cl2 l1, some (.int i0), l3, l4, l5, l6], [], h) Q := t_istore_n k_211_105 (Nat.le_of_ble_eq_true rfl)
theorem k_211_106 : lk 211 106 = some (.iinc 4 1, 109, 4, 0, .int 1) := by decide +kernel
theorem x_211_106 : Tr sc d 211 (106, [l0, l1, l2, l3, some (.int x), l5, l6], [], h) Q = Tr sc d 211 (109, [l0, l1, l2, cl2 l3, some (.int (x + 1)), l5, l6], [], h) Q := t_inc k_211_106 rfl (Nat.le_of_ble_eq_true rfl)
theorem k_211_109 : lk 211 109 = some (.goto (-92), 112, 17, 0, .null) := by decide +kernel
theorem x_211_109 : Tr sc d 211 (109, [l0, l1, l2, l3, l4, l5, l6], [], h) Q = Tr sc d 211 (17, [l0, l1, l2, l3, l4, l5, l6], [], h) Q := t_go k_211_109 rfl
theorem k_211_112 : lk 211 112 = some (.iinc 3 1, 115, 3, 0, .int 1) := by decide +kernel
theorem x_211_112 : Tr sc d 211 (112, [l0, l1, l2, some (.int x), l4, l5, l6], [], h) Q = Tr sc d 211 (115, [l0, l1, cl2 l2, some (.int (x + 1)), l4, l5, l6], [], h) Q := t_inc k_211_112 rfl (Nat.le_of_ble_eq_true rfl)
theorem k_211_115 : lk 211 115 = some (.goto (-111), 118, 4, 0, .null) := by decide +kernel
theorem x_211_115 : Tr sc d 211 (115, [l0, l1, l2, l3, l4, l5, l6], [], h) Q = Tr sc d 211 (4, [l0, l1, l2, l3, l4, l5, l6], [], h) Q := t_go k_211_115 rfl
theorem k_211_118 : lk 211 118 = some (.iload_n 2, 119, 2, 0, .null) := by decide +kernel
theorem x_211_118 : Tr sc d 211 (118, [l0, l1, some (.int x), l3, l4, l5, l6], [], h) Q = Tr sc d 211 (119, [l0, l1, some (.int x), l3, l4, l5, l6], [.int x], h) Q := t_iload_n k_211_118 rfl
theorem k_211_119 : lk 211 119 = some (.aload_n 0, 120, 0, 0, .null) := by decide +kernel
theorem x_211_119 : Tr sc d 211 (119, [some (.ref xk), l1, l2, l3, l4, l5, l6], [.int i0], h) Q = Tr sc d 211 (120, [some (.ref xk), l1, l2, l3, l4, l5, l6], [.ref xk, .int i0], h) Q := t_aload_n k_211_119 rfl
theorem k_211_120 : lk 211 120 = some (.getfield 38, 123, 10, 17, .null) := by decide +kernel
theorem x_211_120 : Tr sc d 211 (120, [l0, l1, l2, l3, l4, l5, l6], [.ref k1, .int i0], h) Q = (okp h k1 10 = true ∧ ∃ q, hR h k1 17 = some q ∧ Tr sc d 211 (123, [l0, l1, l2, l3, l4, l5, l6], [.ref q, .int i0], h) Q) := t_getr k_211_120
theorem k_211_123 : lk 211 123 = some (.iload_n 1, 124, 1, 0, .null) := by decide +kernel
theorem x_211_123 : Tr sc d 211 (123, [l0, some (.int x), l2, l3, l4, l5, l6], [.ref k1, .int i0], h) Q = Tr sc d 211 (124, [l0, some (.int x), l2, l3, l4, l5, l6], [.int x, .ref k1, .int i0], h) Q := t_iload_n k_211_123 rfl
theorem k_211_124 : lk 211 124 = some (.iaload, 125, 0, 0, .null) := by decide +kernel
theorem x_211_124 : Tr sc d 211 (124, [l0, l1, l2, l3, l4, l5, l6], [.int i2, .ref k1, .int i0], h) Q = (iOk sc h k1 i2 ∧ Tr sc d 211 (125, [l0, l1, l2, l3, l4, l5, l6], [.int (iRd sc h k1 i2), .int i0], h) Q) := t_iald k_211_124
theorem k_211_125 : lk 211 125 = some (.iconst 1, 126, 0, 0, .int 1) := by decide +kernel
theorem x_211_125 : Tr sc d 211 (125, [l0, l1, l2, l3, l4, l5, l6], [.int i1, .int i0], h) Q = Tr sc d 211 (126, [l0, l1, l2, l3, l4, l5, l6], [.int 1, .int i1, .int i0], h) Q := t_go k_211_125 rfl
theorem k_211_126 : lk 211 126 = some (.isub, 127, 0, 0, .null) := by decide +kernel
theorem x_211_126 : Tr sc d 211 (126, [l0, l1, l2, l3, l4, l5, l6], [.int i2, .int i1, .int i0], h) Q = Tr sc d 211 (127, [l0, l1, l2, l3, l4, l5, l6], [.int (i1 - i2), .int i0], h) Q := t_go k_211_126 rfl
theorem k_211_127 : lk 211 127 = some (.idiv, 128, 0, 0, .null) := by decide +kernel
theorem x_211_127 : Tr sc d 211 (127, [l0, l1, l2, l3, l4, l5, l6], [.int i1, .int i0], h) Q = (¬ i1 = 0 ∧ Tr sc d 211 (128, [l0, l1, l2, l3, l4, l5, l6], [.int (i0 / i1)], h) Q) := t_ng k_211_127 rfl
theorem k_211_128 : lk 211 128 = some (.ireturn, 129, 0, 0, .null) := by decide +kernel
theorem x_211_128 : Tr sc d 211 (128, [l0, l1, l2, l3, l4, l5, l6], [.int i0], h) Q = Q (some (.int i0), h) := t_ret k_211_128 (by rw [r_211]; rfl)
theorem e_211 : Tr sc d 211 (ent0 211 [.ref k0, .int i1] h) Q = Tr sc d 211 (0, [some (.ref k0), some (.int i1), none, none, none, none, none], [], h) Q := by
  have e : mL 211 = 7 := by decide +kernel
  unfold ent0
  rw [e]
  rfl
theorem r_212 : mR 212 = some .int := by decide +kernel
theorem k_212_0 : lk 212 0 = some (.bipush 37, 2, 0, 0, .int 37) := by decide +kernel
theorem x_212_0 : Tr sc d 212 (0, [l0, l1], [], h) Q = Tr sc d 212 (2, [l0, l1], [.int 37], h) Q := t_go k_212_0 rfl
theorem k_212_2 : lk 212 2 = some (.iload_n 1, 3, 1, 0, .null) := by decide +kernel
theorem x_212_2 : Tr sc d 212 (2, [l0, some (.int x)], [.int i0], h) Q = Tr sc d 212 (3, [l0, some (.int x)], [.int x, .int i0], h) Q := t_iload_n k_212_2 rfl
theorem k_212_3 : lk 212 3 = some (.bipush 18, 5, 0, 0, .int 18) := by decide +kernel
theorem x_212_3 : Tr sc d 212 (3, [l0, l1], [.int i1, .int i0], h) Q = Tr sc d 212 (5, [l0, l1], [.int 18, .int i1, .int i0], h) Q := t_go k_212_3 rfl
theorem k_212_5 : lk 212 5 = some (.iadd, 6, 0, 0, .null) := by decide +kernel
theorem x_212_5 : Tr sc d 212 (5, [l0, l1], [.int i2, .int i1, .int i0], h) Q = Tr sc d 212 (6, [l0, l1], [.int (i1 + i2), .int i0], h) Q := t_go k_212_5 rfl
theorem k_212_6 : lk 212 6 = some (.imul, 7, 0, 0, .null) := by decide +kernel
theorem x_212_6 : Tr sc d 212 (6, [l0, l1], [.int i1, .int i0], h) Q = Tr sc d 212 (7, [l0, l1], [.int (i0 * i1)], h) Q := t_go k_212_6 rfl
theorem k_212_7 : lk 212 7 = some (.iload_n 0, 8, 0, 0, .null) := by decide +kernel
theorem x_212_7 : Tr sc d 212 (7, [some (.int x), l1], [.int i0], h) Q = Tr sc d 212 (8, [some (.int x), l1], [.int x, .int i0], h) Q := t_iload_n k_212_7 rfl
theorem k_212_8 : lk 212 8 = some (.iadd, 9, 0, 0, .null) := by decide +kernel
theorem x_212_8 : Tr sc d 212 (8, [l0, l1], [.int i1, .int i0], h) Q = Tr sc d 212 (9, [l0, l1], [.int (i0 + i1)], h) Q := t_go k_212_8 rfl
theorem k_212_9 : lk 212 9 = some (.bipush 18, 11, 0, 0, .int 18) := by decide +kernel
theorem x_212_9 : Tr sc d 212 (9, [l0, l1], [.int i0], h) Q = Tr sc d 212 (11, [l0, l1], [.int 18, .int i0], h) Q := t_go k_212_9 rfl
theorem k_212_11 : lk 212 11 = some (.iadd, 12, 0, 0, .null) := by decide +kernel
theorem x_212_11 : Tr sc d 212 (11, [l0, l1], [.int i1, .int i0], h) Q = Tr sc d 212 (12, [l0, l1], [.int (i0 + i1)], h) Q := t_go k_212_11 rfl
theorem k_212_12 : lk 212 12 = some (.ireturn, 13, 0, 0, .null) := by decide +kernel
theorem x_212_12 : Tr sc d 212 (12, [l0, l1], [.int i0], h) Q = Q (some (.int i0), h) := t_ret k_212_12 (by rw [r_212]; rfl)
theorem e_212 : Tr sc d 212 (ent0 212 [.int i0, .int i1] h) Q = Tr sc d 212 (0, [some (.int i0), some (.int i1)], [], h) Q := by
  have e : mL 212 = 2 := by decide +kernel
  unfold ent0
  rw [e]
  rfl
theorem r_213 : mR 213 = some .boolean := by decide +kernel
theorem k_213_0 : lk 213 0 = some (.iload_n 1, 1, 1, 0, .null) := by decide +kernel
theorem x_213_0 : Tr sc d 213 (0, [l0, some (.int x), l2], [], h) Q = Tr sc d 213 (1, [l0, some (.int x), l2], [.int x], h) Q := t_iload_n k_213_0 rfl
theorem k_213_1 : lk 213 1 = some (.bipush (-18), 3, 0, 0, .int (-18)) := by decide +kernel
theorem x_213_1 : Tr sc d 213 (1, [l0, l1, l2], [.int i0], h) Q = Tr sc d 213 (3, [l0, l1, l2], [.int (-18), .int i0], h) Q := t_go k_213_1 rfl
theorem k_213_3 : lk 213 3 = some (.bipush 18, 5, 0, 0, .int 18) := by decide +kernel
theorem x_213_3 : Tr sc d 213 (3, [l0, l1, l2], [.int i1, .int i0], h) Q = Tr sc d 213 (5, [l0, l1, l2], [.int 18, .int i1, .int i0], h) Q := t_go k_213_3 rfl
theorem k_213_5 : lk 213 5 = some (.invokestatic 144, 8, 157, 3, .null) := by decide +kernel
theorem x_213_5 : Tr sc (d + 1) 213 (5, [l0, l1, l2], [.int i2, .int i1, .int i0], h) Q = Tr sc d 157 (ent0 157 [.int i0, .int i1, .int i2] h) (fun z => Tr sc (d + 1) 213 (8, [l0, l1, l2], z.1.toList ++ [], z.2) Q) := t_cs (as := [.int i0, .int i1, .int i2]) (r := []) k_213_5 (by decide) rfl rfl (Nat.le_of_ble_eq_true rfl) (Nat.le_of_ble_eq_true rfl)
theorem k_213_8 : lk 213 8 = some (.ifCond .eq 31, 11, 39, 0, .null) := by decide +kernel
theorem x_213_8 : Tr sc d 213 (8, [l0, l1, l2], [.int i0], h) Q = if i0 = 0 then Tr sc d 213 (39, [l0, l1, l2], [], h) Q else Tr sc d 213 (11, [l0, l1, l2], [], h) Q := t_if k_213_8 rfl
theorem k_213_11 : lk 213 11 = some (.iload_n 2, 12, 2, 0, .null) := by decide +kernel
theorem x_213_11 : Tr sc d 213 (11, [l0, l1, some (.int x)], [], h) Q = Tr sc d 213 (12, [l0, l1, some (.int x)], [.int x], h) Q := t_iload_n k_213_11 rfl
theorem k_213_12 : lk 213 12 = some (.bipush (-18), 14, 0, 0, .int (-18)) := by decide +kernel
theorem x_213_12 : Tr sc d 213 (12, [l0, l1, l2], [.int i0], h) Q = Tr sc d 213 (14, [l0, l1, l2], [.int (-18), .int i0], h) Q := t_go k_213_12 rfl
theorem k_213_14 : lk 213 14 = some (.bipush 18, 16, 0, 0, .int 18) := by decide +kernel
theorem x_213_14 : Tr sc d 213 (14, [l0, l1, l2], [.int i1, .int i0], h) Q = Tr sc d 213 (16, [l0, l1, l2], [.int 18, .int i1, .int i0], h) Q := t_go k_213_14 rfl
theorem k_213_16 : lk 213 16 = some (.invokestatic 144, 19, 157, 3, .null) := by decide +kernel
theorem x_213_16 : Tr sc (d + 1) 213 (16, [l0, l1, l2], [.int i2, .int i1, .int i0], h) Q = Tr sc d 157 (ent0 157 [.int i0, .int i1, .int i2] h) (fun z => Tr sc (d + 1) 213 (19, [l0, l1, l2], z.1.toList ++ [], z.2) Q) := t_cs (as := [.int i0, .int i1, .int i2]) (r := []) k_213_16 (by decide) rfl rfl (Nat.le_of_ble_eq_true rfl) (Nat.le_of_ble_eq_true rfl)
theorem k_213_19 : lk 213 19 = some (.ifCond .eq 20, 22, 39, 0, .null) := by decide +kernel
theorem x_213_19 : Tr sc d 213 (19, [l0, l1, l2], [.int i0], h) Q = if i0 = 0 then Tr sc d 213 (39, [l0, l1, l2], [], h) Q else Tr sc d 213 (22, [l0, l1, l2], [], h) Q := t_if k_213_19 rfl
theorem k_213_22 : lk 213 22 = some (.aload_n 0, 23, 0, 0, .null) := by decide +kernel
theorem x_213_22 : Tr sc d 213 (22, [some (.ref xk), l1, l2], [], h) Q = Tr sc d 213 (23, [some (.ref xk), l1, l2], [.ref xk], h) Q := t_aload_n k_213_22 rfl
theorem k_213_23 : lk 213 23 = some (.getfield 84, 26, 10, 45, .null) := by decide +kernel
theorem x_213_23 : Tr sc d 213 (23, [l0, l1, l2], [.ref k0], h) Q = (okp h k0 10 = true ∧ ∃ q, hR h k0 45 = some q ∧ Tr sc d 213 (26, [l0, l1, l2], [.ref q], h) Q) := t_getr k_213_23
theorem k_213_26 : lk 213 26 = some (.iload_n 1, 27, 1, 0, .null) := by decide +kernel
theorem x_213_26 : Tr sc d 213 (26, [l0, some (.int x), l2], [.ref k0], h) Q = Tr sc d 213 (27, [l0, some (.int x), l2], [.int x, .ref k0], h) Q := t_iload_n k_213_26 rfl
theorem k_213_27 : lk 213 27 = some (.iload_n 2, 28, 2, 0, .null) := by decide +kernel
theorem x_213_27 : Tr sc d 213 (27, [l0, l1, some (.int x)], [.int i1, .ref k0], h) Q = Tr sc d 213 (28, [l0, l1, some (.int x)], [.int x, .int i1, .ref k0], h) Q := t_iload_n k_213_27 rfl
theorem k_213_28 : lk 213 28 = some (.invokestatic 310, 31, 212, 2, .null) := by decide +kernel
theorem x_213_28 : Tr sc (d + 1) 213 (28, [l0, l1, l2], [.int i2, .int i1, .ref k0], h) Q = Tr sc d 212 (ent0 212 [.int i1, .int i2] h) (fun z => Tr sc (d + 1) 213 (31, [l0, l1, l2], z.1.toList ++ [.ref k0], z.2) Q) := t_cs (as := [.int i1, .int i2]) (r := [.ref k0]) k_213_28 (by decide) rfl rfl (Nat.le_of_ble_eq_true rfl) (Nat.le_of_ble_eq_true rfl)
theorem k_213_31 : lk 213 31 = some (.baload, 32, 0, 0, .null) := by decide +kernel
theorem x_213_31 : Tr sc d 213 (31, [l0, l1, l2], [.int i1, .ref k0], h) Q = ((okp h k0 13 && inb i1 (LN k0)) = true ∧ Tr sc d 213 (32, [l0, l1, l2], [.int (hI h k0 i1.toNatClampNeg)], h) Q) := t_gd k_213_31 rfl
theorem k_213_32 : lk 213 32 = some (.ifCond .eq 7, 35, 39, 0, .null) := by decide +kernel
theorem x_213_32 : Tr sc d 213 (32, [l0, l1, l2], [.int i0], h) Q = if i0 = 0 then Tr sc d 213 (39, [l0, l1, l2], [], h) Q else Tr sc d 213 (35, [l0, l1, l2], [], h) Q := t_if k_213_32 rfl
theorem k_213_35 : lk 213 35 = some (.iconst 1, 36, 0, 0, .int 1) := by decide +kernel
theorem x_213_35 : Tr sc d 213 (35, [l0, l1, l2], [], h) Q = Tr sc d 213 (36, [l0, l1, l2], [.int 1], h) Q := t_go k_213_35 rfl
theorem k_213_36 : lk 213 36 = some (.goto 4, 39, 40, 0, .null) := by decide +kernel
theorem x_213_36 : Tr sc d 213 (36, [l0, l1, l2], [.int i0], h) Q = Tr sc d 213 (40, [l0, l1, l2], [.int i0], h) Q := t_go k_213_36 rfl
theorem k_213_39 : lk 213 39 = some (.iconst 0, 40, 0, 0, .int 0) := by decide +kernel
theorem x_213_39 : Tr sc d 213 (39, [l0, l1, l2], [], h) Q = Tr sc d 213 (40, [l0, l1, l2], [.int 0], h) Q := t_go k_213_39 rfl
theorem k_213_40 : lk 213 40 = some (.ireturn, 41, 0, 0, .null) := by decide +kernel
theorem x_213_40 : Tr sc d 213 (40, [l0, l1, l2], [.int i0], h) Q = (vp_nar .boolean i0 = i0 ∧ Q (some (.int i0), h)) := t_zret k_213_40 r_213
theorem e_213 : Tr sc d 213 (ent0 213 [.ref k0, .int i1, .int i2] h) Q = Tr sc d 213 (0, [some (.ref k0), some (.int i1), some (.int i2)], [], h) Q := by
  have e : mL 213 = 3 := by decide +kernel
  unfold ent0
  rw [e]
  rfl
theorem r_214 : mR 214 = some .int := by decide +kernel
theorem k_214_0 : lk 214 0 = some (.iconst 0, 1, 0, 0, .int 0) := by decide +kernel
theorem x_214_0 : Tr sc d 214 (0, [l0, l1, l2, l3, l4, l5, l6, l7, l8], [], h) Q = Tr sc d 214 (1, [l0, l1, l2, l3, l4, l5, l6, l7, l8], [.int 0], h) Q := t_go k_214_0 rfl
theorem k_214_1 : lk 214 1 = some (.istore 4, 3, 4, 0, .null) := by decide +kernel
theorem x_214_1 : Tr sc d 214 (1, [l0, l1, l2, l3, l4, l5, l6, l7, l8], [.int i0], h) Q = Tr sc d 214 (3, [l0, l1, l2, cl2 l3, some (.int i0), l5, l6, l7, l8], [], h) Q := t_istore k_214_1 (Nat.le_of_ble_eq_true rfl)
theorem k_214_3 : lk 214 3 = some (.iconst 0, 4, 0, 0, .int 0) := by decide +kernel
theorem x_214_3 : Tr sc d 214 (3, [l0, l1, l2, l3, l4, l5, l6, l7, l8], [], h) Q = Tr sc d 214 (4, [l0, l1, l2, l3, l4, l5, l6, l7, l8], [.int 0], h) Q := t_go k_214_3 rfl
theorem k_214_4 : lk 214 4 = some (.istore 5, 6, 5, 0, .null) := by decide +kernel
theorem x_214_4 : Tr sc d 214 (4, [l0, l1, l2, l3, l4, l5, l6, l7, l8], [.int i0], h) Q = Tr sc d 214 (6, [l0, l1, l2, l3, cl2 l4, some (.int i0), l6, l7, l8], [], h) Q := t_istore k_214_4 (Nat.le_of_ble_eq_true rfl)
theorem k_214_6 : lk 214 6 = some (.iload 5, 8, 5, 0, .null) := by decide +kernel
theorem x_214_6 : Tr sc d 214 (6, [l0, l1, l2, l3, l4, some (.int x), l6, l7, l8], [], h) Q = Tr sc d 214 (8, [l0, l1, l2, l3, l4, some (.int x), l6, l7, l8], [.int x], h) Q := t_iload k_214_6 rfl
theorem k_214_8 : lk 214 8 = some (.aload_n 0, 9, 0, 0, .null) := by decide +kernel
theorem x_214_8 : Tr sc d 214 (8, [some (.ref xk), l1, l2, l3, l4, l5, l6, l7, l8], [.int i0], h) Q = Tr sc d 214 (9, [some (.ref xk), l1, l2, l3, l4, l5, l6, l7, l8], [.ref xk, .int i0], h) Q := t_aload_n k_214_8 rfl
theorem k_214_9 : lk 214 9 = some (.getfield 41, 12, 10, 18, .null) := by decide +kernel
theorem x_214_9 : Tr sc d 214 (9, [l0, l1, l2, l3, l4, l5, l6, l7, l8], [.ref k1, .int i0], h) Q = (okp h k1 10 = true ∧ ∃ q, hR h k1 18 = some q ∧ Tr sc d 214 (12, [l0, l1, l2, l3, l4, l5, l6, l7, l8], [.ref q, .int i0], h) Q) := t_getr k_214_9
theorem k_214_12 : lk 214 12 = some (.iload_n 1, 13, 1, 0, .null) := by decide +kernel
theorem x_214_12 : Tr sc d 214 (12, [l0, some (.int x), l2, l3, l4, l5, l6, l7, l8], [.ref k1, .int i0], h) Q = Tr sc d 214 (13, [l0, some (.int x), l2, l3, l4, l5, l6, l7, l8], [.int x, .ref k1, .int i0], h) Q := t_iload_n k_214_12 rfl
theorem k_214_13 : lk 214 13 = some (.iaload, 14, 0, 0, .null) := by decide +kernel
theorem x_214_13 : Tr sc d 214 (13, [l0, l1, l2, l3, l4, l5, l6, l7, l8], [.int i2, .ref k1, .int i0], h) Q = (iOk sc h k1 i2 ∧ Tr sc d 214 (14, [l0, l1, l2, l3, l4, l5, l6, l7, l8], [.int (iRd sc h k1 i2), .int i0], h) Q) := t_iald k_214_13
theorem k_214_14 : lk 214 14 = some (.if_icmp .ge 122, 17, 136, 0, .null) := by decide +kernel
theorem x_214_14 : Tr sc d 214 (14, [l0, l1, l2, l3, l4, l5, l6, l7, l8], [.int i1, .int i0], h) Q = if i1 ≤ i0 then Tr sc d 214 (136, [l0, l1, l2, l3, l4, l5, l6, l7, l8], [], h) Q else Tr sc d 214 (17, [l0, l1, l2, l3, l4, l5, l6, l7, l8], [], h) Q := t_if k_214_14 rfl
theorem k_214_17 : lk 214 17 = some (.iconst 0, 18, 0, 0, .int 0) := by decide +kernel
theorem x_214_17 : Tr sc d 214 (17, [l0, l1, l2, l3, l4, l5, l6, l7, l8], [], h) Q = Tr sc d 214 (18, [l0, l1, l2, l3, l4, l5, l6, l7, l8], [.int 0], h) Q := t_go k_214_17 rfl
theorem k_214_18 : lk 214 18 = some (.istore 6, 20, 6, 0, .null) := by decide +kernel
theorem x_214_18 : Tr sc d 214 (18, [l0, l1, l2, l3, l4, l5, l6, l7, l8], [.int i0], h) Q = Tr sc d 214 (20, [l0, l1, l2, l3, l4, cl2 l5, some (.int i0), l7, l8], [], h) Q := t_istore k_214_18 (Nat.le_of_ble_eq_true rfl)
theorem k_214_20 : lk 214 20 = some (.iload 6, 22, 6, 0, .null) := by decide +kernel
theorem x_214_20 : Tr sc d 214 (20, [l0, l1, l2, l3, l4, l5, some (.int x), l7, l8], [], h) Q = Tr sc d 214 (22, [l0, l1, l2, l3, l4, l5, some (.int x), l7, l8], [.int x], h) Q := t_iload k_214_20 rfl
theorem k_214_22 : lk 214 22 = some (.aload_n 0, 23, 0, 0, .null) := by decide +kernel
theorem x_214_22 : Tr sc d 214 (22, [some (.ref xk), l1, l2, l3, l4, l5, l6, l7, l8], [.int i0], h) Q = Tr sc d 214 (23, [some (.ref xk), l1, l2, l3, l4, l5, l6, l7, l8], [.ref xk, .int i0], h) Q := t_aload_n k_214_22 rfl
theorem k_214_23 : lk 214 23 = some (.getfield 41, 26, 10, 18, .null) := by decide +kernel
theorem x_214_23 : Tr sc d 214 (23, [l0, l1, l2, l3, l4, l5, l6, l7, l8], [.ref k1, .int i0], h) Q = (okp h k1 10 = true ∧ ∃ q, hR h k1 18 = some q ∧ Tr sc d 214 (26, [l0, l1, l2, l3, l4, l5, l6, l7, l8], [.ref q, .int i0], h) Q) := t_getr k_214_23
theorem k_214_26 : lk 214 26 = some (.iload_n 1, 27, 1, 0, .null) := by decide +kernel
theorem x_214_26 : Tr sc d 214 (26, [l0, some (.int x), l2, l3, l4, l5, l6, l7, l8], [.ref k1, .int i0], h) Q = Tr sc d 214 (27, [l0, some (.int x), l2, l3, l4, l5, l6, l7, l8], [.int x, .ref k1, .int i0], h) Q := t_iload_n k_214_26 rfl
theorem k_214_27 : lk 214 27 = some (.iaload, 28, 0, 0, .null) := by decide +kernel
theorem x_214_27 : Tr sc d 214 (27, [l0, l1, l2, l3, l4, l5, l6, l7, l8], [.int i2, .ref k1, .int i0], h) Q = (iOk sc h k1 i2 ∧ Tr sc d 214 (28, [l0, l1, l2, l3, l4, l5, l6, l7, l8], [.int (iRd sc h k1 i2), .int i0], h) Q) := t_iald k_214_27
theorem k_214_28 : lk 214 28 = some (.if_icmp .ge 102, 31, 130, 0, .null) := by decide +kernel
theorem x_214_28 : Tr sc d 214 (28, [l0, l1, l2, l3, l4, l5, l6, l7, l8], [.int i1, .int i0], h) Q = if i1 ≤ i0 then Tr sc d 214 (130, [l0, l1, l2, l3, l4, l5, l6, l7, l8], [], h) Q else Tr sc d 214 (31, [l0, l1, l2, l3, l4, l5, l6, l7, l8], [], h) Q := t_if k_214_28 rfl
theorem k_214_31 : lk 214 31 = some (.aload_n 0, 32, 0, 0, .null) := by decide +kernel
theorem x_214_31 : Tr sc d 214 (31, [some (.ref xk), l1, l2, l3, l4, l5, l6, l7, l8], [], h) Q = Tr sc d 214 (32, [some (.ref xk), l1, l2, l3, l4, l5, l6, l7, l8], [.ref xk], h) Q := t_aload_n k_214_31 rfl
theorem k_214_32 : lk 214 32 = some (.getfield 38, 35, 10, 17, .null) := by decide +kernel
theorem x_214_32 : Tr sc d 214 (32, [l0, l1, l2, l3, l4, l5, l6, l7, l8], [.ref k0], h) Q = (okp h k0 10 = true ∧ ∃ q, hR h k0 17 = some q ∧ Tr sc d 214 (35, [l0, l1, l2, l3, l4, l5, l6, l7, l8], [.ref q], h) Q) := t_getr k_214_32
theorem k_214_35 : lk 214 35 = some (.iload_n 1, 36, 1, 0, .null) := by decide +kernel
theorem x_214_35 : Tr sc d 214 (35, [l0, some (.int x), l2, l3, l4, l5, l6, l7, l8], [.ref k0], h) Q = Tr sc d 214 (36, [l0, some (.int x), l2, l3, l4, l5, l6, l7, l8], [.int x, .ref k0], h) Q := t_iload_n k_214_35 rfl
theorem k_214_36 : lk 214 36 = some (.iaload, 37, 0, 0, .null) := by decide +kernel
theorem x_214_36 : Tr sc d 214 (36, [l0, l1, l2, l3, l4, l5, l6, l7, l8], [.int i1, .ref k0], h) Q = (iOk sc h k0 i1 ∧ Tr sc d 214 (37, [l0, l1, l2, l3, l4, l5, l6, l7, l8], [.int (iRd sc h k0 i1)], h) Q) := t_iald k_214_36
theorem k_214_37 : lk 214 37 = some (.iload_n 2, 38, 2, 0, .null) := by decide +kernel
theorem x_214_37 : Tr sc d 214 (37, [l0, l1, some (.int x), l3, l4, l5, l6, l7, l8], [.int i0], h) Q = Tr sc d 214 (38, [l0, l1, some (.int x), l3, l4, l5, l6, l7, l8], [.int x, .int i0], h) Q := t_iload_n k_214_37 rfl
theorem k_214_38 : lk 214 38 = some (.imul, 39, 0, 0, .null) := by decide +kernel
theorem x_214_38 : Tr sc d 214 (38, [l0, l1, l2, l3, l4, l5, l6, l7, l8], [.int i1, .int i0], h) Q = Tr sc d 214 (39, [l0, l1, l2, l3, l4, l5, l6, l7, l8], [.int (i0 * i1)], h) Q := t_go k_214_38 rfl
theorem k_214_39 : lk 214 39 = some (.aload_n 0, 40, 0, 0, .null) := by decide +kernel
theorem x_214_39 : Tr sc d 214 (39, [some (.ref xk), l1, l2, l3, l4, l5, l6, l7, l8], [.int i0], h) Q = Tr sc d 214 (40, [some (.ref xk), l1, l2, l3, l4, l5, l6, l7, l8], [.ref xk, .int i0], h) Q := t_aload_n k_214_39 rfl
theorem k_214_40 : lk 214 40 = some (.getfield 47, 43, 10, 20, .null) := by decide +kernel
theorem x_214_40 : Tr sc d 214 (40, [l0, l1, l2, l3, l4, l5, l6, l7, l8], [.ref k1, .int i0], h) Q = (okp h k1 10 = true ∧ ∃ q, hR h k1 20 = some q ∧ Tr sc d 214 (43, [l0, l1, l2, l3, l4, l5, l6, l7, l8], [.ref q, .int i0], h) Q) := t_getr k_214_40
theorem k_214_43 : lk 214 43 = some (.bipush 6, 45, 0, 0, .int 6) := by decide +kernel
theorem x_214_43 : Tr sc d 214 (43, [l0, l1, l2, l3, l4, l5, l6, l7, l8], [.ref k1, .int i0], h) Q = Tr sc d 214 (45, [l0, l1, l2, l3, l4, l5, l6, l7, l8], [.int 6, .ref k1, .int i0], h) Q := t_go k_214_43 rfl
theorem k_214_45 : lk 214 45 = some (.iload_n 1, 46, 1, 0, .null) := by decide +kernel
theorem x_214_45 : Tr sc d 214 (45, [l0, some (.int x), l2, l3, l4, l5, l6, l7, l8], [.int i2, .ref k1, .int i0], h) Q = Tr sc d 214 (46, [l0, some (.int x), l2, l3, l4, l5, l6, l7, l8], [.int x, .int i2, .ref k1, .int i0], h) Q := t_iload_n k_214_45 rfl
theorem k_214_46 : lk 214 46 = some (.imul, 47, 0, 0, .null) := by decide +kernel
theorem x_214_46 : Tr sc d 214 (46, [l0, l1, l2, l3, l4, l5, l6, l7, l8], [.int i3, .int i2, .ref k1, .int i0], h) Q = Tr sc d 214 (47, [l0, l1, l2, l3, l4, l5, l6, l7, l8], [.int (i2 * i3), .ref k1, .int i0], h) Q := t_go k_214_46 rfl
theorem k_214_47 : lk 214 47 = some (.iload 6, 49, 6, 0, .null) := by decide +kernel
theorem x_214_47 : Tr sc d 214 (47, [l0, l1, l2, l3, l4, l5, some (.int x), l7, l8], [.int i2, .ref k1, .int i0], h) Q = Tr sc d 214 (49, [l0, l1, l2, l3, l4, l5, some (.int x), l7, l8], [.int x, .int i2, .ref k1, .int i0], h) Q := t_iload k_214_47 rfl
theorem k_214_49 : lk 214 49 = some (.iadd, 50, 0, 0, .null) := by decide +kernel
theorem x_214_49 : Tr sc d 214 (49, [l0, l1, l2, l3, l4, l5, l6, l7, l8], [.int i3, .int i2, .ref k1, .int i0], h) Q = Tr sc d 214 (50, [l0, l1, l2, l3, l4, l5, l6, l7, l8], [.int (i2 + i3), .ref k1, .int i0], h) Q := t_go k_214_49 rfl
theorem k_214_50 : lk 214 50 = some (.iaload, 51, 0, 0, .null) := by decide +kernel
theorem x_214_50 : Tr sc d 214 (50, [l0, l1, l2, l3, l4, l5, l6, l7, l8], [.int i2, .ref k1, .int i0], h) Q = (iOk sc h k1 i2 ∧ Tr sc d 214 (51, [l0, l1, l2, l3, l4, l5, l6, l7, l8], [.int (iRd sc h k1 i2), .int i0], h) Q) := t_iald k_214_50
theorem k_214_51 : lk 214 51 = some (.iadd, 52, 0, 0, .null) := by decide +kernel
theorem x_214_51 : Tr sc d 214 (51, [l0, l1, l2, l3, l4, l5, l6, l7, l8], [.int i1, .int i0], h) Q = Tr sc d 214 (52, [l0, l1, l2, l3, l4, l5, l6, l7, l8], [.int (i0 + i1)], h) Q := t_go k_214_51 rfl
theorem k_214_52 : lk 214 52 = some (.aload_n 0, 53, 0, 0, .null) := by decide +kernel
theorem x_214_52 : Tr sc d 214 (52, [some (.ref xk), l1, l2, l3, l4, l5, l6, l7, l8], [.int i0], h) Q = Tr sc d 214 (53, [some (.ref xk), l1, l2, l3, l4, l5, l6, l7, l8], [.ref xk, .int i0], h) Q := t_aload_n k_214_52 rfl
theorem k_214_53 : lk 214 53 = some (.getfield 47, 56, 10, 20, .null) := by decide +kernel
theorem x_214_53 : Tr sc d 214 (53, [l0, l1, l2, l3, l4, l5, l6, l7, l8], [.ref k1, .int i0], h) Q = (okp h k1 10 = true ∧ ∃ q, hR h k1 20 = some q ∧ Tr sc d 214 (56, [l0, l1, l2, l3, l4, l5, l6, l7, l8], [.ref q, .int i0], h) Q) := t_getr k_214_53
theorem k_214_56 : lk 214 56 = some (.bipush 6, 58, 0, 0, .int 6) := by decide +kernel
theorem x_214_56 : Tr sc d 214 (56, [l0, l1, l2, l3, l4, l5, l6, l7, l8], [.ref k1, .int i0], h) Q = Tr sc d 214 (58, [l0, l1, l2, l3, l4, l5, l6, l7, l8], [.int 6, .ref k1, .int i0], h) Q := t_go k_214_56 rfl
theorem k_214_58 : lk 214 58 = some (.iload_n 1, 59, 1, 0, .null) := by decide +kernel
theorem x_214_58 : Tr sc d 214 (58, [l0, some (.int x), l2, l3, l4, l5, l6, l7, l8], [.int i2, .ref k1, .int i0], h) Q = Tr sc d 214 (59, [l0, some (.int x), l2, l3, l4, l5, l6, l7, l8], [.int x, .int i2, .ref k1, .int i0], h) Q := t_iload_n k_214_58 rfl
theorem k_214_59 : lk 214 59 = some (.imul, 60, 0, 0, .null) := by decide +kernel
theorem x_214_59 : Tr sc d 214 (59, [l0, l1, l2, l3, l4, l5, l6, l7, l8], [.int i3, .int i2, .ref k1, .int i0], h) Q = Tr sc d 214 (60, [l0, l1, l2, l3, l4, l5, l6, l7, l8], [.int (i2 * i3), .ref k1, .int i0], h) Q := t_go k_214_59 rfl
theorem k_214_60 : lk 214 60 = some (.iload 5, 62, 5, 0, .null) := by decide +kernel
theorem x_214_60 : Tr sc d 214 (60, [l0, l1, l2, l3, l4, some (.int x), l6, l7, l8], [.int i2, .ref k1, .int i0], h) Q = Tr sc d 214 (62, [l0, l1, l2, l3, l4, some (.int x), l6, l7, l8], [.int x, .int i2, .ref k1, .int i0], h) Q := t_iload k_214_60 rfl
theorem k_214_62 : lk 214 62 = some (.iadd, 63, 0, 0, .null) := by decide +kernel
theorem x_214_62 : Tr sc d 214 (62, [l0, l1, l2, l3, l4, l5, l6, l7, l8], [.int i3, .int i2, .ref k1, .int i0], h) Q = Tr sc d 214 (63, [l0, l1, l2, l3, l4, l5, l6, l7, l8], [.int (i2 + i3), .ref k1, .int i0], h) Q := t_go k_214_62 rfl
theorem k_214_63 : lk 214 63 = some (.iaload, 64, 0, 0, .null) := by decide +kernel
theorem x_214_63 : Tr sc d 214 (63, [l0, l1, l2, l3, l4, l5, l6, l7, l8], [.int i2, .ref k1, .int i0], h) Q = (iOk sc h k1 i2 ∧ Tr sc d 214 (64, [l0, l1, l2, l3, l4, l5, l6, l7, l8], [.int (iRd sc h k1 i2), .int i0], h) Q) := t_iald k_214_63
theorem k_214_64 : lk 214 64 = some (.isub, 65, 0, 0, .null) := by decide +kernel
theorem x_214_64 : Tr sc d 214 (64, [l0, l1, l2, l3, l4, l5, l6, l7, l8], [.int i1, .int i0], h) Q = Tr sc d 214 (65, [l0, l1, l2, l3, l4, l5, l6, l7, l8], [.int (i0 - i1)], h) Q := t_go k_214_64 rfl
theorem k_214_65 : lk 214 65 = some (.istore 7, 67, 7, 0, .null) := by decide +kernel
theorem x_214_65 : Tr sc d 214 (65, [l0, l1, l2, l3, l4, l5, l6, l7, l8], [.int i0], h) Q = Tr sc d 214 (67, [l0, l1, l2, l3, l4, l5, cl2 l6, some (.int i0), l8], [], h) Q := t_istore k_214_65 (Nat.le_of_ble_eq_true rfl)
theorem k_214_67 : lk 214 67 = some (.aload_n 0, 68, 0, 0, .null) := by decide +kernel
theorem x_214_67 : Tr sc d 214 (67, [some (.ref xk), l1, l2, l3, l4, l5, l6, l7, l8], [], h) Q = Tr sc d 214 (68, [some (.ref xk), l1, l2, l3, l4, l5, l6, l7, l8], [.ref xk], h) Q := t_aload_n k_214_67 rfl
theorem k_214_68 : lk 214 68 = some (.getfield 38, 71, 10, 17, .null) := by decide +kernel
theorem x_214_68 : Tr sc d 214 (68, [l0, l1, l2, l3, l4, l5, l6, l7, l8], [.ref k0], h) Q = (okp h k0 10 = true ∧ ∃ q, hR h k0 17 = some q ∧ Tr sc d 214 (71, [l0, l1, l2, l3, l4, l5, l6, l7, l8], [.ref q], h) Q) := t_getr k_214_68
theorem k_214_71 : lk 214 71 = some (.iload_n 1, 72, 1, 0, .null) := by decide +kernel
theorem x_214_71 : Tr sc d 214 (71, [l0, some (.int x), l2, l3, l4, l5, l6, l7, l8], [.ref k0], h) Q = Tr sc d 214 (72, [l0, some (.int x), l2, l3, l4, l5, l6, l7, l8], [.int x, .ref k0], h) Q := t_iload_n k_214_71 rfl
theorem k_214_72 : lk 214 72 = some (.iaload, 73, 0, 0, .null) := by decide +kernel
theorem x_214_72 : Tr sc d 214 (72, [l0, l1, l2, l3, l4, l5, l6, l7, l8], [.int i1, .ref k0], h) Q = (iOk sc h k0 i1 ∧ Tr sc d 214 (73, [l0, l1, l2, l3, l4, l5, l6, l7, l8], [.int (iRd sc h k0 i1)], h) Q) := t_iald k_214_72
theorem k_214_73 : lk 214 73 = some (.iload_n 3, 74, 3, 0, .null) := by decide +kernel
theorem x_214_73 : Tr sc d 214 (73, [l0, l1, l2, some (.int x), l4, l5, l6, l7, l8], [.int i0], h) Q = Tr sc d 214 (74, [l0, l1, l2, some (.int x), l4, l5, l6, l7, l8], [.int x, .int i0], h) Q := t_iload_n k_214_73 rfl
theorem k_214_74 : lk 214 74 = some (.imul, 75, 0, 0, .null) := by decide +kernel
theorem x_214_74 : Tr sc d 214 (74, [l0, l1, l2, l3, l4, l5, l6, l7, l8], [.int i1, .int i0], h) Q = Tr sc d 214 (75, [l0, l1, l2, l3, l4, l5, l6, l7, l8], [.int (i0 * i1)], h) Q := t_go k_214_74 rfl
theorem k_214_75 : lk 214 75 = some (.aload_n 0, 76, 0, 0, .null) := by decide +kernel
theorem x_214_75 : Tr sc d 214 (75, [some (.ref xk), l1, l2, l3, l4, l5, l6, l7, l8], [.int i0], h) Q = Tr sc d 214 (76, [some (.ref xk), l1, l2, l3, l4, l5, l6, l7, l8], [.ref xk, .int i0], h) Q := t_aload_n k_214_75 rfl
theorem k_214_76 : lk 214 76 = some (.getfield 50, 79, 10, 21, .null) := by decide +kernel
theorem x_214_76 : Tr sc d 214 (76, [l0, l1, l2, l3, l4, l5, l6, l7, l8], [.ref k1, .int i0], h) Q = (okp h k1 10 = true ∧ ∃ q, hR h k1 21 = some q ∧ Tr sc d 214 (79, [l0, l1, l2, l3, l4, l5, l6, l7, l8], [.ref q, .int i0], h) Q) := t_getr k_214_76
theorem k_214_79 : lk 214 79 = some (.bipush 6, 81, 0, 0, .int 6) := by decide +kernel
theorem x_214_79 : Tr sc d 214 (79, [l0, l1, l2, l3, l4, l5, l6, l7, l8], [.ref k1, .int i0], h) Q = Tr sc d 214 (81, [l0, l1, l2, l3, l4, l5, l6, l7, l8], [.int 6, .ref k1, .int i0], h) Q := t_go k_214_79 rfl
theorem k_214_81 : lk 214 81 = some (.iload_n 1, 82, 1, 0, .null) := by decide +kernel
theorem x_214_81 : Tr sc d 214 (81, [l0, some (.int x), l2, l3, l4, l5, l6, l7, l8], [.int i2, .ref k1, .int i0], h) Q = Tr sc d 214 (82, [l0, some (.int x), l2, l3, l4, l5, l6, l7, l8], [.int x, .int i2, .ref k1, .int i0], h) Q := t_iload_n k_214_81 rfl
theorem k_214_82 : lk 214 82 = some (.imul, 83, 0, 0, .null) := by decide +kernel
theorem x_214_82 : Tr sc d 214 (82, [l0, l1, l2, l3, l4, l5, l6, l7, l8], [.int i3, .int i2, .ref k1, .int i0], h) Q = Tr sc d 214 (83, [l0, l1, l2, l3, l4, l5, l6, l7, l8], [.int (i2 * i3), .ref k1, .int i0], h) Q := t_go k_214_82 rfl
theorem k_214_83 : lk 214 83 = some (.iload 6, 85, 6, 0, .null) := by decide +kernel
theorem x_214_83 : Tr sc d 214 (83, [l0, l1, l2, l3, l4, l5, some (.int x), l7, l8], [.int i2, .ref k1, .int i0], h) Q = Tr sc d 214 (85, [l0, l1, l2, l3, l4, l5, some (.int x), l7, l8], [.int x, .int i2, .ref k1, .int i0], h) Q := t_iload k_214_83 rfl
theorem k_214_85 : lk 214 85 = some (.iadd, 86, 0, 0, .null) := by decide +kernel
theorem x_214_85 : Tr sc d 214 (85, [l0, l1, l2, l3, l4, l5, l6, l7, l8], [.int i3, .int i2, .ref k1, .int i0], h) Q = Tr sc d 214 (86, [l0, l1, l2, l3, l4, l5, l6, l7, l8], [.int (i2 + i3), .ref k1, .int i0], h) Q := t_go k_214_85 rfl
theorem k_214_86 : lk 214 86 = some (.iaload, 87, 0, 0, .null) := by decide +kernel
theorem x_214_86 : Tr sc d 214 (86, [l0, l1, l2, l3, l4, l5, l6, l7, l8], [.int i2, .ref k1, .int i0], h) Q = (iOk sc h k1 i2 ∧ Tr sc d 214 (87, [l0, l1, l2, l3, l4, l5, l6, l7, l8], [.int (iRd sc h k1 i2), .int i0], h) Q) := t_iald k_214_86
theorem k_214_87 : lk 214 87 = some (.iadd, 88, 0, 0, .null) := by decide +kernel
theorem x_214_87 : Tr sc d 214 (87, [l0, l1, l2, l3, l4, l5, l6, l7, l8], [.int i1, .int i0], h) Q = Tr sc d 214 (88, [l0, l1, l2, l3, l4, l5, l6, l7, l8], [.int (i0 + i1)], h) Q := t_go k_214_87 rfl
theorem k_214_88 : lk 214 88 = some (.aload_n 0, 89, 0, 0, .null) := by decide +kernel
theorem x_214_88 : Tr sc d 214 (88, [some (.ref xk), l1, l2, l3, l4, l5, l6, l7, l8], [.int i0], h) Q = Tr sc d 214 (89, [some (.ref xk), l1, l2, l3, l4, l5, l6, l7, l8], [.ref xk, .int i0], h) Q := t_aload_n k_214_88 rfl
theorem k_214_89 : lk 214 89 = some (.getfield 50, 92, 10, 21, .null) := by decide +kernel
theorem x_214_89 : Tr sc d 214 (89, [l0, l1, l2, l3, l4, l5, l6, l7, l8], [.ref k1, .int i0], h) Q = (okp h k1 10 = true ∧ ∃ q, hR h k1 21 = some q ∧ Tr sc d 214 (92, [l0, l1, l2, l3, l4, l5, l6, l7, l8], [.ref q, .int i0], h) Q) := t_getr k_214_89
theorem k_214_92 : lk 214 92 = some (.bipush 6, 94, 0, 0, .int 6) := by decide +kernel
theorem x_214_92 : Tr sc d 214 (92, [l0, l1, l2, l3, l4, l5, l6, l7, l8], [.ref k1, .int i0], h) Q = Tr sc d 214 (94, [l0, l1, l2, l3, l4, l5, l6, l7, l8], [.int 6, .ref k1, .int i0], h) Q := t_go k_214_92 rfl
theorem k_214_94 : lk 214 94 = some (.iload_n 1, 95, 1, 0, .null) := by decide +kernel
theorem x_214_94 : Tr sc d 214 (94, [l0, some (.int x), l2, l3, l4, l5, l6, l7, l8], [.int i2, .ref k1, .int i0], h) Q = Tr sc d 214 (95, [l0, some (.int x), l2, l3, l4, l5, l6, l7, l8], [.int x, .int i2, .ref k1, .int i0], h) Q := t_iload_n k_214_94 rfl
theorem k_214_95 : lk 214 95 = some (.imul, 96, 0, 0, .null) := by decide +kernel
theorem x_214_95 : Tr sc d 214 (95, [l0, l1, l2, l3, l4, l5, l6, l7, l8], [.int i3, .int i2, .ref k1, .int i0], h) Q = Tr sc d 214 (96, [l0, l1, l2, l3, l4, l5, l6, l7, l8], [.int (i2 * i3), .ref k1, .int i0], h) Q := t_go k_214_95 rfl
theorem k_214_96 : lk 214 96 = some (.iload 5, 98, 5, 0, .null) := by decide +kernel
theorem x_214_96 : Tr sc d 214 (96, [l0, l1, l2, l3, l4, some (.int x), l6, l7, l8], [.int i2, .ref k1, .int i0], h) Q = Tr sc d 214 (98, [l0, l1, l2, l3, l4, some (.int x), l6, l7, l8], [.int x, .int i2, .ref k1, .int i0], h) Q := t_iload k_214_96 rfl
theorem k_214_98 : lk 214 98 = some (.iadd, 99, 0, 0, .null) := by decide +kernel
theorem x_214_98 : Tr sc d 214 (98, [l0, l1, l2, l3, l4, l5, l6, l7, l8], [.int i3, .int i2, .ref k1, .int i0], h) Q = Tr sc d 214 (99, [l0, l1, l2, l3, l4, l5, l6, l7, l8], [.int (i2 + i3), .ref k1, .int i0], h) Q := t_go k_214_98 rfl
theorem k_214_99 : lk 214 99 = some (.iaload, 100, 0, 0, .null) := by decide +kernel
theorem x_214_99 : Tr sc d 214 (99, [l0, l1, l2, l3, l4, l5, l6, l7, l8], [.int i2, .ref k1, .int i0], h) Q = (iOk sc h k1 i2 ∧ Tr sc d 214 (100, [l0, l1, l2, l3, l4, l5, l6, l7, l8], [.int (iRd sc h k1 i2), .int i0], h) Q) := t_iald k_214_99
theorem k_214_100 : lk 214 100 = some (.isub, 101, 0, 0, .null) := by decide +kernel
theorem x_214_100 : Tr sc d 214 (100, [l0, l1, l2, l3, l4, l5, l6, l7, l8], [.int i1, .int i0], h) Q = Tr sc d 214 (101, [l0, l1, l2, l3, l4, l5, l6, l7, l8], [.int (i0 - i1)], h) Q := t_go k_214_100 rfl
theorem k_214_101 : lk 214 101 = some (.istore 8, 103, 8, 0, .null) := by decide +kernel
theorem x_214_101 : Tr sc d 214 (101, [l0, l1, l2, l3, l4, l5, l6, l7, l8], [.int i0], h) Q = Tr sc d 214 (103, [l0, l1, l2, l3, l4, l5, l6, cl2 l7, some (.int i0)], [], h) Q := t_istore k_214_101 (Nat.le_of_ble_eq_true rfl)
theorem k_214_103 : lk 214 103 = some (.iload 4, 105, 4, 0, .null) := by decide +kernel
theorem x_214_103 : Tr sc d 214 (103, [l0, l1, l2, l3, some (.int x), l5, l6, l7, l8], [], h) Q = Tr sc d 214 (105, [l0, l1, l2, l3, some (.int x), l5, l6, l7, l8], [.int x], h) Q := t_iload k_214_103 rfl
theorem k_214_105 : lk 214 105 = some (.aload_n 0, 106, 0, 0, .null) := by decide +kernel
theorem x_214_105 : Tr sc d 214 (105, [some (.ref xk), l1, l2, l3, l4, l5, l6, l7, l8], [.int i0], h) Q = Tr sc d 214 (106, [some (.ref xk), l1, l2, l3, l4, l5, l6, l7, l8], [.ref xk, .int i0], h) Q := t_aload_n k_214_105 rfl
theorem k_214_106 : lk 214 106 = some (.iload 7, 108, 7, 0, .null) := by decide +kernel
theorem x_214_106 : Tr sc d 214 (106, [l0, l1, l2, l3, l4, l5, l6, some (.int x), l8], [.ref k1, .int i0], h) Q = Tr sc d 214 (108, [l0, l1, l2, l3, l4, l5, l6, some (.int x), l8], [.int x, .ref k1, .int i0], h) Q := t_iload k_214_106 rfl
theorem k_214_108 : lk 214 108 = some (.iload 8, 110, 8, 0, .null) := by decide +kernel
theorem x_214_108 : Tr sc d 214 (108, [l0, l1, l2, l3, l4, l5, l6, l7, some (.int x)], [.int i2, .ref k1, .int i0], h) Q = Tr sc d 214 (110, [l0, l1, l2, l3, l4, l5, l6, l7, some (.int x)], [.int x, .int i2, .ref k1, .int i0], h) Q := t_iload k_214_108 rfl
theorem k_214_110 : lk 214 110 = some (.invokevirtual 313, 113, 213, 2, .null) := by decide +kernel
theorem x_214_110 : Tr sc (d + 1) 214 (110, [l0, l1, l2, l3, l4, l5, l6, l7, l8], [.int i3, .int i2, .ref k1, .int i0], h) Q = (okp h k1 10 = true ∧ Tr sc d 213 (ent0 213 [.ref k1, .int i2, .int i3] h) (fun z => Tr sc (d + 1) 214 (113, [l0, l1, l2, l3, l4, l5, l6, l7, l8], z.1.toList ++ [.int i0], z.2) Q)) := t_cv (as := [.int i2, .int i3]) (r := [.int i0]) k_214_110 rfl rfl (Nat.le_of_ble_eq_true rfl) (Nat.le_of_ble_eq_true rfl) (Nat.le_of_ble_eq_true rfl)
theorem k_214_113 : lk 214 113 = some (.ifCond .eq 7, 116, 120, 0, .null) := by decide +kernel
theorem x_214_113 : Tr sc d 214 (113, [l0, l1, l2, l3, l4, l5, l6, l7, l8], [.int i1, .int i0], h) Q = if i1 = 0 then Tr sc d 214 (120, [l0, l1, l2, l3, l4, l5, l6, l7, l8], [.int i0], h) Q else Tr sc d 214 (116, [l0, l1, l2, l3, l4, l5, l6, l7, l8], [.int i0], h) Q := t_if k_214_113 rfl
theorem k_214_116 : lk 214 116 = some (.iconst 1, 117, 0, 0, .int 1) := by decide +kernel
theorem x_214_116 : Tr sc d 214 (116, [l0, l1, l2, l3, l4, l5, l6, l7, l8], [.int i0], h) Q = Tr sc d 214 (117, [l0, l1, l2, l3, l4, l5, l6, l7, l8], [.int 1, .int i0], h) Q := t_go k_214_116 rfl
theorem k_214_117 : lk 214 117 = some (.goto 4, 120, 121, 0, .null) := by decide +kernel
theorem x_214_117 : Tr sc d 214 (117, [l0, l1, l2, l3, l4, l5, l6, l7, l8], [.int i1, .int i0], h) Q = Tr sc d 214 (121, [l0, l1, l2, l3, l4, l5, l6, l7, l8], [.int i1, .int i0], h) Q := t_go k_214_117 rfl
theorem k_214_120 : lk 214 120 = some (.iconst 0, 121, 0, 0, .int 0) := by decide +kernel
theorem x_214_120 : Tr sc d 214 (120, [l0, l1, l2, l3, l4, l5, l6, l7, l8], [.int i0], h) Q = Tr sc d 214 (121, [l0, l1, l2, l3, l4, l5, l6, l7, l8], [.int 0, .int i0], h) Q := t_go k_214_120 rfl
theorem k_214_121 : lk 214 121 = some (.iadd, 122, 0, 0, .null) := by decide +kernel
theorem x_214_121 : Tr sc d 214 (121, [l0, l1, l2, l3, l4, l5, l6, l7, l8], [.int i1, .int i0], h) Q = Tr sc d 214 (122, [l0, l1, l2, l3, l4, l5, l6, l7, l8], [.int (i0 + i1)], h) Q := t_go k_214_121 rfl
theorem k_214_122 : lk 214 122 = some (.istore 4, 124, 4, 0, .null) := by decide +kernel
theorem x_214_122 : Tr sc d 214 (122, [l0, l1, l2, l3, l4, l5, l6, l7, l8], [.int i0], h) Q = Tr sc d 214 (124, [l0, l1, l2, cl2 l3, some (.int i0), l5, l6, l7, l8], [], h) Q := t_istore k_214_122 (Nat.le_of_ble_eq_true rfl)
theorem k_214_124 : lk 214 124 = some (.iinc 6 1, 127, 6, 0, .int 1) := by decide +kernel
theorem x_214_124 : Tr sc d 214 (124, [l0, l1, l2, l3, l4, l5, some (.int x), l7, l8], [], h) Q = Tr sc d 214 (127, [l0, l1, l2, l3, l4, cl2 l5, some (.int (x + 1)), l7, l8], [], h) Q := t_inc k_214_124 rfl (Nat.le_of_ble_eq_true rfl)
theorem k_214_127 : lk 214 127 = some (.goto (-107), 130, 20, 0, .null) := by decide +kernel
theorem x_214_127 : Tr sc d 214 (127, [l0, l1, l2, l3, l4, l5, l6, l7, l8], [], h) Q = Tr sc d 214 (20, [l0, l1, l2, l3, l4, l5, l6, l7, l8], [], h) Q := t_go k_214_127 rfl
theorem k_214_130 : lk 214 130 = some (.iinc 5 1, 133, 5, 0, .int 1) := by decide +kernel
theorem x_214_130 : Tr sc d 214 (130, [l0, l1, l2, l3, l4, some (.int x), l6, l7, l8], [], h) Q = Tr sc d 214 (133, [l0, l1, l2, l3, cl2 l4, some (.int (x + 1)), l6, l7, l8], [], h) Q := t_inc k_214_130 rfl (Nat.le_of_ble_eq_true rfl)
theorem k_214_133 : lk 214 133 = some (.goto (-127), 136, 6, 0, .null) := by decide +kernel
theorem x_214_133 : Tr sc d 214 (133, [l0, l1, l2, l3, l4, l5, l6, l7, l8], [], h) Q = Tr sc d 214 (6, [l0, l1, l2, l3, l4, l5, l6, l7, l8], [], h) Q := t_go k_214_133 rfl
theorem k_214_136 : lk 214 136 = some (.iload 4, 138, 4, 0, .null) := by decide +kernel
theorem x_214_136 : Tr sc d 214 (136, [l0, l1, l2, l3, some (.int x), l5, l6, l7, l8], [], h) Q = Tr sc d 214 (138, [l0, l1, l2, l3, some (.int x), l5, l6, l7, l8], [.int x], h) Q := t_iload k_214_136 rfl
theorem k_214_138 : lk 214 138 = some (.ireturn, 139, 0, 0, .null) := by decide +kernel
theorem x_214_138 : Tr sc d 214 (138, [l0, l1, l2, l3, l4, l5, l6, l7, l8], [.int i0], h) Q = Q (some (.int i0), h) := t_ret k_214_138 (by rw [r_214]; rfl)
theorem e_214 : Tr sc d 214 (ent0 214 [.ref k0, .int i1, .int i2, .int i3] h) Q = Tr sc d 214 (0, [some (.ref k0), some (.int i1), some (.int i2), some (.int i3), none, none, none, none, none], [], h) Q := by
  have e : mL 214 = 9 := by decide +kernel
  unfold ent0
  rw [e]
  rfl
theorem r_215 : mR 215 = none := by decide +kernel
theorem k_215_0 : lk 215 0 = some (.aload_n 0, 1, 0, 0, .null) := by decide +kernel
theorem x_215_0 : Tr sc d 215 (0, [some (.ref xk), l1, l2, l3, l4], [], h) Q = Tr sc d 215 (1, [some (.ref xk), l1, l2, l3, l4], [.ref xk], h) Q := t_aload_n k_215_0 rfl
theorem k_215_1 : lk 215 1 = some (.iload_n 1, 2, 1, 0, .null) := by decide +kernel
theorem x_215_1 : Tr sc d 215 (1, [l0, some (.int x), l2, l3, l4], [.ref k0], h) Q = Tr sc d 215 (2, [l0, some (.int x), l2, l3, l4], [.int x, .ref k0], h) Q := t_iload_n k_215_1 rfl
theorem k_215_2 : lk 215 2 = some (.invokevirtual 226, 5, 211, 1, .null) := by decide +kernel
theorem x_215_2 : Tr sc (d + 1) 215 (2, [l0, l1, l2, l3, l4], [.int i1, .ref k0], h) Q = (okp h k0 10 = true ∧ Tr sc d 211 (ent0 211 [.ref k0, .int i1] h) (fun z => Tr sc (d + 1) 215 (5, [l0, l1, l2, l3, l4], z.1.toList ++ [], z.2) Q)) := t_cv (as := [.int i1]) (r := []) k_215_2 rfl rfl (Nat.le_of_ble_eq_true rfl) (Nat.le_of_ble_eq_true rfl) (Nat.le_of_ble_eq_true rfl)
theorem k_215_5 : lk 215 5 = some (.istore_n 2, 6, 2, 0, .null) := by decide +kernel
theorem x_215_5 : Tr sc d 215 (5, [l0, l1, l2, l3, l4], [.int i0], h) Q = Tr sc d 215 (6, [l0, cl2 l1, some (.int i0), l3, l4], [], h) Q := t_istore_n k_215_5 (Nat.le_of_ble_eq_true rfl)
theorem k_215_6 : lk 215 6 = some (.iconst 0, 7, 0, 0, .int 0) := by decide +kernel
theorem x_215_6 : Tr sc d 215 (6, [l0, l1, l2, l3, l4], [], h) Q = Tr sc d 215 (7, [l0, l1, l2, l3, l4], [.int 0], h) Q := t_go k_215_6 rfl
theorem k_215_7 : lk 215 7 = some (.istore_n 3, 8, 3, 0, .null) := by decide +kernel
theorem x_215_7 : Tr sc d 215 (7, [l0, l1, l2, l3, l4], [.int i0], h) Q = Tr sc d 215 (8, [l0, l1, cl2 l2, some (.int i0), l4], [], h) Q := t_istore_n k_215_7 (Nat.le_of_ble_eq_true rfl)
theorem k_215_8 : lk 215 8 = some (.iload_n 3, 9, 3, 0, .null) := by decide +kernel
theorem x_215_8 : Tr sc d 215 (8, [l0, l1, l2, some (.int x), l4], [], h) Q = Tr sc d 215 (9, [l0, l1, l2, some (.int x), l4], [.int x], h) Q := t_iload_n k_215_8 rfl
theorem k_215_9 : lk 215 9 = some (.sipush 1369, 12, 0, 0, .int 1369) := by decide +kernel
theorem x_215_9 : Tr sc d 215 (9, [l0, l1, l2, l3, l4], [.int i0], h) Q = Tr sc d 215 (12, [l0, l1, l2, l3, l4], [.int 1369, .int i0], h) Q := t_go k_215_9 rfl
theorem k_215_12 : lk 215 12 = some (.if_icmp .ge 52, 15, 64, 0, .null) := by decide +kernel
theorem x_215_12 : Tr sc d 215 (12, [l0, l1, l2, l3, l4], [.int i1, .int i0], h) Q = if i1 ≤ i0 then Tr sc d 215 (64, [l0, l1, l2, l3, l4], [], h) Q else Tr sc d 215 (15, [l0, l1, l2, l3, l4], [], h) Q := t_if k_215_12 rfl
theorem k_215_15 : lk 215 15 = some (.aload_n 0, 16, 0, 0, .null) := by decide +kernel
theorem x_215_15 : Tr sc d 215 (15, [some (.ref xk), l1, l2, l3, l4], [], h) Q = Tr sc d 215 (16, [some (.ref xk), l1, l2, l3, l4], [.ref xk], h) Q := t_aload_n k_215_15 rfl
theorem k_215_16 : lk 215 16 = some (.getfield 84, 19, 10, 45, .null) := by decide +kernel
theorem x_215_16 : Tr sc d 215 (16, [l0, l1, l2, l3, l4], [.ref k0], h) Q = (okp h k0 10 = true ∧ ∃ q, hR h k0 45 = some q ∧ Tr sc d 215 (19, [l0, l1, l2, l3, l4], [.ref q], h) Q) := t_getr k_215_16
theorem k_215_19 : lk 215 19 = some (.iload_n 3, 20, 3, 0, .null) := by decide +kernel
theorem x_215_19 : Tr sc d 215 (19, [l0, l1, l2, some (.int x), l4], [.ref k0], h) Q = Tr sc d 215 (20, [l0, l1, l2, some (.int x), l4], [.int x, .ref k0], h) Q := t_iload_n k_215_19 rfl
theorem k_215_20 : lk 215 20 = some (.iload_n 3, 21, 3, 0, .null) := by decide +kernel
theorem x_215_20 : Tr sc d 215 (20, [l0, l1, l2, some (.int x), l4], [.int i1, .ref k0], h) Q = Tr sc d 215 (21, [l0, l1, l2, some (.int x), l4], [.int x, .int i1, .ref k0], h) Q := t_iload_n k_215_20 rfl
theorem k_215_21 : lk 215 21 = some (.bipush 37, 23, 0, 0, .int 37) := by decide +kernel
theorem x_215_21 : Tr sc d 215 (21, [l0, l1, l2, l3, l4], [.int i2, .int i1, .ref k0], h) Q = Tr sc d 215 (23, [l0, l1, l2, l3, l4], [.int 37, .int i2, .int i1, .ref k0], h) Q := t_go k_215_21 rfl
theorem k_215_23 : lk 215 23 = some (.irem, 24, 0, 0, .null) := by decide +kernel
theorem x_215_23 : Tr sc d 215 (23, [l0, l1, l2, l3, l4], [.int i3, .int i2, .int i1, .ref k0], h) Q = (¬ i3 = 0 ∧ Tr sc d 215 (24, [l0, l1, l2, l3, l4], [.int (i2 - i2 / i3 * i3), .int i1, .ref k0], h) Q) := t_ng k_215_23 rfl
theorem k_215_24 : lk 215 24 = some (.bipush 18, 26, 0, 0, .int 18) := by decide +kernel
theorem x_215_24 : Tr sc d 215 (24, [l0, l1, l2, l3, l4], [.int i2, .int i1, .ref k0], h) Q = Tr sc d 215 (26, [l0, l1, l2, l3, l4], [.int 18, .int i2, .int i1, .ref k0], h) Q := t_go k_215_24 rfl
theorem k_215_26 : lk 215 26 = some (.isub, 27, 0, 0, .null) := by decide +kernel
theorem x_215_26 : Tr sc d 215 (26, [l0, l1, l2, l3, l4], [.int i3, .int i2, .int i1, .ref k0], h) Q = Tr sc d 215 (27, [l0, l1, l2, l3, l4], [.int (i2 - i3), .int i1, .ref k0], h) Q := t_go k_215_26 rfl
theorem k_215_27 : lk 215 27 = some (.iload_n 2, 28, 2, 0, .null) := by decide +kernel
theorem x_215_27 : Tr sc d 215 (27, [l0, l1, some (.int x), l3, l4], [.int i2, .int i1, .ref k0], h) Q = Tr sc d 215 (28, [l0, l1, some (.int x), l3, l4], [.int x, .int i2, .int i1, .ref k0], h) Q := t_iload_n k_215_27 rfl
theorem k_215_28 : lk 215 28 = some (.ineg, 29, 0, 0, .null) := by decide +kernel
theorem x_215_28 : Tr sc d 215 (28, [l0, l1, l2, l3, l4], [.int i3, .int i2, .int i1, .ref k0], h) Q = Tr sc d 215 (29, [l0, l1, l2, l3, l4], [.int (-i3), .int i2, .int i1, .ref k0], h) Q := t_go k_215_28 rfl
theorem k_215_29 : lk 215 29 = some (.iload_n 2, 30, 2, 0, .null) := by decide +kernel
theorem x_215_29 : Tr sc d 215 (29, [l0, l1, some (.int x), l3, l4], [.int i3, .int i2, .int i1, .ref k0], h) Q = Tr sc d 215 (30, [l0, l1, some (.int x), l3, l4], [.int x, .int i3, .int i2, .int i1, .ref k0], h) Q := t_iload_n k_215_29 rfl
theorem k_215_30 : lk 215 30 = some (.invokestatic 144, 33, 157, 3, .null) := by decide +kernel
theorem x_215_30 : Tr sc (d + 1) 215 (30, [l0, l1, l2, l3, l4], [.int i4, .int i3, .int i2, .int i1, .ref k0], h) Q = Tr sc d 157 (ent0 157 [.int i2, .int i3, .int i4] h) (fun z => Tr sc (d + 1) 215 (33, [l0, l1, l2, l3, l4], z.1.toList ++ [.int i1, .ref k0], z.2) Q) := t_cs (as := [.int i2, .int i3, .int i4]) (r := [.int i1, .ref k0]) k_215_30 (by decide) rfl rfl (Nat.le_of_ble_eq_true rfl) (Nat.le_of_ble_eq_true rfl)
theorem k_215_33 : lk 215 33 = some (.ifCond .eq 23, 36, 56, 0, .null) := by decide +kernel
theorem x_215_33 : Tr sc d 215 (33, [l0, l1, l2, l3, l4], [.int i2, .int i1, .ref k0], h) Q = if i2 = 0 then Tr sc d 215 (56, [l0, l1, l2, l3, l4], [.int i1, .ref k0], h) Q else Tr sc d 215 (36, [l0, l1, l2, l3, l4], [.int i1, .ref k0], h) Q := t_if k_215_33 rfl
theorem k_215_36 : lk 215 36 = some (.iload_n 3, 37, 3, 0, .null) := by decide +kernel
theorem x_215_36 : Tr sc d 215 (36, [l0, l1, l2, some (.int x), l4], [.int i1, .ref k0], h) Q = Tr sc d 215 (37, [l0, l1, l2, some (.int x), l4], [.int x, .int i1, .ref k0], h) Q := t_iload_n k_215_36 rfl
theorem k_215_37 : lk 215 37 = some (.bipush 37, 39, 0, 0, .int 37) := by decide +kernel
theorem x_215_37 : Tr sc d 215 (37, [l0, l1, l2, l3, l4], [.int i2, .int i1, .ref k0], h) Q = Tr sc d 215 (39, [l0, l1, l2, l3, l4], [.int 37, .int i2, .int i1, .ref k0], h) Q := t_go k_215_37 rfl
theorem k_215_39 : lk 215 39 = some (.idiv, 40, 0, 0, .null) := by decide +kernel
theorem x_215_39 : Tr sc d 215 (39, [l0, l1, l2, l3, l4], [.int i3, .int i2, .int i1, .ref k0], h) Q = (¬ i3 = 0 ∧ Tr sc d 215 (40, [l0, l1, l2, l3, l4], [.int (i2 / i3), .int i1, .ref k0], h) Q) := t_ng k_215_39 rfl
theorem k_215_40 : lk 215 40 = some (.bipush 18, 42, 0, 0, .int 18) := by decide +kernel
theorem x_215_40 : Tr sc d 215 (40, [l0, l1, l2, l3, l4], [.int i2, .int i1, .ref k0], h) Q = Tr sc d 215 (42, [l0, l1, l2, l3, l4], [.int 18, .int i2, .int i1, .ref k0], h) Q := t_go k_215_40 rfl
theorem k_215_42 : lk 215 42 = some (.isub, 43, 0, 0, .null) := by decide +kernel
theorem x_215_42 : Tr sc d 215 (42, [l0, l1, l2, l3, l4], [.int i3, .int i2, .int i1, .ref k0], h) Q = Tr sc d 215 (43, [l0, l1, l2, l3, l4], [.int (i2 - i3), .int i1, .ref k0], h) Q := t_go k_215_42 rfl
theorem k_215_43 : lk 215 43 = some (.iload_n 2, 44, 2, 0, .null) := by decide +kernel
theorem x_215_43 : Tr sc d 215 (43, [l0, l1, some (.int x), l3, l4], [.int i2, .int i1, .ref k0], h) Q = Tr sc d 215 (44, [l0, l1, some (.int x), l3, l4], [.int x, .int i2, .int i1, .ref k0], h) Q := t_iload_n k_215_43 rfl
theorem k_215_44 : lk 215 44 = some (.ineg, 45, 0, 0, .null) := by decide +kernel
theorem x_215_44 : Tr sc d 215 (44, [l0, l1, l2, l3, l4], [.int i3, .int i2, .int i1, .ref k0], h) Q = Tr sc d 215 (45, [l0, l1, l2, l3, l4], [.int (-i3), .int i2, .int i1, .ref k0], h) Q := t_go k_215_44 rfl
theorem k_215_45 : lk 215 45 = some (.iload_n 2, 46, 2, 0, .null) := by decide +kernel
theorem x_215_45 : Tr sc d 215 (45, [l0, l1, some (.int x), l3, l4], [.int i3, .int i2, .int i1, .ref k0], h) Q = Tr sc d 215 (46, [l0, l1, some (.int x), l3, l4], [.int x, .int i3, .int i2, .int i1, .ref k0], h) Q := t_iload_n k_215_45 rfl
theorem k_215_46 : lk 215 46 = some (.invokestatic 144, 49, 157, 3, .null) := by decide +kernel
theorem x_215_46 : Tr sc (d + 1) 215 (46, [l0, l1, l2, l3, l4], [.int i4, .int i3, .int i2, .int i1, .ref k0], h) Q = Tr sc d 157 (ent0 157 [.int i2, .int i3, .int i4] h) (fun z => Tr sc (d + 1) 215 (49, [l0, l1, l2, l3, l4], z.1.toList ++ [.int i1, .ref k0], z.2) Q) := t_cs (as := [.int i2, .int i3, .int i4]) (r := [.int i1, .ref k0]) k_215_46 (by decide) rfl rfl (Nat.le_of_ble_eq_true rfl) (Nat.le_of_ble_eq_true rfl)
theorem k_215_49 : lk 215 49 = some (.ifCond .eq 7, 52, 56, 0, .null) := by decide +kernel
theorem x_215_49 : Tr sc d 215 (49, [l0, l1, l2, l3, l4], [.int i2, .int i1, .ref k0], h) Q = if i2 = 0 then Tr sc d 215 (56, [l0, l1, l2, l3, l4], [.int i1, .ref k0], h) Q else Tr sc d 215 (52, [l0, l1, l2, l3, l4], [.int i1, .ref k0], h) Q := t_if k_215_49 rfl
theorem k_215_52 : lk 215 52 = some (.iconst 1, 53, 0, 0, .int 1) := by decide +kernel
theorem x_215_52 : Tr sc d 215 (52, [l0, l1, l2, l3, l4], [.int i1, .ref k0], h) Q = Tr sc d 215 (53, [l0, l1, l2, l3, l4], [.int 1, .int i1, .ref k0], h) Q := t_go k_215_52 rfl
theorem k_215_53 : lk 215 53 = some (.goto 4, 56, 57, 0, .null) := by decide +kernel
theorem x_215_53 : Tr sc d 215 (53, [l0, l1, l2, l3, l4], [.int i2, .int i1, .ref k0], h) Q = Tr sc d 215 (57, [l0, l1, l2, l3, l4], [.int i2, .int i1, .ref k0], h) Q := t_go k_215_53 rfl
theorem k_215_56 : lk 215 56 = some (.iconst 0, 57, 0, 0, .int 0) := by decide +kernel
theorem x_215_56 : Tr sc d 215 (56, [l0, l1, l2, l3, l4], [.int i1, .ref k0], h) Q = Tr sc d 215 (57, [l0, l1, l2, l3, l4], [.int 0, .int i1, .ref k0], h) Q := t_go k_215_56 rfl
theorem k_215_57 : lk 215 57 = some (.bastore, 58, 0, 0, .null) := by decide +kernel
theorem x_215_57 : Tr sc d 215 (57, [l0, l1, l2, l3, l4], [.int i2, .int i1, .ref k0], h) Q = ((okp h k0 13 && inb i1 (LN k0)) = true ∧ Tr sc d 215 (58, [l0, l1, l2, l3, l4], [], (sI h k0 i1.toNatClampNeg (vp_nar .boolean i2))) Q) := t_gd k_215_57 rfl
theorem k_215_58 : lk 215 58 = some (.iinc 3 1, 61, 3, 0, .int 1) := by decide +kernel
theorem x_215_58 : Tr sc d 215 (58, [l0, l1, l2, some (.int x), l4], [], h) Q = Tr sc d 215 (61, [l0, l1, cl2 l2, some (.int (x + 1)), l4], [], h) Q := t_inc k_215_58 rfl (Nat.le_of_ble_eq_true rfl)
theorem k_215_61 : lk 215 61 = some (.goto (-53), 64, 8, 0, .null) := by decide +kernel
theorem x_215_61 : Tr sc d 215 (61, [l0, l1, l2, l3, l4], [], h) Q = Tr sc d 215 (8, [l0, l1, l2, l3, l4], [], h) Q := t_go k_215_61 rfl
theorem k_215_64 : lk 215 64 = some (.iconst 1, 65, 0, 0, .int 1) := by decide +kernel
theorem x_215_64 : Tr sc d 215 (64, [l0, l1, l2, l3, l4], [], h) Q = Tr sc d 215 (65, [l0, l1, l2, l3, l4], [.int 1], h) Q := t_go k_215_64 rfl
theorem k_215_65 : lk 215 65 = some (.istore_n 3, 66, 3, 0, .null) := by decide +kernel
theorem x_215_65 : Tr sc d 215 (65, [l0, l1, l2, l3, l4], [.int i0], h) Q = Tr sc d 215 (66, [l0, l1, cl2 l2, some (.int i0), l4], [], h) Q := t_istore_n k_215_65 (Nat.le_of_ble_eq_true rfl)
theorem k_215_66 : lk 215 66 = some (.iload_n 3, 67, 3, 0, .null) := by decide +kernel
theorem x_215_66 : Tr sc d 215 (66, [l0, l1, l2, some (.int x), l4], [], h) Q = Tr sc d 215 (67, [l0, l1, l2, some (.int x), l4], [.int x], h) Q := t_iload_n k_215_66 rfl
theorem k_215_67 : lk 215 67 = some (.ifCond .eq 69, 70, 136, 0, .null) := by decide +kernel
theorem x_215_67 : Tr sc d 215 (67, [l0, l1, l2, l3, l4], [.int i0], h) Q = if i0 = 0 then Tr sc d 215 (136, [l0, l1, l2, l3, l4], [], h) Q else Tr sc d 215 (70, [l0, l1, l2, l3, l4], [], h) Q := t_if k_215_67 rfl
theorem k_215_70 : lk 215 70 = some (.iconst 0, 71, 0, 0, .int 0) := by decide +kernel
theorem x_215_70 : Tr sc d 215 (70, [l0, l1, l2, l3, l4], [], h) Q = Tr sc d 215 (71, [l0, l1, l2, l3, l4], [.int 0], h) Q := t_go k_215_70 rfl
theorem k_215_71 : lk 215 71 = some (.istore_n 3, 72, 3, 0, .null) := by decide +kernel
theorem x_215_71 : Tr sc d 215 (71, [l0, l1, l2, l3, l4], [.int i0], h) Q = Tr sc d 215 (72, [l0, l1, cl2 l2, some (.int i0), l4], [], h) Q := t_istore_n k_215_71 (Nat.le_of_ble_eq_true rfl)
theorem k_215_72 : lk 215 72 = some (.iconst 0, 73, 0, 0, .int 0) := by decide +kernel
theorem x_215_72 : Tr sc d 215 (72, [l0, l1, l2, l3, l4], [], h) Q = Tr sc d 215 (73, [l0, l1, l2, l3, l4], [.int 0], h) Q := t_go k_215_72 rfl
theorem k_215_73 : lk 215 73 = some (.istore 4, 75, 4, 0, .null) := by decide +kernel
theorem x_215_73 : Tr sc d 215 (73, [l0, l1, l2, l3, l4], [.int i0], h) Q = Tr sc d 215 (75, [l0, l1, l2, cl2 l3, some (.int i0)], [], h) Q := t_istore k_215_73 (Nat.le_of_ble_eq_true rfl)
theorem k_215_75 : lk 215 75 = some (.iload 4, 77, 4, 0, .null) := by decide +kernel
theorem x_215_75 : Tr sc d 215 (75, [l0, l1, l2, l3, some (.int x)], [], h) Q = Tr sc d 215 (77, [l0, l1, l2, l3, some (.int x)], [.int x], h) Q := t_iload k_215_75 rfl
theorem k_215_77 : lk 215 77 = some (.sipush 1369, 80, 0, 0, .int 1369) := by decide +kernel
theorem x_215_77 : Tr sc d 215 (77, [l0, l1, l2, l3, l4], [.int i0], h) Q = Tr sc d 215 (80, [l0, l1, l2, l3, l4], [.int 1369, .int i0], h) Q := t_go k_215_77 rfl
theorem k_215_80 : lk 215 80 = some (.if_icmp .ge 53, 83, 133, 0, .null) := by decide +kernel
theorem x_215_80 : Tr sc d 215 (80, [l0, l1, l2, l3, l4], [.int i1, .int i0], h) Q = if i1 ≤ i0 then Tr sc d 215 (133, [l0, l1, l2, l3, l4], [], h) Q else Tr sc d 215 (83, [l0, l1, l2, l3, l4], [], h) Q := t_if k_215_80 rfl
theorem k_215_83 : lk 215 83 = some (.aload_n 0, 84, 0, 0, .null) := by decide +kernel
theorem x_215_83 : Tr sc d 215 (83, [some (.ref xk), l1, l2, l3, l4], [], h) Q = Tr sc d 215 (84, [some (.ref xk), l1, l2, l3, l4], [.ref xk], h) Q := t_aload_n k_215_83 rfl
theorem k_215_84 : lk 215 84 = some (.getfield 84, 87, 10, 45, .null) := by decide +kernel
theorem x_215_84 : Tr sc d 215 (84, [l0, l1, l2, l3, l4], [.ref k0], h) Q = (okp h k0 10 = true ∧ ∃ q, hR h k0 45 = some q ∧ Tr sc d 215 (87, [l0, l1, l2, l3, l4], [.ref q], h) Q) := t_getr k_215_84
theorem k_215_87 : lk 215 87 = some (.iload 4, 89, 4, 0, .null) := by decide +kernel
theorem x_215_87 : Tr sc d 215 (87, [l0, l1, l2, l3, some (.int x)], [.ref k0], h) Q = Tr sc d 215 (89, [l0, l1, l2, l3, some (.int x)], [.int x, .ref k0], h) Q := t_iload k_215_87 rfl
theorem k_215_89 : lk 215 89 = some (.baload, 90, 0, 0, .null) := by decide +kernel
theorem x_215_89 : Tr sc d 215 (89, [l0, l1, l2, l3, l4], [.int i1, .ref k0], h) Q = ((okp h k0 13 && inb i1 (LN k0)) = true ∧ Tr sc d 215 (90, [l0, l1, l2, l3, l4], [.int (hI h k0 i1.toNatClampNeg)], h) Q) := t_gd k_215_89 rfl
theorem k_215_90 : lk 215 90 = some (.ifCond .eq 37, 93, 127, 0, .null) := by decide +kernel
theorem x_215_90 : Tr sc d 215 (90, [l0, l1, l2, l3, l4], [.int i0], h) Q = if i0 = 0 then Tr sc d 215 (127, [l0, l1, l2, l3, l4], [], h) Q else Tr sc d 215 (93, [l0, l1, l2, l3, l4], [], h) Q := t_if k_215_90 rfl
theorem k_215_93 : lk 215 93 = some (.aload_n 0, 94, 0, 0, .null) := by decide +kernel
theorem x_215_93 : Tr sc d 215 (93, [some (.ref xk), l1, l2, l3, l4], [], h) Q = Tr sc d 215 (94, [some (.ref xk), l1, l2, l3, l4], [.ref xk], h) Q := t_aload_n k_215_93 rfl
theorem k_215_94 : lk 215 94 = some (.iload_n 1, 95, 1, 0, .null) := by decide +kernel
theorem x_215_94 : Tr sc d 215 (94, [l0, some (.int x), l2, l3, l4], [.ref k0], h) Q = Tr sc d 215 (95, [l0, some (.int x), l2, l3, l4], [.int x, .ref k0], h) Q := t_iload_n k_215_94 rfl
theorem k_215_95 : lk 215 95 = some (.iload 4, 97, 4, 0, .null) := by decide +kernel
theorem x_215_95 : Tr sc d 215 (95, [l0, l1, l2, l3, some (.int x)], [.int i1, .ref k0], h) Q = Tr sc d 215 (97, [l0, l1, l2, l3, some (.int x)], [.int x, .int i1, .ref k0], h) Q := t_iload k_215_95 rfl
theorem k_215_97 : lk 215 97 = some (.bipush 37, 99, 0, 0, .int 37) := by decide +kernel
theorem x_215_97 : Tr sc d 215 (97, [l0, l1, l2, l3, l4], [.int i2, .int i1, .ref k0], h) Q = Tr sc d 215 (99, [l0, l1, l2, l3, l4], [.int 37, .int i2, .int i1, .ref k0], h) Q := t_go k_215_97 rfl
theorem k_215_99 : lk 215 99 = some (.irem, 100, 0, 0, .null) := by decide +kernel
theorem x_215_99 : Tr sc d 215 (99, [l0, l1, l2, l3, l4], [.int i3, .int i2, .int i1, .ref k0], h) Q = (¬ i3 = 0 ∧ Tr sc d 215 (100, [l0, l1, l2, l3, l4], [.int (i2 - i2 / i3 * i3), .int i1, .ref k0], h) Q) := t_ng k_215_99 rfl
theorem k_215_100 : lk 215 100 = some (.bipush 18, 102, 0, 0, .int 18) := by decide +kernel
theorem x_215_100 : Tr sc d 215 (100, [l0, l1, l2, l3, l4], [.int i2, .int i1, .ref k0], h) Q = Tr sc d 215 (102, [l0, l1, l2, l3, l4], [.int 18, .int i2, .int i1, .ref k0], h) Q := t_go k_215_100 rfl
theorem k_215_102 : lk 215 102 = some (.isub, 103, 0, 0, .null) := by decide +kernel
theorem x_215_102 : Tr sc d 215 (102, [l0, l1, l2, l3, l4], [.int i3, .int i2, .int i1, .ref k0], h) Q = Tr sc d 215 (103, [l0, l1, l2, l3, l4], [.int (i2 - i3), .int i1, .ref k0], h) Q := t_go k_215_102 rfl
theorem k_215_103 : lk 215 103 = some (.iload 4, 105, 4, 0, .null) := by decide +kernel
theorem x_215_103 : Tr sc d 215 (103, [l0, l1, l2, l3, some (.int x)], [.int i2, .int i1, .ref k0], h) Q = Tr sc d 215 (105, [l0, l1, l2, l3, some (.int x)], [.int x, .int i2, .int i1, .ref k0], h) Q := t_iload k_215_103 rfl
theorem k_215_105 : lk 215 105 = some (.bipush 37, 107, 0, 0, .int 37) := by decide +kernel
theorem x_215_105 : Tr sc d 215 (105, [l0, l1, l2, l3, l4], [.int i3, .int i2, .int i1, .ref k0], h) Q = Tr sc d 215 (107, [l0, l1, l2, l3, l4], [.int 37, .int i3, .int i2, .int i1, .ref k0], h) Q := t_go k_215_105 rfl
theorem k_215_107 : lk 215 107 = some (.idiv, 108, 0, 0, .null) := by decide +kernel
theorem x_215_107 : Tr sc d 215 (107, [l0, l1, l2, l3, l4], [.int i4, .int i3, .int i2, .int i1, .ref k0], h) Q = (¬ i4 = 0 ∧ Tr sc d 215 (108, [l0, l1, l2, l3, l4], [.int (i3 / i4), .int i2, .int i1, .ref k0], h) Q) := t_ng k_215_107 rfl
theorem k_215_108 : lk 215 108 = some (.bipush 18, 110, 0, 0, .int 18) := by decide +kernel
theorem x_215_108 : Tr sc d 215 (108, [l0, l1, l2, l3, l4], [.int i3, .int i2, .int i1, .ref k0], h) Q = Tr sc d 215 (110, [l0, l1, l2, l3, l4], [.int 18, .int i3, .int i2, .int i1, .ref k0], h) Q := t_go k_215_108 rfl
theorem k_215_110 : lk 215 110 = some (.isub, 111, 0, 0, .null) := by decide +kernel
theorem x_215_110 : Tr sc d 215 (110, [l0, l1, l2, l3, l4], [.int i4, .int i3, .int i2, .int i1, .ref k0], h) Q = Tr sc d 215 (111, [l0, l1, l2, l3, l4], [.int (i3 - i4), .int i2, .int i1, .ref k0], h) Q := t_go k_215_110 rfl
theorem k_215_111 : lk 215 111 = some (.invokevirtual 317, 114, 214, 3, .null) := by decide +kernel
theorem x_215_111 : Tr sc (d + 1) 215 (111, [l0, l1, l2, l3, l4], [.int i3, .int i2, .int i1, .ref k0], h) Q = (okp h k0 10 = true ∧ Tr sc d 214 (ent0 214 [.ref k0, .int i1, .int i2, .int i3] h) (fun z => Tr sc (d + 1) 215 (114, [l0, l1, l2, l3, l4], z.1.toList ++ [], z.2) Q)) := t_cv (as := [.int i1, .int i2, .int i3]) (r := []) k_215_111 rfl rfl (Nat.le_of_ble_eq_true rfl) (Nat.le_of_ble_eq_true rfl) (Nat.le_of_ble_eq_true rfl)
theorem k_215_114 : lk 215 114 = some (.ifCond .ne 13, 117, 127, 0, .null) := by decide +kernel
theorem x_215_114 : Tr sc d 215 (114, [l0, l1, l2, l3, l4], [.int i0], h) Q = if i0 = 0 then Tr sc d 215 (117, [l0, l1, l2, l3, l4], [], h) Q else Tr sc d 215 (127, [l0, l1, l2, l3, l4], [], h) Q := t_if k_215_114 rfl
theorem k_215_117 : lk 215 117 = some (.aload_n 0, 118, 0, 0, .null) := by decide +kernel
theorem x_215_117 : Tr sc d 215 (117, [some (.ref xk), l1, l2, l3, l4], [], h) Q = Tr sc d 215 (118, [some (.ref xk), l1, l2, l3, l4], [.ref xk], h) Q := t_aload_n k_215_117 rfl
theorem k_215_118 : lk 215 118 = some (.getfield 84, 121, 10, 45, .null) := by decide +kernel
theorem x_215_118 : Tr sc d 215 (118, [l0, l1, l2, l3, l4], [.ref k0], h) Q = (okp h k0 10 = true ∧ ∃ q, hR h k0 45 = some q ∧ Tr sc d 215 (121, [l0, l1, l2, l3, l4], [.ref q], h) Q) := t_getr k_215_118
theorem k_215_121 : lk 215 121 = some (.iload 4, 123, 4, 0, .null) := by decide +kernel
theorem x_215_121 : Tr sc d 215 (121, [l0, l1, l2, l3, some (.int x)], [.ref k0], h) Q = Tr sc d 215 (123, [l0, l1, l2, l3, some (.int x)], [.int x, .ref k0], h) Q := t_iload k_215_121 rfl
theorem k_215_123 : lk 215 123 = some (.iconst 0, 124, 0, 0, .int 0) := by decide +kernel
theorem x_215_123 : Tr sc d 215 (123, [l0, l1, l2, l3, l4], [.int i1, .ref k0], h) Q = Tr sc d 215 (124, [l0, l1, l2, l3, l4], [.int 0, .int i1, .ref k0], h) Q := t_go k_215_123 rfl
theorem k_215_124 : lk 215 124 = some (.bastore, 125, 0, 0, .null) := by decide +kernel
theorem x_215_124 : Tr sc d 215 (124, [l0, l1, l2, l3, l4], [.int i2, .int i1, .ref k0], h) Q = ((okp h k0 13 && inb i1 (LN k0)) = true ∧ Tr sc d 215 (125, [l0, l1, l2, l3, l4], [], (sI h k0 i1.toNatClampNeg (vp_nar .boolean i2))) Q) := t_gd k_215_124 rfl
theorem k_215_125 : lk 215 125 = some (.iconst 1, 126, 0, 0, .int 1) := by decide +kernel
theorem x_215_125 : Tr sc d 215 (125, [l0, l1, l2, l3, l4], [], h) Q = Tr sc d 215 (126, [l0, l1, l2, l3, l4], [.int 1], h) Q := t_go k_215_125 rfl
theorem k_215_126 : lk 215 126 = some (.istore_n 3, 127, 3, 0, .null) := by decide +kernel
theorem x_215_126 : Tr sc d 215 (126, [l0, l1, l2, l3, l4], [.int i0], h) Q = Tr sc d 215 (127, [l0, l1, cl2 l2, some (.int i0), l4], [], h) Q := t_istore_n k_215_126 (Nat.le_of_ble_eq_true rfl)
theorem k_215_127 : lk 215 127 = some (.iinc 4 1, 130, 4, 0, .int 1) := by decide +kernel
theorem x_215_127 : Tr sc d 215 (127, [l0, l1, l2, l3, some (.int x)], [], h) Q = Tr sc d 215 (130, [l0, l1, l2, cl2 l3, some (.int (x + 1))], [], h) Q := t_inc k_215_127 rfl (Nat.le_of_ble_eq_true rfl)
theorem k_215_130 : lk 215 130 = some (.goto (-55), 133, 75, 0, .null) := by decide +kernel
theorem x_215_130 : Tr sc d 215 (130, [l0, l1, l2, l3, l4], [], h) Q = Tr sc d 215 (75, [l0, l1, l2, l3, l4], [], h) Q := t_go k_215_130 rfl
theorem k_215_133 : lk 215 133 = some (.goto (-67), 136, 66, 0, .null) := by decide +kernel
theorem x_215_133 : Tr sc d 215 (133, [l0, l1, l2, l3, l4], [], h) Q = Tr sc d 215 (66, [l0, l1, l2, l3, l4], [], h) Q := t_go k_215_133 rfl
theorem k_215_136 : lk 215 136 = some (.return_, 137, 0, 0, .null) := by decide +kernel
theorem x_215_136 : Tr sc d 215 (136, [l0, l1, l2, l3, l4], [], h) Q = Q (none, h) := t_ret k_215_136 (by rw [r_215]; rfl)
theorem e_215 : Tr sc d 215 (ent0 215 [.ref k0, .int i1] h) Q = Tr sc d 215 (0, [some (.ref k0), some (.int i1), none, none, none], [], h) Q := by
  have e : mL 215 = 5 := by decide +kernel
  unfold ent0
  rw [e]
  rfl
theorem r_216 : mR 216 = some .boolean := by decide +kernel
theorem k_216_0 : lk 216 0 = some (.aload_n 0, 1, 0, 0, .null) := by decide +kernel
theorem x_216_0 : Tr sc d 216 (0, [some (.ref xk), l1, l2, l3], [], h) Q = Tr sc d 216 (1, [some (.ref xk), l1, l2, l3], [.ref xk], h) Q := t_aload_n k_216_0 rfl
theorem k_216_1 : lk 216 1 = some (.aload_n 0, 2, 0, 0, .null) := by decide +kernel
theorem x_216_1 : Tr sc d 216 (1, [some (.ref xk), l1, l2, l3], [.ref k0], h) Q = Tr sc d 216 (2, [some (.ref xk), l1, l2, l3], [.ref xk, .ref k0], h) Q := t_aload_n k_216_1 rfl
theorem k_216_2 : lk 216 2 = some (.getfield 47, 5, 10, 20, .null) := by decide +kernel
theorem x_216_2 : Tr sc d 216 (2, [l0, l1, l2, l3], [.ref k1, .ref k0], h) Q = (okp h k1 10 = true ∧ ∃ q, hR h k1 20 = some q ∧ Tr sc d 216 (5, [l0, l1, l2, l3], [.ref q, .ref k0], h) Q) := t_getr k_216_2
theorem k_216_5 : lk 216 5 = some (.bipush 6, 7, 0, 0, .int 6) := by decide +kernel
theorem x_216_5 : Tr sc d 216 (5, [l0, l1, l2, l3], [.ref k1, .ref k0], h) Q = Tr sc d 216 (7, [l0, l1, l2, l3], [.int 6, .ref k1, .ref k0], h) Q := t_go k_216_5 rfl
theorem k_216_7 : lk 216 7 = some (.iload_n 1, 8, 1, 0, .null) := by decide +kernel
theorem x_216_7 : Tr sc d 216 (7, [l0, some (.int x), l2, l3], [.int i2, .ref k1, .ref k0], h) Q = Tr sc d 216 (8, [l0, some (.int x), l2, l3], [.int x, .int i2, .ref k1, .ref k0], h) Q := t_iload_n k_216_7 rfl
theorem k_216_8 : lk 216 8 = some (.imul, 9, 0, 0, .null) := by decide +kernel
theorem x_216_8 : Tr sc d 216 (8, [l0, l1, l2, l3], [.int i3, .int i2, .ref k1, .ref k0], h) Q = Tr sc d 216 (9, [l0, l1, l2, l3], [.int (i2 * i3), .ref k1, .ref k0], h) Q := t_go k_216_8 rfl
theorem k_216_9 : lk 216 9 = some (.iload_n 3, 10, 3, 0, .null) := by decide +kernel
theorem x_216_9 : Tr sc d 216 (9, [l0, l1, l2, some (.int x)], [.int i2, .ref k1, .ref k0], h) Q = Tr sc d 216 (10, [l0, l1, l2, some (.int x)], [.int x, .int i2, .ref k1, .ref k0], h) Q := t_iload_n k_216_9 rfl
theorem k_216_10 : lk 216 10 = some (.iadd, 11, 0, 0, .null) := by decide +kernel
theorem x_216_10 : Tr sc d 216 (10, [l0, l1, l2, l3], [.int i3, .int i2, .ref k1, .ref k0], h) Q = Tr sc d 216 (11, [l0, l1, l2, l3], [.int (i2 + i3), .ref k1, .ref k0], h) Q := t_go k_216_10 rfl
theorem k_216_11 : lk 216 11 = some (.iaload, 12, 0, 0, .null) := by decide +kernel
theorem x_216_11 : Tr sc d 216 (11, [l0, l1, l2, l3], [.int i2, .ref k1, .ref k0], h) Q = (iOk sc h k1 i2 ∧ Tr sc d 216 (12, [l0, l1, l2, l3], [.int (iRd sc h k1 i2), .ref k0], h) Q) := t_iald k_216_11
theorem k_216_12 : lk 216 12 = some (.aload_n 0, 13, 0, 0, .null) := by decide +kernel
theorem x_216_12 : Tr sc d 216 (12, [some (.ref xk), l1, l2, l3], [.int i1, .ref k0], h) Q = Tr sc d 216 (13, [some (.ref xk), l1, l2, l3], [.ref xk, .int i1, .ref k0], h) Q := t_aload_n k_216_12 rfl
theorem k_216_13 : lk 216 13 = some (.getfield 47, 16, 10, 20, .null) := by decide +kernel
theorem x_216_13 : Tr sc d 216 (13, [l0, l1, l2, l3], [.ref k2, .int i1, .ref k0], h) Q = (okp h k2 10 = true ∧ ∃ q, hR h k2 20 = some q ∧ Tr sc d 216 (16, [l0, l1, l2, l3], [.ref q, .int i1, .ref k0], h) Q) := t_getr k_216_13
theorem k_216_16 : lk 216 16 = some (.bipush 6, 18, 0, 0, .int 6) := by decide +kernel
theorem x_216_16 : Tr sc d 216 (16, [l0, l1, l2, l3], [.ref k2, .int i1, .ref k0], h) Q = Tr sc d 216 (18, [l0, l1, l2, l3], [.int 6, .ref k2, .int i1, .ref k0], h) Q := t_go k_216_16 rfl
theorem k_216_18 : lk 216 18 = some (.iload_n 1, 19, 1, 0, .null) := by decide +kernel
theorem x_216_18 : Tr sc d 216 (18, [l0, some (.int x), l2, l3], [.int i3, .ref k2, .int i1, .ref k0], h) Q = Tr sc d 216 (19, [l0, some (.int x), l2, l3], [.int x, .int i3, .ref k2, .int i1, .ref k0], h) Q := t_iload_n k_216_18 rfl
theorem k_216_19 : lk 216 19 = some (.imul, 20, 0, 0, .null) := by decide +kernel
theorem x_216_19 : Tr sc d 216 (19, [l0, l1, l2, l3], [.int i4, .int i3, .ref k2, .int i1, .ref k0], h) Q = Tr sc d 216 (20, [l0, l1, l2, l3], [.int (i3 * i4), .ref k2, .int i1, .ref k0], h) Q := t_go k_216_19 rfl
theorem k_216_20 : lk 216 20 = some (.iload_n 2, 21, 2, 0, .null) := by decide +kernel
theorem x_216_20 : Tr sc d 216 (20, [l0, l1, some (.int x), l3], [.int i3, .ref k2, .int i1, .ref k0], h) Q = Tr sc d 216 (21, [l0, l1, some (.int x), l3], [.int x, .int i3, .ref k2, .int i1, .ref k0], h) Q := t_iload_n k_216_20 rfl
theorem k_216_21 : lk 216 21 = some (.iadd, 22, 0, 0, .null) := by decide +kernel
theorem x_216_21 : Tr sc d 216 (21, [l0, l1, l2, l3], [.int i4, .int i3, .ref k2, .int i1, .ref k0], h) Q = Tr sc d 216 (22, [l0, l1, l2, l3], [.int (i3 + i4), .ref k2, .int i1, .ref k0], h) Q := t_go k_216_21 rfl
theorem k_216_22 : lk 216 22 = some (.iaload, 23, 0, 0, .null) := by decide +kernel
theorem x_216_22 : Tr sc d 216 (22, [l0, l1, l2, l3], [.int i3, .ref k2, .int i1, .ref k0], h) Q = (iOk sc h k2 i3 ∧ Tr sc d 216 (23, [l0, l1, l2, l3], [.int (iRd sc h k2 i3), .int i1, .ref k0], h) Q) := t_iald k_216_22
theorem k_216_23 : lk 216 23 = some (.isub, 24, 0, 0, .null) := by decide +kernel
theorem x_216_23 : Tr sc d 216 (23, [l0, l1, l2, l3], [.int i2, .int i1, .ref k0], h) Q = Tr sc d 216 (24, [l0, l1, l2, l3], [.int (i1 - i2), .ref k0], h) Q := t_go k_216_23 rfl
theorem k_216_24 : lk 216 24 = some (.aload_n 0, 25, 0, 0, .null) := by decide +kernel
theorem x_216_24 : Tr sc d 216 (24, [some (.ref xk), l1, l2, l3], [.int i1, .ref k0], h) Q = Tr sc d 216 (25, [some (.ref xk), l1, l2, l3], [.ref xk, .int i1, .ref k0], h) Q := t_aload_n k_216_24 rfl
theorem k_216_25 : lk 216 25 = some (.getfield 50, 28, 10, 21, .null) := by decide +kernel
theorem x_216_25 : Tr sc d 216 (25, [l0, l1, l2, l3], [.ref k2, .int i1, .ref k0], h) Q = (okp h k2 10 = true ∧ ∃ q, hR h k2 21 = some q ∧ Tr sc d 216 (28, [l0, l1, l2, l3], [.ref q, .int i1, .ref k0], h) Q) := t_getr k_216_25
theorem k_216_28 : lk 216 28 = some (.bipush 6, 30, 0, 0, .int 6) := by decide +kernel
theorem x_216_28 : Tr sc d 216 (28, [l0, l1, l2, l3], [.ref k2, .int i1, .ref k0], h) Q = Tr sc d 216 (30, [l0, l1, l2, l3], [.int 6, .ref k2, .int i1, .ref k0], h) Q := t_go k_216_28 rfl
theorem k_216_30 : lk 216 30 = some (.iload_n 1, 31, 1, 0, .null) := by decide +kernel
theorem x_216_30 : Tr sc d 216 (30, [l0, some (.int x), l2, l3], [.int i3, .ref k2, .int i1, .ref k0], h) Q = Tr sc d 216 (31, [l0, some (.int x), l2, l3], [.int x, .int i3, .ref k2, .int i1, .ref k0], h) Q := t_iload_n k_216_30 rfl
theorem k_216_31 : lk 216 31 = some (.imul, 32, 0, 0, .null) := by decide +kernel
theorem x_216_31 : Tr sc d 216 (31, [l0, l1, l2, l3], [.int i4, .int i3, .ref k2, .int i1, .ref k0], h) Q = Tr sc d 216 (32, [l0, l1, l2, l3], [.int (i3 * i4), .ref k2, .int i1, .ref k0], h) Q := t_go k_216_31 rfl
theorem k_216_32 : lk 216 32 = some (.iload_n 3, 33, 3, 0, .null) := by decide +kernel
theorem x_216_32 : Tr sc d 216 (32, [l0, l1, l2, some (.int x)], [.int i3, .ref k2, .int i1, .ref k0], h) Q = Tr sc d 216 (33, [l0, l1, l2, some (.int x)], [.int x, .int i3, .ref k2, .int i1, .ref k0], h) Q := t_iload_n k_216_32 rfl
theorem k_216_33 : lk 216 33 = some (.iadd, 34, 0, 0, .null) := by decide +kernel
theorem x_216_33 : Tr sc d 216 (33, [l0, l1, l2, l3], [.int i4, .int i3, .ref k2, .int i1, .ref k0], h) Q = Tr sc d 216 (34, [l0, l1, l2, l3], [.int (i3 + i4), .ref k2, .int i1, .ref k0], h) Q := t_go k_216_33 rfl
theorem k_216_34 : lk 216 34 = some (.iaload, 35, 0, 0, .null) := by decide +kernel
theorem x_216_34 : Tr sc d 216 (34, [l0, l1, l2, l3], [.int i3, .ref k2, .int i1, .ref k0], h) Q = (iOk sc h k2 i3 ∧ Tr sc d 216 (35, [l0, l1, l2, l3], [.int (iRd sc h k2 i3), .int i1, .ref k0], h) Q) := t_iald k_216_34
theorem k_216_35 : lk 216 35 = some (.aload_n 0, 36, 0, 0, .null) := by decide +kernel
theorem x_216_35 : Tr sc d 216 (35, [some (.ref xk), l1, l2, l3], [.int i2, .int i1, .ref k0], h) Q = Tr sc d 216 (36, [some (.ref xk), l1, l2, l3], [.ref xk, .int i2, .int i1, .ref k0], h) Q := t_aload_n k_216_35 rfl
theorem k_216_36 : lk 216 36 = some (.getfield 50, 39, 10, 21, .null) := by decide +kernel
theorem x_216_36 : Tr sc d 216 (36, [l0, l1, l2, l3], [.ref k3, .int i2, .int i1, .ref k0], h) Q = (okp h k3 10 = true ∧ ∃ q, hR h k3 21 = some q ∧ Tr sc d 216 (39, [l0, l1, l2, l3], [.ref q, .int i2, .int i1, .ref k0], h) Q) := t_getr k_216_36
theorem k_216_39 : lk 216 39 = some (.bipush 6, 41, 0, 0, .int 6) := by decide +kernel
theorem x_216_39 : Tr sc d 216 (39, [l0, l1, l2, l3], [.ref k3, .int i2, .int i1, .ref k0], h) Q = Tr sc d 216 (41, [l0, l1, l2, l3], [.int 6, .ref k3, .int i2, .int i1, .ref k0], h) Q := t_go k_216_39 rfl
theorem k_216_41 : lk 216 41 = some (.iload_n 1, 42, 1, 0, .null) := by decide +kernel
theorem x_216_41 : Tr sc d 216 (41, [l0, some (.int x), l2, l3], [.int i4, .ref k3, .int i2, .int i1, .ref k0], h) Q = Tr sc d 216 (42, [l0, some (.int x), l2, l3], [.int x, .int i4, .ref k3, .int i2, .int i1, .ref k0], h) Q := t_iload_n k_216_41 rfl
theorem k_216_42 : lk 216 42 = some (.imul, 43, 0, 0, .null) := by decide +kernel
theorem x_216_42 : Tr sc d 216 (42, [l0, l1, l2, l3], [.int i5, .int i4, .ref k3, .int i2, .int i1, .ref k0], h) Q = Tr sc d 216 (43, [l0, l1, l2, l3], [.int (i4 * i5), .ref k3, .int i2, .int i1, .ref k0], h) Q := t_go k_216_42 rfl
theorem k_216_43 : lk 216 43 = some (.iload_n 2, 44, 2, 0, .null) := by decide +kernel
theorem x_216_43 : Tr sc d 216 (43, [l0, l1, some (.int x), l3], [.int i4, .ref k3, .int i2, .int i1, .ref k0], h) Q = Tr sc d 216 (44, [l0, l1, some (.int x), l3], [.int x, .int i4, .ref k3, .int i2, .int i1, .ref k0], h) Q := t_iload_n k_216_43 rfl
theorem k_216_44 : lk 216 44 = some (.iadd, 45, 0, 0, .null) := by decide +kernel
theorem x_216_44 : Tr sc d 216 (44, [l0, l1, l2, l3], [.int i5, .int i4, .ref k3, .int i2, .int i1, .ref k0], h) Q = Tr sc d 216 (45, [l0, l1, l2, l3], [.int (i4 + i5), .ref k3, .int i2, .int i1, .ref k0], h) Q := t_go k_216_44 rfl
theorem k_216_45 : lk 216 45 = some (.iaload, 46, 0, 0, .null) := by decide +kernel
theorem x_216_45 : Tr sc d 216 (45, [l0, l1, l2, l3], [.int i4, .ref k3, .int i2, .int i1, .ref k0], h) Q = (iOk sc h k3 i4 ∧ Tr sc d 216 (46, [l0, l1, l2, l3], [.int (iRd sc h k3 i4), .int i2, .int i1, .ref k0], h) Q) := t_iald k_216_45
theorem k_216_46 : lk 216 46 = some (.isub, 47, 0, 0, .null) := by decide +kernel
theorem x_216_46 : Tr sc d 216 (46, [l0, l1, l2, l3], [.int i3, .int i2, .int i1, .ref k0], h) Q = Tr sc d 216 (47, [l0, l1, l2, l3], [.int (i2 - i3), .int i1, .ref k0], h) Q := t_go k_216_46 rfl
theorem k_216_47 : lk 216 47 = some (.invokevirtual 313, 50, 213, 2, .null) := by decide +kernel
theorem x_216_47 : Tr sc (d + 1) 216 (47, [l0, l1, l2, l3], [.int i2, .int i1, .ref k0], h) Q = (okp h k0 10 = true ∧ Tr sc d 213 (ent0 213 [.ref k0, .int i1, .int i2] h) (fun z => Tr sc (d + 1) 216 (50, [l0, l1, l2, l3], z.1.toList ++ [], z.2) Q)) := t_cv (as := [.int i1, .int i2]) (r := []) k_216_47 rfl rfl (Nat.le_of_ble_eq_true rfl) (Nat.le_of_ble_eq_true rfl) (Nat.le_of_ble_eq_true rfl)
theorem k_216_50 : lk 216 50 = some (.ireturn, 51, 0, 0, .null) := by decide +kernel
theorem x_216_50 : Tr sc d 216 (50, [l0, l1, l2, l3], [.int i0], h) Q = (vp_nar .boolean i0 = i0 ∧ Q (some (.int i0), h)) := t_zret k_216_50 r_216
theorem e_216 : Tr sc d 216 (ent0 216 [.ref k0, .int i1, .int i2, .int i3] h) Q = Tr sc d 216 (0, [some (.ref k0), some (.int i1), some (.int i2), some (.int i3)], [], h) Q := by
  have e : mL 216 = 4 := by decide +kernel
  unfold ent0
  rw [e]
  rfl
theorem r_217 : mR 217 = some .boolean := by decide +kernel
theorem k_217_0 : lk 217 0 = some (.aload_n 0, 1, 0, 0, .null) := by decide +kernel
theorem x_217_0 : Tr sc d 217 (0, [some (.ref xk), l1, l2, l3, l4, l5, l6, l7, l8, l9], [], h) Q = Tr sc d 217 (1, [some (.ref xk), l1, l2, l3, l4, l5, l6, l7, l8, l9], [.ref xk], h) Q := t_aload_n k_217_0 rfl
theorem k_217_1 : lk 217 1 = some (.iload_n 1, 2, 1, 0, .null) := by decide +kernel
theorem x_217_1 : Tr sc d 217 (1, [l0, some (.int x), l2, l3, l4, l5, l6, l7, l8, l9], [.ref k0], h) Q = Tr sc d 217 (2, [l0, some (.int x), l2, l3, l4, l5, l6, l7, l8, l9], [.int x, .ref k0], h) Q := t_iload_n k_217_1 rfl
theorem k_217_2 : lk 217 2 = some (.invokevirtual 320, 5, 215, 1, .null) := by decide +kernel
theorem x_217_2 : Tr sc (d + 1) 217 (2, [l0, l1, l2, l3, l4, l5, l6, l7, l8, l9], [.int i1, .ref k0], h) Q = (okp h k0 10 = true ∧ Tr sc d 215 (ent0 215 [.ref k0, .int i1] h) (fun z => Tr sc (d + 1) 217 (5, [l0, l1, l2, l3, l4, l5, l6, l7, l8, l9], z.1.toList ++ [], z.2) Q)) := t_cv (as := [.int i1]) (r := []) k_217_2 rfl rfl (Nat.le_of_ble_eq_true rfl) (Nat.le_of_ble_eq_true rfl) (Nat.le_of_ble_eq_true rfl)
theorem k_217_5 : lk 217 5 = some (.iconst 1, 6, 0, 0, .int 1) := by decide +kernel
theorem x_217_5 : Tr sc d 217 (5, [l0, l1, l2, l3, l4, l5, l6, l7, l8, l9], [], h) Q = Tr sc d 217 (6, [l0, l1, l2, l3, l4, l5, l6, l7, l8, l9], [.int 1], h) Q := t_go k_217_5 rfl
theorem k_217_6 : lk 217 6 = some (.istore_n 2, 7, 2, 0, .null) := by decide +kernel
theorem x_217_6 : Tr sc d 217 (6, [l0, l1, l2, l3, l4, l5, l6, l7, l8, l9], [.int i0], h) Q = Tr sc d 217 (7, [l0, cl2 l1, some (.int i0), l3, l4, l5, l6, l7, l8, l9], [], h) Q := t_istore_n k_217_6 (Nat.le_of_ble_eq_true rfl)
theorem k_217_7 : lk 217 7 = some (.iconst 0, 8, 0, 0, .int 0) := by decide +kernel
theorem x_217_7 : Tr sc d 217 (7, [l0, l1, l2, l3, l4, l5, l6, l7, l8, l9], [], h) Q = Tr sc d 217 (8, [l0, l1, l2, l3, l4, l5, l6, l7, l8, l9], [.int 0], h) Q := t_go k_217_7 rfl
theorem k_217_8 : lk 217 8 = some (.istore_n 3, 9, 3, 0, .null) := by decide +kernel
theorem x_217_8 : Tr sc d 217 (8, [l0, l1, l2, l3, l4, l5, l6, l7, l8, l9], [.int i0], h) Q = Tr sc d 217 (9, [l0, l1, cl2 l2, some (.int i0), l4, l5, l6, l7, l8, l9], [], h) Q := t_istore_n k_217_8 (Nat.le_of_ble_eq_true rfl)
theorem k_217_9 : lk 217 9 = some (.iload_n 3, 10, 3, 0, .null) := by decide +kernel
theorem x_217_9 : Tr sc d 217 (9, [l0, l1, l2, some (.int x), l4, l5, l6, l7, l8, l9], [], h) Q = Tr sc d 217 (10, [l0, l1, l2, some (.int x), l4, l5, l6, l7, l8, l9], [.int x], h) Q := t_iload_n k_217_9 rfl
theorem k_217_10 : lk 217 10 = some (.sipush 1369, 13, 0, 0, .int 1369) := by decide +kernel
theorem x_217_10 : Tr sc d 217 (10, [l0, l1, l2, l3, l4, l5, l6, l7, l8, l9], [.int i0], h) Q = Tr sc d 217 (13, [l0, l1, l2, l3, l4, l5, l6, l7, l8, l9], [.int 1369, .int i0], h) Q := t_go k_217_10 rfl
theorem k_217_13 : lk 217 13 = some (.if_icmp .ge 16, 16, 29, 0, .null) := by decide +kernel
theorem x_217_13 : Tr sc d 217 (13, [l0, l1, l2, l3, l4, l5, l6, l7, l8, l9], [.int i1, .int i0], h) Q = if i1 ≤ i0 then Tr sc d 217 (29, [l0, l1, l2, l3, l4, l5, l6, l7, l8, l9], [], h) Q else Tr sc d 217 (16, [l0, l1, l2, l3, l4, l5, l6, l7, l8, l9], [], h) Q := t_if k_217_13 rfl
theorem k_217_16 : lk 217 16 = some (.aload_n 0, 17, 0, 0, .null) := by decide +kernel
theorem x_217_16 : Tr sc d 217 (16, [some (.ref xk), l1, l2, l3, l4, l5, l6, l7, l8, l9], [], h) Q = Tr sc d 217 (17, [some (.ref xk), l1, l2, l3, l4, l5, l6, l7, l8, l9], [.ref xk], h) Q := t_aload_n k_217_16 rfl
theorem k_217_17 : lk 217 17 = some (.getfield 88, 20, 10, 46, .null) := by decide +kernel
theorem x_217_17 : Tr sc d 217 (17, [l0, l1, l2, l3, l4, l5, l6, l7, l8, l9], [.ref k0], h) Q = (okp h k0 10 = true ∧ ∃ q, hR h k0 46 = some q ∧ Tr sc d 217 (20, [l0, l1, l2, l3, l4, l5, l6, l7, l8, l9], [.ref q], h) Q) := t_getr k_217_17
theorem k_217_20 : lk 217 20 = some (.iload_n 3, 21, 3, 0, .null) := by decide +kernel
theorem x_217_20 : Tr sc d 217 (20, [l0, l1, l2, some (.int x), l4, l5, l6, l7, l8, l9], [.ref k0], h) Q = Tr sc d 217 (21, [l0, l1, l2, some (.int x), l4, l5, l6, l7, l8, l9], [.int x, .ref k0], h) Q := t_iload_n k_217_20 rfl
theorem k_217_21 : lk 217 21 = some (.iconst 0, 22, 0, 0, .int 0) := by decide +kernel
theorem x_217_21 : Tr sc d 217 (21, [l0, l1, l2, l3, l4, l5, l6, l7, l8, l9], [.int i1, .ref k0], h) Q = Tr sc d 217 (22, [l0, l1, l2, l3, l4, l5, l6, l7, l8, l9], [.int 0, .int i1, .ref k0], h) Q := t_go k_217_21 rfl
theorem k_217_22 : lk 217 22 = some (.bastore, 23, 0, 0, .null) := by decide +kernel
theorem x_217_22 : Tr sc d 217 (22, [l0, l1, l2, l3, l4, l5, l6, l7, l8, l9], [.int i2, .int i1, .ref k0], h) Q = ((okp h k0 13 && inb i1 (LN k0)) = true ∧ Tr sc d 217 (23, [l0, l1, l2, l3, l4, l5, l6, l7, l8, l9], [], (sI h k0 i1.toNatClampNeg (vp_nar .boolean i2))) Q) := t_gd k_217_22 rfl
theorem k_217_23 : lk 217 23 = some (.iinc 3 1, 26, 3, 0, .int 1) := by decide +kernel
theorem x_217_23 : Tr sc d 217 (23, [l0, l1, l2, some (.int x), l4, l5, l6, l7, l8, l9], [], h) Q = Tr sc d 217 (26, [l0, l1, cl2 l2, some (.int (x + 1)), l4, l5, l6, l7, l8, l9], [], h) Q := t_inc k_217_23 rfl (Nat.le_of_ble_eq_true rfl)
theorem k_217_26 : lk 217 26 = some (.goto (-17), 29, 9, 0, .null) := by decide +kernel
theorem x_217_26 : Tr sc d 217 (26, [l0, l1, l2, l3, l4, l5, l6, l7, l8, l9], [], h) Q = Tr sc d 217 (9, [l0, l1, l2, l3, l4, l5, l6, l7, l8, l9], [], h) Q := t_go k_217_26 rfl
theorem k_217_29 : lk 217 29 = some (.iconst 0, 30, 0, 0, .int 0) := by decide +kernel
theorem x_217_29 : Tr sc d 217 (29, [l0, l1, l2, l3, l4, l5, l6, l7, l8, l9], [], h) Q = Tr sc d 217 (30, [l0, l1, l2, l3, l4, l5, l6, l7, l8, l9], [.int 0], h) Q := t_go k_217_29 rfl
theorem k_217_30 : lk 217 30 = some (.istore_n 3, 31, 3, 0, .null) := by decide +kernel
theorem x_217_30 : Tr sc d 217 (30, [l0, l1, l2, l3, l4, l5, l6, l7, l8, l9], [.int i0], h) Q = Tr sc d 217 (31, [l0, l1, cl2 l2, some (.int i0), l4, l5, l6, l7, l8, l9], [], h) Q := t_istore_n k_217_30 (Nat.le_of_ble_eq_true rfl)
theorem k_217_31 : lk 217 31 = some (.iload_n 3, 32, 3, 0, .null) := by decide +kernel
theorem x_217_31 : Tr sc d 217 (31, [l0, l1, l2, some (.int x), l4, l5, l6, l7, l8, l9], [], h) Q = Tr sc d 217 (32, [l0, l1, l2, some (.int x), l4, l5, l6, l7, l8, l9], [.int x], h) Q := t_iload_n k_217_31 rfl
theorem k_217_32 : lk 217 32 = some (.aload_n 0, 33, 0, 0, .null) := by decide +kernel
theorem x_217_32 : Tr sc d 217 (32, [some (.ref xk), l1, l2, l3, l4, l5, l6, l7, l8, l9], [.int i0], h) Q = Tr sc d 217 (33, [some (.ref xk), l1, l2, l3, l4, l5, l6, l7, l8, l9], [.ref xk, .int i0], h) Q := t_aload_n k_217_32 rfl
theorem k_217_33 : lk 217 33 = some (.getfield 41, 36, 10, 18, .null) := by decide +kernel
theorem x_217_33 : Tr sc d 217 (33, [l0, l1, l2, l3, l4, l5, l6, l7, l8, l9], [.ref k1, .int i0], h) Q = (okp h k1 10 = true ∧ ∃ q, hR h k1 18 = some q ∧ Tr sc d 217 (36, [l0, l1, l2, l3, l4, l5, l6, l7, l8, l9], [.ref q, .int i0], h) Q) := t_getr k_217_33
theorem k_217_36 : lk 217 36 = some (.iload_n 1, 37, 1, 0, .null) := by decide +kernel
theorem x_217_36 : Tr sc d 217 (36, [l0, some (.int x), l2, l3, l4, l5, l6, l7, l8, l9], [.ref k1, .int i0], h) Q = Tr sc d 217 (37, [l0, some (.int x), l2, l3, l4, l5, l6, l7, l8, l9], [.int x, .ref k1, .int i0], h) Q := t_iload_n k_217_36 rfl
theorem k_217_37 : lk 217 37 = some (.iaload, 38, 0, 0, .null) := by decide +kernel
theorem x_217_37 : Tr sc d 217 (37, [l0, l1, l2, l3, l4, l5, l6, l7, l8, l9], [.int i2, .ref k1, .int i0], h) Q = (iOk sc h k1 i2 ∧ Tr sc d 217 (38, [l0, l1, l2, l3, l4, l5, l6, l7, l8, l9], [.int (iRd sc h k1 i2), .int i0], h) Q) := t_iald k_217_37
theorem k_217_38 : lk 217 38 = some (.if_icmp .ge 103, 41, 141, 0, .null) := by decide +kernel
theorem x_217_38 : Tr sc d 217 (38, [l0, l1, l2, l3, l4, l5, l6, l7, l8, l9], [.int i1, .int i0], h) Q = if i1 ≤ i0 then Tr sc d 217 (141, [l0, l1, l2, l3, l4, l5, l6, l7, l8, l9], [], h) Q else Tr sc d 217 (41, [l0, l1, l2, l3, l4, l5, l6, l7, l8, l9], [], h) Q := t_if k_217_38 rfl
theorem k_217_41 : lk 217 41 = some (.iconst 0, 42, 0, 0, .int 0) := by decide +kernel
theorem x_217_41 : Tr sc d 217 (41, [l0, l1, l2, l3, l4, l5, l6, l7, l8, l9], [], h) Q = Tr sc d 217 (42, [l0, l1, l2, l3, l4, l5, l6, l7, l8, l9], [.int 0], h) Q := t_go k_217_41 rfl
theorem k_217_42 : lk 217 42 = some (.istore 4, 44, 4, 0, .null) := by decide +kernel
theorem x_217_42 : Tr sc d 217 (42, [l0, l1, l2, l3, l4, l5, l6, l7, l8, l9], [.int i0], h) Q = Tr sc d 217 (44, [l0, l1, l2, cl2 l3, some (.int i0), l5, l6, l7, l8, l9], [], h) Q := t_istore k_217_42 (Nat.le_of_ble_eq_true rfl)
theorem k_217_44 : lk 217 44 = some (.iload 4, 46, 4, 0, .null) := by decide +kernel
theorem x_217_44 : Tr sc d 217 (44, [l0, l1, l2, l3, some (.int x), l5, l6, l7, l8, l9], [], h) Q = Tr sc d 217 (46, [l0, l1, l2, l3, some (.int x), l5, l6, l7, l8, l9], [.int x], h) Q := t_iload k_217_44 rfl
theorem k_217_46 : lk 217 46 = some (.aload_n 0, 47, 0, 0, .null) := by decide +kernel
theorem x_217_46 : Tr sc d 217 (46, [some (.ref xk), l1, l2, l3, l4, l5, l6, l7, l8, l9], [.int i0], h) Q = Tr sc d 217 (47, [some (.ref xk), l1, l2, l3, l4, l5, l6, l7, l8, l9], [.ref xk, .int i0], h) Q := t_aload_n k_217_46 rfl
theorem k_217_47 : lk 217 47 = some (.getfield 41, 50, 10, 18, .null) := by decide +kernel
theorem x_217_47 : Tr sc d 217 (47, [l0, l1, l2, l3, l4, l5, l6, l7, l8, l9], [.ref k1, .int i0], h) Q = (okp h k1 10 = true ∧ ∃ q, hR h k1 18 = some q ∧ Tr sc d 217 (50, [l0, l1, l2, l3, l4, l5, l6, l7, l8, l9], [.ref q, .int i0], h) Q) := t_getr k_217_47
theorem k_217_50 : lk 217 50 = some (.iload_n 1, 51, 1, 0, .null) := by decide +kernel
theorem x_217_50 : Tr sc d 217 (50, [l0, some (.int x), l2, l3, l4, l5, l6, l7, l8, l9], [.ref k1, .int i0], h) Q = Tr sc d 217 (51, [l0, some (.int x), l2, l3, l4, l5, l6, l7, l8, l9], [.int x, .ref k1, .int i0], h) Q := t_iload_n k_217_50 rfl
theorem k_217_51 : lk 217 51 = some (.iaload, 52, 0, 0, .null) := by decide +kernel
theorem x_217_51 : Tr sc d 217 (51, [l0, l1, l2, l3, l4, l5, l6, l7, l8, l9], [.int i2, .ref k1, .int i0], h) Q = (iOk sc h k1 i2 ∧ Tr sc d 217 (52, [l0, l1, l2, l3, l4, l5, l6, l7, l8, l9], [.int (iRd sc h k1 i2), .int i0], h) Q) := t_iald k_217_51
theorem k_217_52 : lk 217 52 = some (.if_icmp .ge 83, 55, 135, 0, .null) := by decide +kernel
theorem x_217_52 : Tr sc d 217 (52, [l0, l1, l2, l3, l4, l5, l6, l7, l8, l9], [.int i1, .int i0], h) Q = if i1 ≤ i0 then Tr sc d 217 (135, [l0, l1, l2, l3, l4, l5, l6, l7, l8, l9], [], h) Q else Tr sc d 217 (55, [l0, l1, l2, l3, l4, l5, l6, l7, l8, l9], [], h) Q := t_if k_217_52 rfl
theorem k_217_55 : lk 217 55 = some (.iload_n 3, 56, 3, 0, .null) := by decide +kernel
theorem x_217_55 : Tr sc d 217 (55, [l0, l1, l2, some (.int x), l4, l5, l6, l7, l8, l9], [], h) Q = Tr sc d 217 (56, [l0, l1, l2, some (.int x), l4, l5, l6, l7, l8, l9], [.int x], h) Q := t_iload_n k_217_55 rfl
theorem k_217_56 : lk 217 56 = some (.iload 4, 58, 4, 0, .null) := by decide +kernel
theorem x_217_56 : Tr sc d 217 (56, [l0, l1, l2, l3, some (.int x), l5, l6, l7, l8, l9], [.int i0], h) Q = Tr sc d 217 (58, [l0, l1, l2, l3, some (.int x), l5, l6, l7, l8, l9], [.int x, .int i0], h) Q := t_iload k_217_56 rfl
theorem k_217_58 : lk 217 58 = some (.if_icmp .eq 71, 61, 129, 0, .null) := by decide +kernel
theorem x_217_58 : Tr sc d 217 (58, [l0, l1, l2, l3, l4, l5, l6, l7, l8, l9], [.int i1, .int i0], h) Q = if i0 = i1 then Tr sc d 217 (129, [l0, l1, l2, l3, l4, l5, l6, l7, l8, l9], [], h) Q else Tr sc d 217 (61, [l0, l1, l2, l3, l4, l5, l6, l7, l8, l9], [], h) Q := t_if k_217_58 rfl
theorem k_217_61 : lk 217 61 = some (.aload_n 0, 62, 0, 0, .null) := by decide +kernel
theorem x_217_61 : Tr sc d 217 (61, [some (.ref xk), l1, l2, l3, l4, l5, l6, l7, l8, l9], [], h) Q = Tr sc d 217 (62, [some (.ref xk), l1, l2, l3, l4, l5, l6, l7, l8, l9], [.ref xk], h) Q := t_aload_n k_217_61 rfl
theorem k_217_62 : lk 217 62 = some (.iload_n 1, 63, 1, 0, .null) := by decide +kernel
theorem x_217_62 : Tr sc d 217 (62, [l0, some (.int x), l2, l3, l4, l5, l6, l7, l8, l9], [.ref k0], h) Q = Tr sc d 217 (63, [l0, some (.int x), l2, l3, l4, l5, l6, l7, l8, l9], [.int x, .ref k0], h) Q := t_iload_n k_217_62 rfl
theorem k_217_63 : lk 217 63 = some (.iload_n 3, 64, 3, 0, .null) := by decide +kernel
theorem x_217_63 : Tr sc d 217 (63, [l0, l1, l2, some (.int x), l4, l5, l6, l7, l8, l9], [.int i1, .ref k0], h) Q = Tr sc d 217 (64, [l0, l1, l2, some (.int x), l4, l5, l6, l7, l8, l9], [.int x, .int i1, .ref k0], h) Q := t_iload_n k_217_63 rfl
theorem k_217_64 : lk 217 64 = some (.iload 4, 66, 4, 0, .null) := by decide +kernel
theorem x_217_64 : Tr sc d 217 (64, [l0, l1, l2, l3, some (.int x), l5, l6, l7, l8, l9], [.int i2, .int i1, .ref k0], h) Q = Tr sc d 217 (66, [l0, l1, l2, l3, some (.int x), l5, l6, l7, l8, l9], [.int x, .int i2, .int i1, .ref k0], h) Q := t_iload k_217_64 rfl
theorem k_217_66 : lk 217 66 = some (.invokevirtual 324, 69, 216, 3, .null) := by decide +kernel
theorem x_217_66 : Tr sc (d + 1) 217 (66, [l0, l1, l2, l3, l4, l5, l6, l7, l8, l9], [.int i3, .int i2, .int i1, .ref k0], h) Q = (okp h k0 10 = true ∧ Tr sc d 216 (ent0 216 [.ref k0, .int i1, .int i2, .int i3] h) (fun z => Tr sc (d + 1) 217 (69, [l0, l1, l2, l3, l4, l5, l6, l7, l8, l9], z.1.toList ++ [], z.2) Q)) := t_cv (as := [.int i1, .int i2, .int i3]) (r := []) k_217_66 rfl rfl (Nat.le_of_ble_eq_true rfl) (Nat.le_of_ble_eq_true rfl) (Nat.le_of_ble_eq_true rfl)
theorem k_217_69 : lk 217 69 = some (.ifCond .eq 60, 72, 129, 0, .null) := by decide +kernel
theorem x_217_69 : Tr sc d 217 (69, [l0, l1, l2, l3, l4, l5, l6, l7, l8, l9], [.int i0], h) Q = if i0 = 0 then Tr sc d 217 (129, [l0, l1, l2, l3, l4, l5, l6, l7, l8, l9], [], h) Q else Tr sc d 217 (72, [l0, l1, l2, l3, l4, l5, l6, l7, l8, l9], [], h) Q := t_if k_217_69 rfl
theorem k_217_72 : lk 217 72 = some (.aload_n 0, 73, 0, 0, .null) := by decide +kernel
theorem x_217_72 : Tr sc d 217 (72, [some (.ref xk), l1, l2, l3, l4, l5, l6, l7, l8, l9], [], h) Q = Tr sc d 217 (73, [some (.ref xk), l1, l2, l3, l4, l5, l6, l7, l8, l9], [.ref xk], h) Q := t_aload_n k_217_72 rfl
theorem k_217_73 : lk 217 73 = some (.getfield 88, 76, 10, 46, .null) := by decide +kernel
theorem x_217_73 : Tr sc d 217 (73, [l0, l1, l2, l3, l4, l5, l6, l7, l8, l9], [.ref k0], h) Q = (okp h k0 10 = true ∧ ∃ q, hR h k0 46 = some q ∧ Tr sc d 217 (76, [l0, l1, l2, l3, l4, l5, l6, l7, l8, l9], [.ref q], h) Q) := t_getr k_217_73
theorem k_217_76 : lk 217 76 = some (.aload_n 0, 77, 0, 0, .null) := by decide +kernel
theorem x_217_76 : Tr sc d 217 (76, [some (.ref xk), l1, l2, l3, l4, l5, l6, l7, l8, l9], [.ref k0], h) Q = Tr sc d 217 (77, [some (.ref xk), l1, l2, l3, l4, l5, l6, l7, l8, l9], [.ref xk, .ref k0], h) Q := t_aload_n k_217_76 rfl
theorem k_217_77 : lk 217 77 = some (.getfield 47, 80, 10, 20, .null) := by decide +kernel
theorem x_217_77 : Tr sc d 217 (77, [l0, l1, l2, l3, l4, l5, l6, l7, l8, l9], [.ref k1, .ref k0], h) Q = (okp h k1 10 = true ∧ ∃ q, hR h k1 20 = some q ∧ Tr sc d 217 (80, [l0, l1, l2, l3, l4, l5, l6, l7, l8, l9], [.ref q, .ref k0], h) Q) := t_getr k_217_77
theorem k_217_80 : lk 217 80 = some (.bipush 6, 82, 0, 0, .int 6) := by decide +kernel
theorem x_217_80 : Tr sc d 217 (80, [l0, l1, l2, l3, l4, l5, l6, l7, l8, l9], [.ref k1, .ref k0], h) Q = Tr sc d 217 (82, [l0, l1, l2, l3, l4, l5, l6, l7, l8, l9], [.int 6, .ref k1, .ref k0], h) Q := t_go k_217_80 rfl
theorem k_217_82 : lk 217 82 = some (.iload_n 1, 83, 1, 0, .null) := by decide +kernel
theorem x_217_82 : Tr sc d 217 (82, [l0, some (.int x), l2, l3, l4, l5, l6, l7, l8, l9], [.int i2, .ref k1, .ref k0], h) Q = Tr sc d 217 (83, [l0, some (.int x), l2, l3, l4, l5, l6, l7, l8, l9], [.int x, .int i2, .ref k1, .ref k0], h) Q := t_iload_n k_217_82 rfl
theorem k_217_83 : lk 217 83 = some (.imul, 84, 0, 0, .null) := by decide +kernel
theorem x_217_83 : Tr sc d 217 (83, [l0, l1, l2, l3, l4, l5, l6, l7, l8, l9], [.int i3, .int i2, .ref k1, .ref k0], h) Q = Tr sc d 217 (84, [l0, l1, l2, l3, l4, l5, l6, l7, l8, l9], [.int (i2 * i3), .ref k1, .ref k0], h) Q := t_go k_217_83 rfl
theorem k_217_84 : lk 217 84 = some (.iload 4, 86, 4, 0, .null) := by decide +kernel
theorem x_217_84 : Tr sc d 217 (84, [l0, l1, l2, l3, some (.int x), l5, l6, l7, l8, l9], [.int i2, .ref k1, .ref k0], h) Q = Tr sc d 217 (86, [l0, l1, l2, l3, some (.int x), l5, l6, l7, l8, l9], [.int x, .int i2, .ref k1, .ref k0], h) Q := t_iload k_217_84 rfl
theorem k_217_86 : lk 217 86 = some (.iadd, 87, 0, 0, .null) := by decide +kernel
theorem x_217_86 : Tr sc d 217 (86, [l0, l1, l2, l3, l4, l5, l6, l7, l8, l9], [.int i3, .int i2, .ref k1, .ref k0], h) Q = Tr sc d 217 (87, [l0, l1, l2, l3, l4, l5, l6, l7, l8, l9], [.int (i2 + i3), .ref k1, .ref k0], h) Q := t_go k_217_86 rfl
theorem k_217_87 : lk 217 87 = some (.iaload, 88, 0, 0, .null) := by decide +kernel
theorem x_217_87 : Tr sc d 217 (87, [l0, l1, l2, l3, l4, l5, l6, l7, l8, l9], [.int i2, .ref k1, .ref k0], h) Q = (iOk sc h k1 i2 ∧ Tr sc d 217 (88, [l0, l1, l2, l3, l4, l5, l6, l7, l8, l9], [.int (iRd sc h k1 i2), .ref k0], h) Q) := t_iald k_217_87
theorem k_217_88 : lk 217 88 = some (.aload_n 0, 89, 0, 0, .null) := by decide +kernel
theorem x_217_88 : Tr sc d 217 (88, [some (.ref xk), l1, l2, l3, l4, l5, l6, l7, l8, l9], [.int i1, .ref k0], h) Q = Tr sc d 217 (89, [some (.ref xk), l1, l2, l3, l4, l5, l6, l7, l8, l9], [.ref xk, .int i1, .ref k0], h) Q := t_aload_n k_217_88 rfl
theorem k_217_89 : lk 217 89 = some (.getfield 47, 92, 10, 20, .null) := by decide +kernel
theorem x_217_89 : Tr sc d 217 (89, [l0, l1, l2, l3, l4, l5, l6, l7, l8, l9], [.ref k2, .int i1, .ref k0], h) Q = (okp h k2 10 = true ∧ ∃ q, hR h k2 20 = some q ∧ Tr sc d 217 (92, [l0, l1, l2, l3, l4, l5, l6, l7, l8, l9], [.ref q, .int i1, .ref k0], h) Q) := t_getr k_217_89
theorem k_217_92 : lk 217 92 = some (.bipush 6, 94, 0, 0, .int 6) := by decide +kernel
theorem x_217_92 : Tr sc d 217 (92, [l0, l1, l2, l3, l4, l5, l6, l7, l8, l9], [.ref k2, .int i1, .ref k0], h) Q = Tr sc d 217 (94, [l0, l1, l2, l3, l4, l5, l6, l7, l8, l9], [.int 6, .ref k2, .int i1, .ref k0], h) Q := t_go k_217_92 rfl
theorem k_217_94 : lk 217 94 = some (.iload_n 1, 95, 1, 0, .null) := by decide +kernel
theorem x_217_94 : Tr sc d 217 (94, [l0, some (.int x), l2, l3, l4, l5, l6, l7, l8, l9], [.int i3, .ref k2, .int i1, .ref k0], h) Q = Tr sc d 217 (95, [l0, some (.int x), l2, l3, l4, l5, l6, l7, l8, l9], [.int x, .int i3, .ref k2, .int i1, .ref k0], h) Q := t_iload_n k_217_94 rfl
theorem k_217_95 : lk 217 95 = some (.imul, 96, 0, 0, .null) := by decide +kernel
theorem x_217_95 : Tr sc d 217 (95, [l0, l1, l2, l3, l4, l5, l6, l7, l8, l9], [.int i4, .int i3, .ref k2, .int i1, .ref k0], h) Q = Tr sc d 217 (96, [l0, l1, l2, l3, l4, l5, l6, l7, l8, l9], [.int (i3 * i4), .ref k2, .int i1, .ref k0], h) Q := t_go k_217_95 rfl
theorem k_217_96 : lk 217 96 = some (.iload_n 3, 97, 3, 0, .null) := by decide +kernel
theorem x_217_96 : Tr sc d 217 (96, [l0, l1, l2, some (.int x), l4, l5, l6, l7, l8, l9], [.int i3, .ref k2, .int i1, .ref k0], h) Q = Tr sc d 217 (97, [l0, l1, l2, some (.int x), l4, l5, l6, l7, l8, l9], [.int x, .int i3, .ref k2, .int i1, .ref k0], h) Q := t_iload_n k_217_96 rfl
theorem k_217_97 : lk 217 97 = some (.iadd, 98, 0, 0, .null) := by decide +kernel
theorem x_217_97 : Tr sc d 217 (97, [l0, l1, l2, l3, l4, l5, l6, l7, l8, l9], [.int i4, .int i3, .ref k2, .int i1, .ref k0], h) Q = Tr sc d 217 (98, [l0, l1, l2, l3, l4, l5, l6, l7, l8, l9], [.int (i3 + i4), .ref k2, .int i1, .ref k0], h) Q := t_go k_217_97 rfl
theorem k_217_98 : lk 217 98 = some (.iaload, 99, 0, 0, .null) := by decide +kernel
theorem x_217_98 : Tr sc d 217 (98, [l0, l1, l2, l3, l4, l5, l6, l7, l8, l9], [.int i3, .ref k2, .int i1, .ref k0], h) Q = (iOk sc h k2 i3 ∧ Tr sc d 217 (99, [l0, l1, l2, l3, l4, l5, l6, l7, l8, l9], [.int (iRd sc h k2 i3), .int i1, .ref k0], h) Q) := t_iald k_217_98
theorem k_217_99 : lk 217 99 = some (.isub, 100, 0, 0, .null) := by decide +kernel
theorem x_217_99 : Tr sc d 217 (99, [l0, l1, l2, l3, l4, l5, l6, l7, l8, l9], [.int i2, .int i1, .ref k0], h) Q = Tr sc d 217 (100, [l0, l1, l2, l3, l4, l5, l6, l7, l8, l9], [.int (i1 - i2), .ref k0], h) Q := t_go k_217_99 rfl
theorem k_217_100 : lk 217 100 = some (.aload_n 0, 101, 0, 0, .null) := by decide +kernel
theorem x_217_100 : Tr sc d 217 (100, [some (.ref xk), l1, l2, l3, l4, l5, l6, l7, l8, l9], [.int i1, .ref k0], h) Q = Tr sc d 217 (101, [some (.ref xk), l1, l2, l3, l4, l5, l6, l7, l8, l9], [.ref xk, .int i1, .ref k0], h) Q := t_aload_n k_217_100 rfl
theorem k_217_101 : lk 217 101 = some (.getfield 50, 104, 10, 21, .null) := by decide +kernel
theorem x_217_101 : Tr sc d 217 (101, [l0, l1, l2, l3, l4, l5, l6, l7, l8, l9], [.ref k2, .int i1, .ref k0], h) Q = (okp h k2 10 = true ∧ ∃ q, hR h k2 21 = some q ∧ Tr sc d 217 (104, [l0, l1, l2, l3, l4, l5, l6, l7, l8, l9], [.ref q, .int i1, .ref k0], h) Q) := t_getr k_217_101
theorem k_217_104 : lk 217 104 = some (.bipush 6, 106, 0, 0, .int 6) := by decide +kernel
theorem x_217_104 : Tr sc d 217 (104, [l0, l1, l2, l3, l4, l5, l6, l7, l8, l9], [.ref k2, .int i1, .ref k0], h) Q = Tr sc d 217 (106, [l0, l1, l2, l3, l4, l5, l6, l7, l8, l9], [.int 6, .ref k2, .int i1, .ref k0], h) Q := t_go k_217_104 rfl
theorem k_217_106 : lk 217 106 = some (.iload_n 1, 107, 1, 0, .null) := by decide +kernel
theorem x_217_106 : Tr sc d 217 (106, [l0, some (.int x), l2, l3, l4, l5, l6, l7, l8, l9], [.int i3, .ref k2, .int i1, .ref k0], h) Q = Tr sc d 217 (107, [l0, some (.int x), l2, l3, l4, l5, l6, l7, l8, l9], [.int x, .int i3, .ref k2, .int i1, .ref k0], h) Q := t_iload_n k_217_106 rfl
theorem k_217_107 : lk 217 107 = some (.imul, 108, 0, 0, .null) := by decide +kernel
theorem x_217_107 : Tr sc d 217 (107, [l0, l1, l2, l3, l4, l5, l6, l7, l8, l9], [.int i4, .int i3, .ref k2, .int i1, .ref k0], h) Q = Tr sc d 217 (108, [l0, l1, l2, l3, l4, l5, l6, l7, l8, l9], [.int (i3 * i4), .ref k2, .int i1, .ref k0], h) Q := t_go k_217_107 rfl
theorem k_217_108 : lk 217 108 = some (.iload 4, 110, 4, 0, .null) := by decide +kernel
theorem x_217_108 : Tr sc d 217 (108, [l0, l1, l2, l3, some (.int x), l5, l6, l7, l8, l9], [.int i3, .ref k2, .int i1, .ref k0], h) Q = Tr sc d 217 (110, [l0, l1, l2, l3, some (.int x), l5, l6, l7, l8, l9], [.int x, .int i3, .ref k2, .int i1, .ref k0], h) Q := t_iload k_217_108 rfl
theorem k_217_110 : lk 217 110 = some (.iadd, 111, 0, 0, .null) := by decide +kernel
theorem x_217_110 : Tr sc d 217 (110, [l0, l1, l2, l3, l4, l5, l6, l7, l8, l9], [.int i4, .int i3, .ref k2, .int i1, .ref k0], h) Q = Tr sc d 217 (111, [l0, l1, l2, l3, l4, l5, l6, l7, l8, l9], [.int (i3 + i4), .ref k2, .int i1, .ref k0], h) Q := t_go k_217_110 rfl
theorem k_217_111 : lk 217 111 = some (.iaload, 112, 0, 0, .null) := by decide +kernel
theorem x_217_111 : Tr sc d 217 (111, [l0, l1, l2, l3, l4, l5, l6, l7, l8, l9], [.int i3, .ref k2, .int i1, .ref k0], h) Q = (iOk sc h k2 i3 ∧ Tr sc d 217 (112, [l0, l1, l2, l3, l4, l5, l6, l7, l8, l9], [.int (iRd sc h k2 i3), .int i1, .ref k0], h) Q) := t_iald k_217_111
theorem k_217_112 : lk 217 112 = some (.aload_n 0, 113, 0, 0, .null) := by decide +kernel
theorem x_217_112 : Tr sc d 217 (112, [some (.ref xk), l1, l2, l3, l4, l5, l6, l7, l8, l9], [.int i2, .int i1, .ref k0], h) Q = Tr sc d 217 (113, [some (.ref xk), l1, l2, l3, l4, l5, l6, l7, l8, l9], [.ref xk, .int i2, .int i1, .ref k0], h) Q := t_aload_n k_217_112 rfl
theorem k_217_113 : lk 217 113 = some (.getfield 50, 116, 10, 21, .null) := by decide +kernel
theorem x_217_113 : Tr sc d 217 (113, [l0, l1, l2, l3, l4, l5, l6, l7, l8, l9], [.ref k3, .int i2, .int i1, .ref k0], h) Q = (okp h k3 10 = true ∧ ∃ q, hR h k3 21 = some q ∧ Tr sc d 217 (116, [l0, l1, l2, l3, l4, l5, l6, l7, l8, l9], [.ref q, .int i2, .int i1, .ref k0], h) Q) := t_getr k_217_113
theorem k_217_116 : lk 217 116 = some (.bipush 6, 118, 0, 0, .int 6) := by decide +kernel
theorem x_217_116 : Tr sc d 217 (116, [l0, l1, l2, l3, l4, l5, l6, l7, l8, l9], [.ref k3, .int i2, .int i1, .ref k0], h) Q = Tr sc d 217 (118, [l0, l1, l2, l3, l4, l5, l6, l7, l8, l9], [.int 6, .ref k3, .int i2, .int i1, .ref k0], h) Q := t_go k_217_116 rfl
theorem k_217_118 : lk 217 118 = some (.iload_n 1, 119, 1, 0, .null) := by decide +kernel
theorem x_217_118 : Tr sc d 217 (118, [l0, some (.int x), l2, l3, l4, l5, l6, l7, l8, l9], [.int i4, .ref k3, .int i2, .int i1, .ref k0], h) Q = Tr sc d 217 (119, [l0, some (.int x), l2, l3, l4, l5, l6, l7, l8, l9], [.int x, .int i4, .ref k3, .int i2, .int i1, .ref k0], h) Q := t_iload_n k_217_118 rfl
theorem k_217_119 : lk 217 119 = some (.imul, 120, 0, 0, .null) := by decide +kernel
theorem x_217_119 : Tr sc d 217 (119, [l0, l1, l2, l3, l4, l5, l6, l7, l8, l9], [.int i5, .int i4, .ref k3, .int i2, .int i1, .ref k0], h) Q = Tr sc d 217 (120, [l0, l1, l2, l3, l4, l5, l6, l7, l8, l9], [.int (i4 * i5), .ref k3, .int i2, .int i1, .ref k0], h) Q := t_go k_217_119 rfl
theorem k_217_120 : lk 217 120 = some (.iload_n 3, 121, 3, 0, .null) := by decide +kernel
theorem x_217_120 : Tr sc d 217 (120, [l0, l1, l2, some (.int x), l4, l5, l6, l7, l8, l9], [.int i4, .ref k3, .int i2, .int i1, .ref k0], h) Q = Tr sc d 217 (121, [l0, l1, l2, some (.int x), l4, l5, l6, l7, l8, l9], [.int x, .int i4, .ref k3, .int i2, .int i1, .ref k0], h) Q := t_iload_n k_217_120 rfl
theorem k_217_121 : lk 217 121 = some (.iadd, 122, 0, 0, .null) := by decide +kernel
theorem x_217_121 : Tr sc d 217 (121, [l0, l1, l2, l3, l4, l5, l6, l7, l8, l9], [.int i5, .int i4, .ref k3, .int i2, .int i1, .ref k0], h) Q = Tr sc d 217 (122, [l0, l1, l2, l3, l4, l5, l6, l7, l8, l9], [.int (i4 + i5), .ref k3, .int i2, .int i1, .ref k0], h) Q := t_go k_217_121 rfl
theorem k_217_122 : lk 217 122 = some (.iaload, 123, 0, 0, .null) := by decide +kernel
theorem x_217_122 : Tr sc d 217 (122, [l0, l1, l2, l3, l4, l5, l6, l7, l8, l9], [.int i4, .ref k3, .int i2, .int i1, .ref k0], h) Q = (iOk sc h k3 i4 ∧ Tr sc d 217 (123, [l0, l1, l2, l3, l4, l5, l6, l7, l8, l9], [.int (iRd sc h k3 i4), .int i2, .int i1, .ref k0], h) Q) := t_iald k_217_122
theorem k_217_123 : lk 217 123 = some (.isub, 124, 0, 0, .null) := by decide +kernel
theorem x_217_123 : Tr sc d 217 (123, [l0, l1, l2, l3, l4, l5, l6, l7, l8, l9], [.int i3, .int i2, .int i1, .ref k0], h) Q = Tr sc d 217 (124, [l0, l1, l2, l3, l4, l5, l6, l7, l8, l9], [.int (i2 - i3), .int i1, .ref k0], h) Q := t_go k_217_123 rfl
theorem k_217_124 : lk 217 124 = some (.invokestatic 310, 127, 212, 2, .null) := by decide +kernel
theorem x_217_124 : Tr sc (d + 1) 217 (124, [l0, l1, l2, l3, l4, l5, l6, l7, l8, l9], [.int i2, .int i1, .ref k0], h) Q = Tr sc d 212 (ent0 212 [.int i1, .int i2] h) (fun z => Tr sc (d + 1) 217 (127, [l0, l1, l2, l3, l4, l5, l6, l7, l8, l9], z.1.toList ++ [.ref k0], z.2) Q) := t_cs (as := [.int i1, .int i2]) (r := [.ref k0]) k_217_124 (by decide) rfl rfl (Nat.le_of_ble_eq_true rfl) (Nat.le_of_ble_eq_true rfl)
theorem k_217_127 : lk 217 127 = some (.iconst 1, 128, 0, 0, .int 1) := by decide +kernel
theorem x_217_127 : Tr sc d 217 (127, [l0, l1, l2, l3, l4, l5, l6, l7, l8, l9], [.int i1, .ref k0], h) Q = Tr sc d 217 (128, [l0, l1, l2, l3, l4, l5, l6, l7, l8, l9], [.int 1, .int i1, .ref k0], h) Q := t_go k_217_127 rfl
theorem k_217_128 : lk 217 128 = some (.bastore, 129, 0, 0, .null) := by decide +kernel
theorem x_217_128 : Tr sc d 217 (128, [l0, l1, l2, l3, l4, l5, l6, l7, l8, l9], [.int i2, .int i1, .ref k0], h) Q = ((okp h k0 13 && inb i1 (LN k0)) = true ∧ Tr sc d 217 (129, [l0, l1, l2, l3, l4, l5, l6, l7, l8, l9], [], (sI h k0 i1.toNatClampNeg (vp_nar .boolean i2))) Q) := t_gd k_217_128 rfl
theorem k_217_129 : lk 217 129 = some (.iinc 4 1, 132, 4, 0, .int 1) := by decide +kernel
theorem x_217_129 : Tr sc d 217 (129, [l0, l1, l2, l3, some (.int x), l5, l6, l7, l8, l9], [], h) Q = Tr sc d 217 (132, [l0, l1, l2, cl2 l3, some (.int (x + 1)), l5, l6, l7, l8, l9], [], h) Q := t_inc k_217_129 rfl (Nat.le_of_ble_eq_true rfl)
theorem k_217_132 : lk 217 132 = some (.goto (-88), 135, 44, 0, .null) := by decide +kernel
theorem x_217_132 : Tr sc d 217 (132, [l0, l1, l2, l3, l4, l5, l6, l7, l8, l9], [], h) Q = Tr sc d 217 (44, [l0, l1, l2, l3, l4, l5, l6, l7, l8, l9], [], h) Q := t_go k_217_132 rfl
theorem k_217_135 : lk 217 135 = some (.iinc 3 1, 138, 3, 0, .int 1) := by decide +kernel
theorem x_217_135 : Tr sc d 217 (135, [l0, l1, l2, some (.int x), l4, l5, l6, l7, l8, l9], [], h) Q = Tr sc d 217 (138, [l0, l1, cl2 l2, some (.int (x + 1)), l4, l5, l6, l7, l8, l9], [], h) Q := t_inc k_217_135 rfl (Nat.le_of_ble_eq_true rfl)
theorem k_217_138 : lk 217 138 = some (.goto (-107), 141, 31, 0, .null) := by decide +kernel
theorem x_217_138 : Tr sc d 217 (138, [l0, l1, l2, l3, l4, l5, l6, l7, l8, l9], [], h) Q = Tr sc d 217 (31, [l0, l1, l2, l3, l4, l5, l6, l7, l8, l9], [], h) Q := t_go k_217_138 rfl
theorem k_217_141 : lk 217 141 = some (.iconst 1, 142, 0, 0, .int 1) := by decide +kernel
theorem x_217_141 : Tr sc d 217 (141, [l0, l1, l2, l3, l4, l5, l6, l7, l8, l9], [], h) Q = Tr sc d 217 (142, [l0, l1, l2, l3, l4, l5, l6, l7, l8, l9], [.int 1], h) Q := t_go k_217_141 rfl
theorem k_217_142 : lk 217 142 = some (.istore_n 3, 143, 3, 0, .null) := by decide +kernel
theorem x_217_142 : Tr sc d 217 (142, [l0, l1, l2, l3, l4, l5, l6, l7, l8, l9], [.int i0], h) Q = Tr sc d 217 (143, [l0, l1, cl2 l2, some (.int i0), l4, l5, l6, l7, l8, l9], [], h) Q := t_istore_n k_217_142 (Nat.le_of_ble_eq_true rfl)
theorem k_217_143 : lk 217 143 = some (.iload_n 3, 144, 3, 0, .null) := by decide +kernel
theorem x_217_143 : Tr sc d 217 (143, [l0, l1, l2, some (.int x), l4, l5, l6, l7, l8, l9], [], h) Q = Tr sc d 217 (144, [l0, l1, l2, some (.int x), l4, l5, l6, l7, l8, l9], [.int x], h) Q := t_iload_n k_217_143 rfl
theorem k_217_144 : lk 217 144 = some (.ifCond .eq 201, 147, 345, 0, .null) := by decide +kernel
theorem x_217_144 : Tr sc d 217 (144, [l0, l1, l2, l3, l4, l5, l6, l7, l8, l9], [.int i0], h) Q = if i0 = 0 then Tr sc d 217 (345, [l0, l1, l2, l3, l4, l5, l6, l7, l8, l9], [], h) Q else Tr sc d 217 (147, [l0, l1, l2, l3, l4, l5, l6, l7, l8, l9], [], h) Q := t_if k_217_144 rfl
theorem k_217_147 : lk 217 147 = some (.iconst 0, 148, 0, 0, .int 0) := by decide +kernel
theorem x_217_147 : Tr sc d 217 (147, [l0, l1, l2, l3, l4, l5, l6, l7, l8, l9], [], h) Q = Tr sc d 217 (148, [l0, l1, l2, l3, l4, l5, l6, l7, l8, l9], [.int 0], h) Q := t_go k_217_147 rfl
theorem k_217_148 : lk 217 148 = some (.istore_n 3, 149, 3, 0, .null) := by decide +kernel
theorem x_217_148 : Tr sc d 217 (148, [l0, l1, l2, l3, l4, l5, l6, l7, l8, l9], [.int i0], h) Q = Tr sc d 217 (149, [l0, l1, cl2 l2, some (.int i0), l4, l5, l6, l7, l8, l9], [], h) Q := t_istore_n k_217_148 (Nat.le_of_ble_eq_true rfl)
theorem k_217_149 : lk 217 149 = some (.iconst 0, 150, 0, 0, .int 0) := by decide +kernel
theorem x_217_149 : Tr sc d 217 (149, [l0, l1, l2, l3, l4, l5, l6, l7, l8, l9], [], h) Q = Tr sc d 217 (150, [l0, l1, l2, l3, l4, l5, l6, l7, l8, l9], [.int 0], h) Q := t_go k_217_149 rfl
theorem k_217_150 : lk 217 150 = some (.istore 4, 152, 4, 0, .null) := by decide +kernel
theorem x_217_150 : Tr sc d 217 (150, [l0, l1, l2, l3, l4, l5, l6, l7, l8, l9], [.int i0], h) Q = Tr sc d 217 (152, [l0, l1, l2, cl2 l3, some (.int i0), l5, l6, l7, l8, l9], [], h) Q := t_istore k_217_150 (Nat.le_of_ble_eq_true rfl)
theorem k_217_152 : lk 217 152 = some (.iload 4, 154, 4, 0, .null) := by decide +kernel
theorem x_217_152 : Tr sc d 217 (152, [l0, l1, l2, l3, some (.int x), l5, l6, l7, l8, l9], [], h) Q = Tr sc d 217 (154, [l0, l1, l2, l3, some (.int x), l5, l6, l7, l8, l9], [.int x], h) Q := t_iload k_217_152 rfl
theorem k_217_154 : lk 217 154 = some (.sipush 1369, 157, 0, 0, .int 1369) := by decide +kernel
theorem x_217_154 : Tr sc d 217 (154, [l0, l1, l2, l3, l4, l5, l6, l7, l8, l9], [.int i0], h) Q = Tr sc d 217 (157, [l0, l1, l2, l3, l4, l5, l6, l7, l8, l9], [.int 1369, .int i0], h) Q := t_go k_217_154 rfl
theorem k_217_157 : lk 217 157 = some (.if_icmp .ge 185, 160, 342, 0, .null) := by decide +kernel
theorem x_217_157 : Tr sc d 217 (157, [l0, l1, l2, l3, l4, l5, l6, l7, l8, l9], [.int i1, .int i0], h) Q = if i1 ≤ i0 then Tr sc d 217 (342, [l0, l1, l2, l3, l4, l5, l6, l7, l8, l9], [], h) Q else Tr sc d 217 (160, [l0, l1, l2, l3, l4, l5, l6, l7, l8, l9], [], h) Q := t_if k_217_157 rfl
theorem k_217_160 : lk 217 160 = some (.iconst 0, 161, 0, 0, .int 0) := by decide +kernel
theorem x_217_160 : Tr sc d 217 (160, [l0, l1, l2, l3, l4, l5, l6, l7, l8, l9], [], h) Q = Tr sc d 217 (161, [l0, l1, l2, l3, l4, l5, l6, l7, l8, l9], [.int 0], h) Q := t_go k_217_160 rfl
theorem k_217_161 : lk 217 161 = some (.istore 5, 163, 5, 0, .null) := by decide +kernel
theorem x_217_161 : Tr sc d 217 (161, [l0, l1, l2, l3, l4, l5, l6, l7, l8, l9], [.int i0], h) Q = Tr sc d 217 (163, [l0, l1, l2, l3, cl2 l4, some (.int i0), l6, l7, l8, l9], [], h) Q := t_istore k_217_161 (Nat.le_of_ble_eq_true rfl)
theorem k_217_163 : lk 217 163 = some (.iload 5, 165, 5, 0, .null) := by decide +kernel
theorem x_217_163 : Tr sc d 217 (163, [l0, l1, l2, l3, l4, some (.int x), l6, l7, l8, l9], [], h) Q = Tr sc d 217 (165, [l0, l1, l2, l3, l4, some (.int x), l6, l7, l8, l9], [.int x], h) Q := t_iload k_217_163 rfl
theorem k_217_165 : lk 217 165 = some (.aload_n 0, 166, 0, 0, .null) := by decide +kernel
theorem x_217_165 : Tr sc d 217 (165, [some (.ref xk), l1, l2, l3, l4, l5, l6, l7, l8, l9], [.int i0], h) Q = Tr sc d 217 (166, [some (.ref xk), l1, l2, l3, l4, l5, l6, l7, l8, l9], [.ref xk, .int i0], h) Q := t_aload_n k_217_165 rfl
theorem k_217_166 : lk 217 166 = some (.getfield 41, 169, 10, 18, .null) := by decide +kernel
theorem x_217_166 : Tr sc d 217 (166, [l0, l1, l2, l3, l4, l5, l6, l7, l8, l9], [.ref k1, .int i0], h) Q = (okp h k1 10 = true ∧ ∃ q, hR h k1 18 = some q ∧ Tr sc d 217 (169, [l0, l1, l2, l3, l4, l5, l6, l7, l8, l9], [.ref q, .int i0], h) Q) := t_getr k_217_166
theorem k_217_169 : lk 217 169 = some (.iload_n 1, 170, 1, 0, .null) := by decide +kernel
theorem x_217_169 : Tr sc d 217 (169, [l0, some (.int x), l2, l3, l4, l5, l6, l7, l8, l9], [.ref k1, .int i0], h) Q = Tr sc d 217 (170, [l0, some (.int x), l2, l3, l4, l5, l6, l7, l8, l9], [.int x, .ref k1, .int i0], h) Q := t_iload_n k_217_169 rfl
theorem k_217_170 : lk 217 170 = some (.iaload, 171, 0, 0, .null) := by decide +kernel
theorem x_217_170 : Tr sc d 217 (170, [l0, l1, l2, l3, l4, l5, l6, l7, l8, l9], [.int i2, .ref k1, .int i0], h) Q = (iOk sc h k1 i2 ∧ Tr sc d 217 (171, [l0, l1, l2, l3, l4, l5, l6, l7, l8, l9], [.int (iRd sc h k1 i2), .int i0], h) Q) := t_iald k_217_170
theorem k_217_171 : lk 217 171 = some (.aload_n 0, 172, 0, 0, .null) := by decide +kernel
theorem x_217_171 : Tr sc d 217 (171, [some (.ref xk), l1, l2, l3, l4, l5, l6, l7, l8, l9], [.int i1, .int i0], h) Q = Tr sc d 217 (172, [some (.ref xk), l1, l2, l3, l4, l5, l6, l7, l8, l9], [.ref xk, .int i1, .int i0], h) Q := t_aload_n k_217_171 rfl
theorem k_217_172 : lk 217 172 = some (.getfield 41, 175, 10, 18, .null) := by decide +kernel
theorem x_217_172 : Tr sc d 217 (172, [l0, l1, l2, l3, l4, l5, l6, l7, l8, l9], [.ref k2, .int i1, .int i0], h) Q = (okp h k2 10 = true ∧ ∃ q, hR h k2 18 = some q ∧ Tr sc d 217 (175, [l0, l1, l2, l3, l4, l5, l6, l7, l8, l9], [.ref q, .int i1, .int i0], h) Q) := t_getr k_217_172
theorem k_217_175 : lk 217 175 = some (.iload_n 1, 176, 1, 0, .null) := by decide +kernel
theorem x_217_175 : Tr sc d 217 (175, [l0, some (.int x), l2, l3, l4, l5, l6, l7, l8, l9], [.ref k2, .int i1, .int i0], h) Q = Tr sc d 217 (176, [l0, some (.int x), l2, l3, l4, l5, l6, l7, l8, l9], [.int x, .ref k2, .int i1, .int i0], h) Q := t_iload_n k_217_175 rfl
theorem k_217_176 : lk 217 176 = some (.iaload, 177, 0, 0, .null) := by decide +kernel
theorem x_217_176 : Tr sc d 217 (176, [l0, l1, l2, l3, l4, l5, l6, l7, l8, l9], [.int i3, .ref k2, .int i1, .int i0], h) Q = (iOk sc h k2 i3 ∧ Tr sc d 217 (177, [l0, l1, l2, l3, l4, l5, l6, l7, l8, l9], [.int (iRd sc h k2 i3), .int i1, .int i0], h) Q) := t_iald k_217_176
theorem k_217_177 : lk 217 177 = some (.imul, 178, 0, 0, .null) := by decide +kernel
theorem x_217_177 : Tr sc d 217 (177, [l0, l1, l2, l3, l4, l5, l6, l7, l8, l9], [.int i2, .int i1, .int i0], h) Q = Tr sc d 217 (178, [l0, l1, l2, l3, l4, l5, l6, l7, l8, l9], [.int (i1 * i2), .int i0], h) Q := t_go k_217_177 rfl
theorem k_217_178 : lk 217 178 = some (.if_icmp .ge 158, 181, 336, 0, .null) := by decide +kernel
theorem x_217_178 : Tr sc d 217 (178, [l0, l1, l2, l3, l4, l5, l6, l7, l8, l9], [.int i1, .int i0], h) Q = if i1 ≤ i0 then Tr sc d 217 (336, [l0, l1, l2, l3, l4, l5, l6, l7, l8, l9], [], h) Q else Tr sc d 217 (181, [l0, l1, l2, l3, l4, l5, l6, l7, l8, l9], [], h) Q := t_if k_217_178 rfl
theorem k_217_181 : lk 217 181 = some (.aload_n 0, 182, 0, 0, .null) := by decide +kernel
theorem x_217_181 : Tr sc d 217 (181, [some (.ref xk), l1, l2, l3, l4, l5, l6, l7, l8, l9], [], h) Q = Tr sc d 217 (182, [some (.ref xk), l1, l2, l3, l4, l5, l6, l7, l8, l9], [.ref xk], h) Q := t_aload_n k_217_181 rfl
theorem k_217_182 : lk 217 182 = some (.getfield 88, 185, 10, 46, .null) := by decide +kernel
theorem x_217_182 : Tr sc d 217 (182, [l0, l1, l2, l3, l4, l5, l6, l7, l8, l9], [.ref k0], h) Q = (okp h k0 10 = true ∧ ∃ q, hR h k0 46 = some q ∧ Tr sc d 217 (185, [l0, l1, l2, l3, l4, l5, l6, l7, l8, l9], [.ref q], h) Q) := t_getr k_217_182
theorem k_217_185 : lk 217 185 = some (.iload 4, 187, 4, 0, .null) := by decide +kernel
theorem x_217_185 : Tr sc d 217 (185, [l0, l1, l2, l3, some (.int x), l5, l6, l7, l8, l9], [.ref k0], h) Q = Tr sc d 217 (187, [l0, l1, l2, l3, some (.int x), l5, l6, l7, l8, l9], [.int x, .ref k0], h) Q := t_iload k_217_185 rfl
theorem k_217_187 : lk 217 187 = some (.baload, 188, 0, 0, .null) := by decide +kernel
theorem x_217_187 : Tr sc d 217 (187, [l0, l1, l2, l3, l4, l5, l6, l7, l8, l9], [.int i1, .ref k0], h) Q = ((okp h k0 13 && inb i1 (LN k0)) = true ∧ Tr sc d 217 (188, [l0, l1, l2, l3, l4, l5, l6, l7, l8, l9], [.int (hI h k0 i1.toNatClampNeg)], h) Q) := t_gd k_217_187 rfl
theorem k_217_188 : lk 217 188 = some (.ifCond .eq 148, 191, 336, 0, .null) := by decide +kernel
theorem x_217_188 : Tr sc d 217 (188, [l0, l1, l2, l3, l4, l5, l6, l7, l8, l9], [.int i0], h) Q = if i0 = 0 then Tr sc d 217 (336, [l0, l1, l2, l3, l4, l5, l6, l7, l8, l9], [], h) Q else Tr sc d 217 (191, [l0, l1, l2, l3, l4, l5, l6, l7, l8, l9], [], h) Q := t_if k_217_188 rfl
theorem k_217_191 : lk 217 191 = some (.bipush 6, 193, 0, 0, .int 6) := by decide +kernel
theorem x_217_191 : Tr sc d 217 (191, [l0, l1, l2, l3, l4, l5, l6, l7, l8, l9], [], h) Q = Tr sc d 217 (193, [l0, l1, l2, l3, l4, l5, l6, l7, l8, l9], [.int 6], h) Q := t_go k_217_191 rfl
theorem k_217_193 : lk 217 193 = some (.iload_n 1, 194, 1, 0, .null) := by decide +kernel
theorem x_217_193 : Tr sc d 217 (193, [l0, some (.int x), l2, l3, l4, l5, l6, l7, l8, l9], [.int i0], h) Q = Tr sc d 217 (194, [l0, some (.int x), l2, l3, l4, l5, l6, l7, l8, l9], [.int x, .int i0], h) Q := t_iload_n k_217_193 rfl
theorem k_217_194 : lk 217 194 = some (.imul, 195, 0, 0, .null) := by decide +kernel
theorem x_217_194 : Tr sc d 217 (194, [l0, l1, l2, l3, l4, l5, l6, l7, l8, l9], [.int i1, .int i0], h) Q = Tr sc d 217 (195, [l0, l1, l2, l3, l4, l5, l6, l7, l8, l9], [.int (i0 * i1)], h) Q := t_go k_217_194 rfl
theorem k_217_195 : lk 217 195 = some (.iload 5, 197, 5, 0, .null) := by decide +kernel
theorem x_217_195 : Tr sc d 217 (195, [l0, l1, l2, l3, l4, some (.int x), l6, l7, l8, l9], [.int i0], h) Q = Tr sc d 217 (197, [l0, l1, l2, l3, l4, some (.int x), l6, l7, l8, l9], [.int x, .int i0], h) Q := t_iload k_217_195 rfl
theorem k_217_197 : lk 217 197 = some (.aload_n 0, 198, 0, 0, .null) := by decide +kernel
theorem x_217_197 : Tr sc d 217 (197, [some (.ref xk), l1, l2, l3, l4, l5, l6, l7, l8, l9], [.int i1, .int i0], h) Q = Tr sc d 217 (198, [some (.ref xk), l1, l2, l3, l4, l5, l6, l7, l8, l9], [.ref xk, .int i1, .int i0], h) Q := t_aload_n k_217_197 rfl
theorem k_217_198 : lk 217 198 = some (.getfield 41, 201, 10, 18, .null) := by decide +kernel
theorem x_217_198 : Tr sc d 217 (198, [l0, l1, l2, l3, l4, l5, l6, l7, l8, l9], [.ref k2, .int i1, .int i0], h) Q = (okp h k2 10 = true ∧ ∃ q, hR h k2 18 = some q ∧ Tr sc d 217 (201, [l0, l1, l2, l3, l4, l5, l6, l7, l8, l9], [.ref q, .int i1, .int i0], h) Q) := t_getr k_217_198
theorem k_217_201 : lk 217 201 = some (.iload_n 1, 202, 1, 0, .null) := by decide +kernel
theorem x_217_201 : Tr sc d 217 (201, [l0, some (.int x), l2, l3, l4, l5, l6, l7, l8, l9], [.ref k2, .int i1, .int i0], h) Q = Tr sc d 217 (202, [l0, some (.int x), l2, l3, l4, l5, l6, l7, l8, l9], [.int x, .ref k2, .int i1, .int i0], h) Q := t_iload_n k_217_201 rfl
theorem k_217_202 : lk 217 202 = some (.iaload, 203, 0, 0, .null) := by decide +kernel
theorem x_217_202 : Tr sc d 217 (202, [l0, l1, l2, l3, l4, l5, l6, l7, l8, l9], [.int i3, .ref k2, .int i1, .int i0], h) Q = (iOk sc h k2 i3 ∧ Tr sc d 217 (203, [l0, l1, l2, l3, l4, l5, l6, l7, l8, l9], [.int (iRd sc h k2 i3), .int i1, .int i0], h) Q) := t_iald k_217_202
theorem k_217_203 : lk 217 203 = some (.idiv, 204, 0, 0, .null) := by decide +kernel
theorem x_217_203 : Tr sc d 217 (203, [l0, l1, l2, l3, l4, l5, l6, l7, l8, l9], [.int i2, .int i1, .int i0], h) Q = (¬ i2 = 0 ∧ Tr sc d 217 (204, [l0, l1, l2, l3, l4, l5, l6, l7, l8, l9], [.int (i1 / i2), .int i0], h) Q) := t_ng k_217_203 rfl
theorem k_217_204 : lk 217 204 = some (.iadd, 205, 0, 0, .null) := by decide +kernel
theorem x_217_204 : Tr sc d 217 (204, [l0, l1, l2, l3, l4, l5, l6, l7, l8, l9], [.int i1, .int i0], h) Q = Tr sc d 217 (205, [l0, l1, l2, l3, l4, l5, l6, l7, l8, l9], [.int (i0 + i1)], h) Q := t_go k_217_204 rfl
theorem k_217_205 : lk 217 205 = some (.istore 6, 207, 6, 0, .null) := by decide +kernel
theorem x_217_205 : Tr sc d 217 (205, [l0, l1, l2, l3, l4, l5, l6, l7, l8, l9], [.int i0], h) Q = Tr sc d 217 (207, [l0, l1, l2, l3, l4, cl2 l5, some (.int i0), l7, l8, l9], [], h) Q := t_istore k_217_205 (Nat.le_of_ble_eq_true rfl)
theorem k_217_207 : lk 217 207 = some (.bipush 6, 209, 0, 0, .int 6) := by decide +kernel
theorem x_217_207 : Tr sc d 217 (207, [l0, l1, l2, l3, l4, l5, l6, l7, l8, l9], [], h) Q = Tr sc d 217 (209, [l0, l1, l2, l3, l4, l5, l6, l7, l8, l9], [.int 6], h) Q := t_go k_217_207 rfl
theorem k_217_209 : lk 217 209 = some (.iload_n 1, 210, 1, 0, .null) := by decide +kernel
theorem x_217_209 : Tr sc d 217 (209, [l0, some (.int x), l2, l3, l4, l5, l6, l7, l8, l9], [.int i0], h) Q = Tr sc d 217 (210, [l0, some (.int x), l2, l3, l4, l5, l6, l7, l8, l9], [.int x, .int i0], h) Q := t_iload_n k_217_209 rfl
theorem k_217_210 : lk 217 210 = some (.imul, 211, 0, 0, .null) := by decide +kernel
theorem x_217_210 : Tr sc d 217 (210, [l0, l1, l2, l3, l4, l5, l6, l7, l8, l9], [.int i1, .int i0], h) Q = Tr sc d 217 (211, [l0, l1, l2, l3, l4, l5, l6, l7, l8, l9], [.int (i0 * i1)], h) Q := t_go k_217_210 rfl
theorem k_217_211 : lk 217 211 = some (.iload 5, 213, 5, 0, .null) := by decide +kernel
theorem x_217_211 : Tr sc d 217 (211, [l0, l1, l2, l3, l4, some (.int x), l6, l7, l8, l9], [.int i0], h) Q = Tr sc d 217 (213, [l0, l1, l2, l3, l4, some (.int x), l6, l7, l8, l9], [.int x, .int i0], h) Q := t_iload k_217_211 rfl
theorem k_217_213 : lk 217 213 = some (.aload_n 0, 214, 0, 0, .null) := by decide +kernel
theorem x_217_213 : Tr sc d 217 (213, [some (.ref xk), l1, l2, l3, l4, l5, l6, l7, l8, l9], [.int i1, .int i0], h) Q = Tr sc d 217 (214, [some (.ref xk), l1, l2, l3, l4, l5, l6, l7, l8, l9], [.ref xk, .int i1, .int i0], h) Q := t_aload_n k_217_213 rfl
theorem k_217_214 : lk 217 214 = some (.getfield 41, 217, 10, 18, .null) := by decide +kernel
theorem x_217_214 : Tr sc d 217 (214, [l0, l1, l2, l3, l4, l5, l6, l7, l8, l9], [.ref k2, .int i1, .int i0], h) Q = (okp h k2 10 = true ∧ ∃ q, hR h k2 18 = some q ∧ Tr sc d 217 (217, [l0, l1, l2, l3, l4, l5, l6, l7, l8, l9], [.ref q, .int i1, .int i0], h) Q) := t_getr k_217_214
theorem k_217_217 : lk 217 217 = some (.iload_n 1, 218, 1, 0, .null) := by decide +kernel
theorem x_217_217 : Tr sc d 217 (217, [l0, some (.int x), l2, l3, l4, l5, l6, l7, l8, l9], [.ref k2, .int i1, .int i0], h) Q = Tr sc d 217 (218, [l0, some (.int x), l2, l3, l4, l5, l6, l7, l8, l9], [.int x, .ref k2, .int i1, .int i0], h) Q := t_iload_n k_217_217 rfl
theorem k_217_218 : lk 217 218 = some (.iaload, 219, 0, 0, .null) := by decide +kernel
theorem x_217_218 : Tr sc d 217 (218, [l0, l1, l2, l3, l4, l5, l6, l7, l8, l9], [.int i3, .ref k2, .int i1, .int i0], h) Q = (iOk sc h k2 i3 ∧ Tr sc d 217 (219, [l0, l1, l2, l3, l4, l5, l6, l7, l8, l9], [.int (iRd sc h k2 i3), .int i1, .int i0], h) Q) := t_iald k_217_218
theorem k_217_219 : lk 217 219 = some (.irem, 220, 0, 0, .null) := by decide +kernel
theorem x_217_219 : Tr sc d 217 (219, [l0, l1, l2, l3, l4, l5, l6, l7, l8, l9], [.int i2, .int i1, .int i0], h) Q = (¬ i2 = 0 ∧ Tr sc d 217 (220, [l0, l1, l2, l3, l4, l5, l6, l7, l8, l9], [.int (i1 - i1 / i2 * i2), .int i0], h) Q) := t_ng k_217_219 rfl
theorem k_217_220 : lk 217 220 = some (.iadd, 221, 0, 0, .null) := by decide +kernel
theorem x_217_220 : Tr sc d 217 (220, [l0, l1, l2, l3, l4, l5, l6, l7, l8, l9], [.int i1, .int i0], h) Q = Tr sc d 217 (221, [l0, l1, l2, l3, l4, l5, l6, l7, l8, l9], [.int (i0 + i1)], h) Q := t_go k_217_220 rfl
theorem k_217_221 : lk 217 221 = some (.istore 7, 223, 7, 0, .null) := by decide +kernel
theorem x_217_221 : Tr sc d 217 (221, [l0, l1, l2, l3, l4, l5, l6, l7, l8, l9], [.int i0], h) Q = Tr sc d 217 (223, [l0, l1, l2, l3, l4, l5, cl2 l6, some (.int i0), l8, l9], [], h) Q := t_istore k_217_221 (Nat.le_of_ble_eq_true rfl)
theorem k_217_223 : lk 217 223 = some (.aload_n 0, 224, 0, 0, .null) := by decide +kernel
theorem x_217_223 : Tr sc d 217 (223, [some (.ref xk), l1, l2, l3, l4, l5, l6, l7, l8, l9], [], h) Q = Tr sc d 217 (224, [some (.ref xk), l1, l2, l3, l4, l5, l6, l7, l8, l9], [.ref xk], h) Q := t_aload_n k_217_223 rfl
theorem k_217_224 : lk 217 224 = some (.getfield 38, 227, 10, 17, .null) := by decide +kernel
theorem x_217_224 : Tr sc d 217 (224, [l0, l1, l2, l3, l4, l5, l6, l7, l8, l9], [.ref k0], h) Q = (okp h k0 10 = true ∧ ∃ q, hR h k0 17 = some q ∧ Tr sc d 217 (227, [l0, l1, l2, l3, l4, l5, l6, l7, l8, l9], [.ref q], h) Q) := t_getr k_217_224
theorem k_217_227 : lk 217 227 = some (.iload_n 1, 228, 1, 0, .null) := by decide +kernel
theorem x_217_227 : Tr sc d 217 (227, [l0, some (.int x), l2, l3, l4, l5, l6, l7, l8, l9], [.ref k0], h) Q = Tr sc d 217 (228, [l0, some (.int x), l2, l3, l4, l5, l6, l7, l8, l9], [.int x, .ref k0], h) Q := t_iload_n k_217_227 rfl
theorem k_217_228 : lk 217 228 = some (.iaload, 229, 0, 0, .null) := by decide +kernel
theorem x_217_228 : Tr sc d 217 (228, [l0, l1, l2, l3, l4, l5, l6, l7, l8, l9], [.int i1, .ref k0], h) Q = (iOk sc h k0 i1 ∧ Tr sc d 217 (229, [l0, l1, l2, l3, l4, l5, l6, l7, l8, l9], [.int (iRd sc h k0 i1)], h) Q) := t_iald k_217_228
theorem k_217_229 : lk 217 229 = some (.iload 4, 231, 4, 0, .null) := by decide +kernel
theorem x_217_229 : Tr sc d 217 (229, [l0, l1, l2, l3, some (.int x), l5, l6, l7, l8, l9], [.int i0], h) Q = Tr sc d 217 (231, [l0, l1, l2, l3, some (.int x), l5, l6, l7, l8, l9], [.int x, .int i0], h) Q := t_iload k_217_229 rfl
theorem k_217_231 : lk 217 231 = some (.bipush 37, 233, 0, 0, .int 37) := by decide +kernel
theorem x_217_231 : Tr sc d 217 (231, [l0, l1, l2, l3, l4, l5, l6, l7, l8, l9], [.int i1, .int i0], h) Q = Tr sc d 217 (233, [l0, l1, l2, l3, l4, l5, l6, l7, l8, l9], [.int 37, .int i1, .int i0], h) Q := t_go k_217_231 rfl
theorem k_217_233 : lk 217 233 = some (.irem, 234, 0, 0, .null) := by decide +kernel
theorem x_217_233 : Tr sc d 217 (233, [l0, l1, l2, l3, l4, l5, l6, l7, l8, l9], [.int i2, .int i1, .int i0], h) Q = (¬ i2 = 0 ∧ Tr sc d 217 (234, [l0, l1, l2, l3, l4, l5, l6, l7, l8, l9], [.int (i1 - i1 / i2 * i2), .int i0], h) Q) := t_ng k_217_233 rfl
theorem k_217_234 : lk 217 234 = some (.bipush 18, 236, 0, 0, .int 18) := by decide +kernel
theorem x_217_234 : Tr sc d 217 (234, [l0, l1, l2, l3, l4, l5, l6, l7, l8, l9], [.int i1, .int i0], h) Q = Tr sc d 217 (236, [l0, l1, l2, l3, l4, l5, l6, l7, l8, l9], [.int 18, .int i1, .int i0], h) Q := t_go k_217_234 rfl
theorem k_217_236 : lk 217 236 = some (.isub, 237, 0, 0, .null) := by decide +kernel
theorem x_217_236 : Tr sc d 217 (236, [l0, l1, l2, l3, l4, l5, l6, l7, l8, l9], [.int i2, .int i1, .int i0], h) Q = Tr sc d 217 (237, [l0, l1, l2, l3, l4, l5, l6, l7, l8, l9], [.int (i1 - i2), .int i0], h) Q := t_go k_217_236 rfl
theorem k_217_237 : lk 217 237 = some (.imul, 238, 0, 0, .null) := by decide +kernel
theorem x_217_237 : Tr sc d 217 (237, [l0, l1, l2, l3, l4, l5, l6, l7, l8, l9], [.int i1, .int i0], h) Q = Tr sc d 217 (238, [l0, l1, l2, l3, l4, l5, l6, l7, l8, l9], [.int (i0 * i1)], h) Q := t_go k_217_237 rfl
theorem k_217_238 : lk 217 238 = some (.aload_n 0, 239, 0, 0, .null) := by decide +kernel
theorem x_217_238 : Tr sc d 217 (238, [some (.ref xk), l1, l2, l3, l4, l5, l6, l7, l8, l9], [.int i0], h) Q = Tr sc d 217 (239, [some (.ref xk), l1, l2, l3, l4, l5, l6, l7, l8, l9], [.ref xk, .int i0], h) Q := t_aload_n k_217_238 rfl
theorem k_217_239 : lk 217 239 = some (.getfield 47, 242, 10, 20, .null) := by decide +kernel
theorem x_217_239 : Tr sc d 217 (239, [l0, l1, l2, l3, l4, l5, l6, l7, l8, l9], [.ref k1, .int i0], h) Q = (okp h k1 10 = true ∧ ∃ q, hR h k1 20 = some q ∧ Tr sc d 217 (242, [l0, l1, l2, l3, l4, l5, l6, l7, l8, l9], [.ref q, .int i0], h) Q) := t_getr k_217_239
theorem k_217_242 : lk 217 242 = some (.iload 7, 244, 7, 0, .null) := by decide +kernel
theorem x_217_242 : Tr sc d 217 (242, [l0, l1, l2, l3, l4, l5, l6, some (.int x), l8, l9], [.ref k1, .int i0], h) Q = Tr sc d 217 (244, [l0, l1, l2, l3, l4, l5, l6, some (.int x), l8, l9], [.int x, .ref k1, .int i0], h) Q := t_iload k_217_242 rfl
theorem k_217_244 : lk 217 244 = some (.iaload, 245, 0, 0, .null) := by decide +kernel
theorem x_217_244 : Tr sc d 217 (244, [l0, l1, l2, l3, l4, l5, l6, l7, l8, l9], [.int i2, .ref k1, .int i0], h) Q = (iOk sc h k1 i2 ∧ Tr sc d 217 (245, [l0, l1, l2, l3, l4, l5, l6, l7, l8, l9], [.int (iRd sc h k1 i2), .int i0], h) Q) := t_iald k_217_244
theorem k_217_245 : lk 217 245 = some (.iadd, 246, 0, 0, .null) := by decide +kernel
theorem x_217_245 : Tr sc d 217 (245, [l0, l1, l2, l3, l4, l5, l6, l7, l8, l9], [.int i1, .int i0], h) Q = Tr sc d 217 (246, [l0, l1, l2, l3, l4, l5, l6, l7, l8, l9], [.int (i0 + i1)], h) Q := t_go k_217_245 rfl
theorem k_217_246 : lk 217 246 = some (.aload_n 0, 247, 0, 0, .null) := by decide +kernel
theorem x_217_246 : Tr sc d 217 (246, [some (.ref xk), l1, l2, l3, l4, l5, l6, l7, l8, l9], [.int i0], h) Q = Tr sc d 217 (247, [some (.ref xk), l1, l2, l3, l4, l5, l6, l7, l8, l9], [.ref xk, .int i0], h) Q := t_aload_n k_217_246 rfl
theorem k_217_247 : lk 217 247 = some (.getfield 47, 250, 10, 20, .null) := by decide +kernel
theorem x_217_247 : Tr sc d 217 (247, [l0, l1, l2, l3, l4, l5, l6, l7, l8, l9], [.ref k1, .int i0], h) Q = (okp h k1 10 = true ∧ ∃ q, hR h k1 20 = some q ∧ Tr sc d 217 (250, [l0, l1, l2, l3, l4, l5, l6, l7, l8, l9], [.ref q, .int i0], h) Q) := t_getr k_217_247
theorem k_217_250 : lk 217 250 = some (.iload 6, 252, 6, 0, .null) := by decide +kernel
theorem x_217_250 : Tr sc d 217 (250, [l0, l1, l2, l3, l4, l5, some (.int x), l7, l8, l9], [.ref k1, .int i0], h) Q = Tr sc d 217 (252, [l0, l1, l2, l3, l4, l5, some (.int x), l7, l8, l9], [.int x, .ref k1, .int i0], h) Q := t_iload k_217_250 rfl
theorem k_217_252 : lk 217 252 = some (.iaload, 253, 0, 0, .null) := by decide +kernel
theorem x_217_252 : Tr sc d 217 (252, [l0, l1, l2, l3, l4, l5, l6, l7, l8, l9], [.int i2, .ref k1, .int i0], h) Q = (iOk sc h k1 i2 ∧ Tr sc d 217 (253, [l0, l1, l2, l3, l4, l5, l6, l7, l8, l9], [.int (iRd sc h k1 i2), .int i0], h) Q) := t_iald k_217_252
theorem k_217_253 : lk 217 253 = some (.isub, 254, 0, 0, .null) := by decide +kernel
theorem x_217_253 : Tr sc d 217 (253, [l0, l1, l2, l3, l4, l5, l6, l7, l8, l9], [.int i1, .int i0], h) Q = Tr sc d 217 (254, [l0, l1, l2, l3, l4, l5, l6, l7, l8, l9], [.int (i0 - i1)], h) Q := t_go k_217_253 rfl
theorem k_217_254 : lk 217 254 = some (.istore 8, 256, 8, 0, .null) := by decide +kernel
theorem x_217_254 : Tr sc d 217 (254, [l0, l1, l2, l3, l4, l5, l6, l7, l8, l9], [.int i0], h) Q = Tr sc d 217 (256, [l0, l1, l2, l3, l4, l5, l6, cl2 l7, some (.int i0), l9], [], h) Q := t_istore k_217_254 (Nat.le_of_ble_eq_true rfl)
theorem k_217_256 : lk 217 256 = some (.aload_n 0, 257, 0, 0, .null) := by decide +kernel
theorem x_217_256 : Tr sc d 217 (256, [some (.ref xk), l1, l2, l3, l4, l5, l6, l7, l8, l9], [], h) Q = Tr sc d 217 (257, [some (.ref xk), l1, l2, l3, l4, l5, l6, l7, l8, l9], [.ref xk], h) Q := t_aload_n k_217_256 rfl
theorem k_217_257 : lk 217 257 = some (.getfield 38, 260, 10, 17, .null) := by decide +kernel
theorem x_217_257 : Tr sc d 217 (257, [l0, l1, l2, l3, l4, l5, l6, l7, l8, l9], [.ref k0], h) Q = (okp h k0 10 = true ∧ ∃ q, hR h k0 17 = some q ∧ Tr sc d 217 (260, [l0, l1, l2, l3, l4, l5, l6, l7, l8, l9], [.ref q], h) Q) := t_getr k_217_257
theorem k_217_260 : lk 217 260 = some (.iload_n 1, 261, 1, 0, .null) := by decide +kernel
theorem x_217_260 : Tr sc d 217 (260, [l0, some (.int x), l2, l3, l4, l5, l6, l7, l8, l9], [.ref k0], h) Q = Tr sc d 217 (261, [l0, some (.int x), l2, l3, l4, l5, l6, l7, l8, l9], [.int x, .ref k0], h) Q := t_iload_n k_217_260 rfl
theorem k_217_261 : lk 217 261 = some (.iaload, 262, 0, 0, .null) := by decide +kernel
theorem x_217_261 : Tr sc d 217 (261, [l0, l1, l2, l3, l4, l5, l6, l7, l8, l9], [.int i1, .ref k0], h) Q = (iOk sc h k0 i1 ∧ Tr sc d 217 (262, [l0, l1, l2, l3, l4, l5, l6, l7, l8, l9], [.int (iRd sc h k0 i1)], h) Q) := t_iald k_217_261
theorem k_217_262 : lk 217 262 = some (.iload 4, 264, 4, 0, .null) := by decide +kernel
theorem x_217_262 : Tr sc d 217 (262, [l0, l1, l2, l3, some (.int x), l5, l6, l7, l8, l9], [.int i0], h) Q = Tr sc d 217 (264, [l0, l1, l2, l3, some (.int x), l5, l6, l7, l8, l9], [.int x, .int i0], h) Q := t_iload k_217_262 rfl
theorem k_217_264 : lk 217 264 = some (.bipush 37, 266, 0, 0, .int 37) := by decide +kernel
theorem x_217_264 : Tr sc d 217 (264, [l0, l1, l2, l3, l4, l5, l6, l7, l8, l9], [.int i1, .int i0], h) Q = Tr sc d 217 (266, [l0, l1, l2, l3, l4, l5, l6, l7, l8, l9], [.int 37, .int i1, .int i0], h) Q := t_go k_217_264 rfl
theorem k_217_266 : lk 217 266 = some (.idiv, 267, 0, 0, .null) := by decide +kernel
theorem x_217_266 : Tr sc d 217 (266, [l0, l1, l2, l3, l4, l5, l6, l7, l8, l9], [.int i2, .int i1, .int i0], h) Q = (¬ i2 = 0 ∧ Tr sc d 217 (267, [l0, l1, l2, l3, l4, l5, l6, l7, l8, l9], [.int (i1 / i2), .int i0], h) Q) := t_ng k_217_266 rfl
theorem k_217_267 : lk 217 267 = some (.bipush 18, 269, 0, 0, .int 18) := by decide +kernel
theorem x_217_267 : Tr sc d 217 (267, [l0, l1, l2, l3, l4, l5, l6, l7, l8, l9], [.int i1, .int i0], h) Q = Tr sc d 217 (269, [l0, l1, l2, l3, l4, l5, l6, l7, l8, l9], [.int 18, .int i1, .int i0], h) Q := t_go k_217_267 rfl
theorem k_217_269 : lk 217 269 = some (.isub, 270, 0, 0, .null) := by decide +kernel
theorem x_217_269 : Tr sc d 217 (269, [l0, l1, l2, l3, l4, l5, l6, l7, l8, l9], [.int i2, .int i1, .int i0], h) Q = Tr sc d 217 (270, [l0, l1, l2, l3, l4, l5, l6, l7, l8, l9], [.int (i1 - i2), .int i0], h) Q := t_go k_217_269 rfl
theorem k_217_270 : lk 217 270 = some (.imul, 271, 0, 0, .null) := by decide +kernel
theorem x_217_270 : Tr sc d 217 (270, [l0, l1, l2, l3, l4, l5, l6, l7, l8, l9], [.int i1, .int i0], h) Q = Tr sc d 217 (271, [l0, l1, l2, l3, l4, l5, l6, l7, l8, l9], [.int (i0 * i1)], h) Q := t_go k_217_270 rfl
theorem k_217_271 : lk 217 271 = some (.aload_n 0, 272, 0, 0, .null) := by decide +kernel
theorem x_217_271 : Tr sc d 217 (271, [some (.ref xk), l1, l2, l3, l4, l5, l6, l7, l8, l9], [.int i0], h) Q = Tr sc d 217 (272, [some (.ref xk), l1, l2, l3, l4, l5, l6, l7, l8, l9], [.ref xk, .int i0], h) Q := t_aload_n k_217_271 rfl
theorem k_217_272 : lk 217 272 = some (.getfield 50, 275, 10, 21, .null) := by decide +kernel
theorem x_217_272 : Tr sc d 217 (272, [l0, l1, l2, l3, l4, l5, l6, l7, l8, l9], [.ref k1, .int i0], h) Q = (okp h k1 10 = true ∧ ∃ q, hR h k1 21 = some q ∧ Tr sc d 217 (275, [l0, l1, l2, l3, l4, l5, l6, l7, l8, l9], [.ref q, .int i0], h) Q) := t_getr k_217_272
theorem k_217_275 : lk 217 275 = some (.iload 7, 277, 7, 0, .null) := by decide +kernel
theorem x_217_275 : Tr sc d 217 (275, [l0, l1, l2, l3, l4, l5, l6, some (.int x), l8, l9], [.ref k1, .int i0], h) Q = Tr sc d 217 (277, [l0, l1, l2, l3, l4, l5, l6, some (.int x), l8, l9], [.int x, .ref k1, .int i0], h) Q := t_iload k_217_275 rfl
theorem k_217_277 : lk 217 277 = some (.iaload, 278, 0, 0, .null) := by decide +kernel
theorem x_217_277 : Tr sc d 217 (277, [l0, l1, l2, l3, l4, l5, l6, l7, l8, l9], [.int i2, .ref k1, .int i0], h) Q = (iOk sc h k1 i2 ∧ Tr sc d 217 (278, [l0, l1, l2, l3, l4, l5, l6, l7, l8, l9], [.int (iRd sc h k1 i2), .int i0], h) Q) := t_iald k_217_277
theorem k_217_278 : lk 217 278 = some (.iadd, 279, 0, 0, .null) := by decide +kernel
theorem x_217_278 : Tr sc d 217 (278, [l0, l1, l2, l3, l4, l5, l6, l7, l8, l9], [.int i1, .int i0], h) Q = Tr sc d 217 (279, [l0, l1, l2, l3, l4, l5, l6, l7, l8, l9], [.int (i0 + i1)], h) Q := t_go k_217_278 rfl
theorem k_217_279 : lk 217 279 = some (.aload_n 0, 280, 0, 0, .null) := by decide +kernel
theorem x_217_279 : Tr sc d 217 (279, [some (.ref xk), l1, l2, l3, l4, l5, l6, l7, l8, l9], [.int i0], h) Q = Tr sc d 217 (280, [some (.ref xk), l1, l2, l3, l4, l5, l6, l7, l8, l9], [.ref xk, .int i0], h) Q := t_aload_n k_217_279 rfl
theorem k_217_280 : lk 217 280 = some (.getfield 50, 283, 10, 21, .null) := by decide +kernel
theorem x_217_280 : Tr sc d 217 (280, [l0, l1, l2, l3, l4, l5, l6, l7, l8, l9], [.ref k1, .int i0], h) Q = (okp h k1 10 = true ∧ ∃ q, hR h k1 21 = some q ∧ Tr sc d 217 (283, [l0, l1, l2, l3, l4, l5, l6, l7, l8, l9], [.ref q, .int i0], h) Q) := t_getr k_217_280
theorem k_217_283 : lk 217 283 = some (.iload 6, 285, 6, 0, .null) := by decide +kernel
theorem x_217_283 : Tr sc d 217 (283, [l0, l1, l2, l3, l4, l5, some (.int x), l7, l8, l9], [.ref k1, .int i0], h) Q = Tr sc d 217 (285, [l0, l1, l2, l3, l4, l5, some (.int x), l7, l8, l9], [.int x, .ref k1, .int i0], h) Q := t_iload k_217_283 rfl
theorem k_217_285 : lk 217 285 = some (.iaload, 286, 0, 0, .null) := by decide +kernel
theorem x_217_285 : Tr sc d 217 (285, [l0, l1, l2, l3, l4, l5, l6, l7, l8, l9], [.int i2, .ref k1, .int i0], h) Q = (iOk sc h k1 i2 ∧ Tr sc d 217 (286, [l0, l1, l2, l3, l4, l5, l6, l7, l8, l9], [.int (iRd sc h k1 i2), .int i0], h) Q) := t_iald k_217_285
theorem k_217_286 : lk 217 286 = some (.isub, 287, 0, 0, .null) := by decide +kernel
theorem x_217_286 : Tr sc d 217 (286, [l0, l1, l2, l3, l4, l5, l6, l7, l8, l9], [.int i1, .int i0], h) Q = Tr sc d 217 (287, [l0, l1, l2, l3, l4, l5, l6, l7, l8, l9], [.int (i0 - i1)], h) Q := t_go k_217_286 rfl
theorem k_217_287 : lk 217 287 = some (.istore 9, 289, 9, 0, .null) := by decide +kernel
theorem x_217_287 : Tr sc d 217 (287, [l0, l1, l2, l3, l4, l5, l6, l7, l8, l9], [.int i0], h) Q = Tr sc d 217 (289, [l0, l1, l2, l3, l4, l5, l6, l7, cl2 l8, some (.int i0)], [], h) Q := t_istore k_217_287 (Nat.le_of_ble_eq_true rfl)
theorem k_217_289 : lk 217 289 = some (.aload_n 0, 290, 0, 0, .null) := by decide +kernel
theorem x_217_289 : Tr sc d 217 (289, [some (.ref xk), l1, l2, l3, l4, l5, l6, l7, l8, l9], [], h) Q = Tr sc d 217 (290, [some (.ref xk), l1, l2, l3, l4, l5, l6, l7, l8, l9], [.ref xk], h) Q := t_aload_n k_217_289 rfl
theorem k_217_290 : lk 217 290 = some (.iload 8, 292, 8, 0, .null) := by decide +kernel
theorem x_217_290 : Tr sc d 217 (290, [l0, l1, l2, l3, l4, l5, l6, l7, some (.int x), l9], [.ref k0], h) Q = Tr sc d 217 (292, [l0, l1, l2, l3, l4, l5, l6, l7, some (.int x), l9], [.int x, .ref k0], h) Q := t_iload k_217_290 rfl
theorem k_217_292 : lk 217 292 = some (.iload 9, 294, 9, 0, .null) := by decide +kernel
theorem x_217_292 : Tr sc d 217 (292, [l0, l1, l2, l3, l4, l5, l6, l7, l8, some (.int x)], [.int i1, .ref k0], h) Q = Tr sc d 217 (294, [l0, l1, l2, l3, l4, l5, l6, l7, l8, some (.int x)], [.int x, .int i1, .ref k0], h) Q := t_iload k_217_292 rfl
theorem k_217_294 : lk 217 294 = some (.invokevirtual 313, 297, 213, 2, .null) := by decide +kernel
theorem x_217_294 : Tr sc (d + 1) 217 (294, [l0, l1, l2, l3, l4, l5, l6, l7, l8, l9], [.int i2, .int i1, .ref k0], h) Q = (okp h k0 10 = true ∧ Tr sc d 213 (ent0 213 [.ref k0, .int i1, .int i2] h) (fun z => Tr sc (d + 1) 217 (297, [l0, l1, l2, l3, l4, l5, l6, l7, l8, l9], z.1.toList ++ [], z.2) Q)) := t_cv (as := [.int i1, .int i2]) (r := []) k_217_294 rfl rfl (Nat.le_of_ble_eq_true rfl) (Nat.le_of_ble_eq_true rfl) (Nat.le_of_ble_eq_true rfl)
theorem k_217_297 : lk 217 297 = some (.ifCond .eq 33, 300, 330, 0, .null) := by decide +kernel
theorem x_217_297 : Tr sc d 217 (297, [l0, l1, l2, l3, l4, l5, l6, l7, l8, l9], [.int i0], h) Q = if i0 = 0 then Tr sc d 217 (330, [l0, l1, l2, l3, l4, l5, l6, l7, l8, l9], [], h) Q else Tr sc d 217 (300, [l0, l1, l2, l3, l4, l5, l6, l7, l8, l9], [], h) Q := t_if k_217_297 rfl
theorem k_217_300 : lk 217 300 = some (.aload_n 0, 301, 0, 0, .null) := by decide +kernel
theorem x_217_300 : Tr sc d 217 (300, [some (.ref xk), l1, l2, l3, l4, l5, l6, l7, l8, l9], [], h) Q = Tr sc d 217 (301, [some (.ref xk), l1, l2, l3, l4, l5, l6, l7, l8, l9], [.ref xk], h) Q := t_aload_n k_217_300 rfl
theorem k_217_301 : lk 217 301 = some (.getfield 88, 304, 10, 46, .null) := by decide +kernel
theorem x_217_301 : Tr sc d 217 (301, [l0, l1, l2, l3, l4, l5, l6, l7, l8, l9], [.ref k0], h) Q = (okp h k0 10 = true ∧ ∃ q, hR h k0 46 = some q ∧ Tr sc d 217 (304, [l0, l1, l2, l3, l4, l5, l6, l7, l8, l9], [.ref q], h) Q) := t_getr k_217_301
theorem k_217_304 : lk 217 304 = some (.iload 8, 306, 8, 0, .null) := by decide +kernel
theorem x_217_304 : Tr sc d 217 (304, [l0, l1, l2, l3, l4, l5, l6, l7, some (.int x), l9], [.ref k0], h) Q = Tr sc d 217 (306, [l0, l1, l2, l3, l4, l5, l6, l7, some (.int x), l9], [.int x, .ref k0], h) Q := t_iload k_217_304 rfl
theorem k_217_306 : lk 217 306 = some (.iload 9, 308, 9, 0, .null) := by decide +kernel
theorem x_217_306 : Tr sc d 217 (306, [l0, l1, l2, l3, l4, l5, l6, l7, l8, some (.int x)], [.int i1, .ref k0], h) Q = Tr sc d 217 (308, [l0, l1, l2, l3, l4, l5, l6, l7, l8, some (.int x)], [.int x, .int i1, .ref k0], h) Q := t_iload k_217_306 rfl
theorem k_217_308 : lk 217 308 = some (.invokestatic 310, 311, 212, 2, .null) := by decide +kernel
theorem x_217_308 : Tr sc (d + 1) 217 (308, [l0, l1, l2, l3, l4, l5, l6, l7, l8, l9], [.int i2, .int i1, .ref k0], h) Q = Tr sc d 212 (ent0 212 [.int i1, .int i2] h) (fun z => Tr sc (d + 1) 217 (311, [l0, l1, l2, l3, l4, l5, l6, l7, l8, l9], z.1.toList ++ [.ref k0], z.2) Q) := t_cs (as := [.int i1, .int i2]) (r := [.ref k0]) k_217_308 (by decide) rfl rfl (Nat.le_of_ble_eq_true rfl) (Nat.le_of_ble_eq_true rfl)
theorem k_217_311 : lk 217 311 = some (.baload, 312, 0, 0, .null) := by decide +kernel
theorem x_217_311 : Tr sc d 217 (311, [l0, l1, l2, l3, l4, l5, l6, l7, l8, l9], [.int i1, .ref k0], h) Q = ((okp h k0 13 && inb i1 (LN k0)) = true ∧ Tr sc d 217 (312, [l0, l1, l2, l3, l4, l5, l6, l7, l8, l9], [.int (hI h k0 i1.toNatClampNeg)], h) Q) := t_gd k_217_311 rfl
theorem k_217_312 : lk 217 312 = some (.ifCond .ne 18, 315, 330, 0, .null) := by decide +kernel
theorem x_217_312 : Tr sc d 217 (312, [l0, l1, l2, l3, l4, l5, l6, l7, l8, l9], [.int i0], h) Q = if i0 = 0 then Tr sc d 217 (315, [l0, l1, l2, l3, l4, l5, l6, l7, l8, l9], [], h) Q else Tr sc d 217 (330, [l0, l1, l2, l3, l4, l5, l6, l7, l8, l9], [], h) Q := t_if k_217_312 rfl
theorem k_217_315 : lk 217 315 = some (.aload_n 0, 316, 0, 0, .null) := by decide +kernel
theorem x_217_315 : Tr sc d 217 (315, [some (.ref xk), l1, l2, l3, l4, l5, l6, l7, l8, l9], [], h) Q = Tr sc d 217 (316, [some (.ref xk), l1, l2, l3, l4, l5, l6, l7, l8, l9], [.ref xk], h) Q := t_aload_n k_217_315 rfl
theorem k_217_316 : lk 217 316 = some (.getfield 88, 319, 10, 46, .null) := by decide +kernel
theorem x_217_316 : Tr sc d 217 (316, [l0, l1, l2, l3, l4, l5, l6, l7, l8, l9], [.ref k0], h) Q = (okp h k0 10 = true ∧ ∃ q, hR h k0 46 = some q ∧ Tr sc d 217 (319, [l0, l1, l2, l3, l4, l5, l6, l7, l8, l9], [.ref q], h) Q) := t_getr k_217_316
theorem k_217_319 : lk 217 319 = some (.iload 8, 321, 8, 0, .null) := by decide +kernel
theorem x_217_319 : Tr sc d 217 (319, [l0, l1, l2, l3, l4, l5, l6, l7, some (.int x), l9], [.ref k0], h) Q = Tr sc d 217 (321, [l0, l1, l2, l3, l4, l5, l6, l7, some (.int x), l9], [.int x, .ref k0], h) Q := t_iload k_217_319 rfl
theorem k_217_321 : lk 217 321 = some (.iload 9, 323, 9, 0, .null) := by decide +kernel
theorem x_217_321 : Tr sc d 217 (321, [l0, l1, l2, l3, l4, l5, l6, l7, l8, some (.int x)], [.int i1, .ref k0], h) Q = Tr sc d 217 (323, [l0, l1, l2, l3, l4, l5, l6, l7, l8, some (.int x)], [.int x, .int i1, .ref k0], h) Q := t_iload k_217_321 rfl
theorem k_217_323 : lk 217 323 = some (.invokestatic 310, 326, 212, 2, .null) := by decide +kernel
theorem x_217_323 : Tr sc (d + 1) 217 (323, [l0, l1, l2, l3, l4, l5, l6, l7, l8, l9], [.int i2, .int i1, .ref k0], h) Q = Tr sc d 212 (ent0 212 [.int i1, .int i2] h) (fun z => Tr sc (d + 1) 217 (326, [l0, l1, l2, l3, l4, l5, l6, l7, l8, l9], z.1.toList ++ [.ref k0], z.2) Q) := t_cs (as := [.int i1, .int i2]) (r := [.ref k0]) k_217_323 (by decide) rfl rfl (Nat.le_of_ble_eq_true rfl) (Nat.le_of_ble_eq_true rfl)
theorem k_217_326 : lk 217 326 = some (.iconst 1, 327, 0, 0, .int 1) := by decide +kernel
theorem x_217_326 : Tr sc d 217 (326, [l0, l1, l2, l3, l4, l5, l6, l7, l8, l9], [.int i1, .ref k0], h) Q = Tr sc d 217 (327, [l0, l1, l2, l3, l4, l5, l6, l7, l8, l9], [.int 1, .int i1, .ref k0], h) Q := t_go k_217_326 rfl
theorem k_217_327 : lk 217 327 = some (.bastore, 328, 0, 0, .null) := by decide +kernel
theorem x_217_327 : Tr sc d 217 (327, [l0, l1, l2, l3, l4, l5, l6, l7, l8, l9], [.int i2, .int i1, .ref k0], h) Q = ((okp h k0 13 && inb i1 (LN k0)) = true ∧ Tr sc d 217 (328, [l0, l1, l2, l3, l4, l5, l6, l7, l8, l9], [], (sI h k0 i1.toNatClampNeg (vp_nar .boolean i2))) Q) := t_gd k_217_327 rfl
theorem k_217_328 : lk 217 328 = some (.iconst 1, 329, 0, 0, .int 1) := by decide +kernel
theorem x_217_328 : Tr sc d 217 (328, [l0, l1, l2, l3, l4, l5, l6, l7, l8, l9], [], h) Q = Tr sc d 217 (329, [l0, l1, l2, l3, l4, l5, l6, l7, l8, l9], [.int 1], h) Q := t_go k_217_328 rfl
theorem k_217_329 : lk 217 329 = some (.istore_n 3, 330, 3, 0, .null) := by decide +kernel
theorem x_217_329 : Tr sc d 217 (329, [l0, l1, l2, l3, l4, l5, l6, l7, l8, l9], [.int i0], h) Q = Tr sc d 217 (330, [l0, l1, cl2 l2, some (.int i0), l4, l5, l6, l7, l8, l9], [], h) Q := t_istore_n k_217_329 (Nat.le_of_ble_eq_true rfl)
theorem k_217_330 : lk 217 330 = some (.iinc 5 1, 333, 5, 0, .int 1) := by decide +kernel
theorem x_217_330 : Tr sc d 217 (330, [l0, l1, l2, l3, l4, some (.int x), l6, l7, l8, l9], [], h) Q = Tr sc d 217 (333, [l0, l1, l2, l3, cl2 l4, some (.int (x + 1)), l6, l7, l8, l9], [], h) Q := t_inc k_217_330 rfl (Nat.le_of_ble_eq_true rfl)
theorem k_217_333 : lk 217 333 = some (.goto (-170), 336, 163, 0, .null) := by decide +kernel
theorem x_217_333 : Tr sc d 217 (333, [l0, l1, l2, l3, l4, l5, l6, l7, l8, l9], [], h) Q = Tr sc d 217 (163, [l0, l1, l2, l3, l4, l5, l6, l7, l8, l9], [], h) Q := t_go k_217_333 rfl
theorem k_217_336 : lk 217 336 = some (.iinc 4 1, 339, 4, 0, .int 1) := by decide +kernel
theorem x_217_336 : Tr sc d 217 (336, [l0, l1, l2, l3, some (.int x), l5, l6, l7, l8, l9], [], h) Q = Tr sc d 217 (339, [l0, l1, l2, cl2 l3, some (.int (x + 1)), l5, l6, l7, l8, l9], [], h) Q := t_inc k_217_336 rfl (Nat.le_of_ble_eq_true rfl)
theorem k_217_339 : lk 217 339 = some (.goto (-187), 342, 152, 0, .null) := by decide +kernel
theorem x_217_339 : Tr sc d 217 (339, [l0, l1, l2, l3, l4, l5, l6, l7, l8, l9], [], h) Q = Tr sc d 217 (152, [l0, l1, l2, l3, l4, l5, l6, l7, l8, l9], [], h) Q := t_go k_217_339 rfl
theorem k_217_342 : lk 217 342 = some (.goto (-199), 345, 143, 0, .null) := by decide +kernel
theorem x_217_342 : Tr sc d 217 (342, [l0, l1, l2, l3, l4, l5, l6, l7, l8, l9], [], h) Q = Tr sc d 217 (143, [l0, l1, l2, l3, l4, l5, l6, l7, l8, l9], [], h) Q := t_go k_217_342 rfl
theorem k_217_345 : lk 217 345 = some (.aload_n 0, 346, 0, 0, .null) := by decide +kernel
theorem x_217_345 : Tr sc d 217 (345, [some (.ref xk), l1, l2, l3, l4, l5, l6, l7, l8, l9], [], h) Q = Tr sc d 217 (346, [some (.ref xk), l1, l2, l3, l4, l5, l6, l7, l8, l9], [.ref xk], h) Q := t_aload_n k_217_345 rfl
theorem k_217_346 : lk 217 346 = some (.getfield 88, 349, 10, 46, .null) := by decide +kernel
theorem x_217_346 : Tr sc d 217 (346, [l0, l1, l2, l3, l4, l5, l6, l7, l8, l9], [.ref k0], h) Q = (okp h k0 10 = true ∧ ∃ q, hR h k0 46 = some q ∧ Tr sc d 217 (349, [l0, l1, l2, l3, l4, l5, l6, l7, l8, l9], [.ref q], h) Q) := t_getr k_217_346
theorem k_217_349 : lk 217 349 = some (.iconst 0, 350, 0, 0, .int 0) := by decide +kernel
theorem x_217_349 : Tr sc d 217 (349, [l0, l1, l2, l3, l4, l5, l6, l7, l8, l9], [.ref k0], h) Q = Tr sc d 217 (350, [l0, l1, l2, l3, l4, l5, l6, l7, l8, l9], [.int 0, .ref k0], h) Q := t_go k_217_349 rfl
theorem k_217_350 : lk 217 350 = some (.iconst 0, 351, 0, 0, .int 0) := by decide +kernel
theorem x_217_350 : Tr sc d 217 (350, [l0, l1, l2, l3, l4, l5, l6, l7, l8, l9], [.int i1, .ref k0], h) Q = Tr sc d 217 (351, [l0, l1, l2, l3, l4, l5, l6, l7, l8, l9], [.int 0, .int i1, .ref k0], h) Q := t_go k_217_350 rfl
theorem k_217_351 : lk 217 351 = some (.invokestatic 310, 354, 212, 2, .null) := by decide +kernel
theorem x_217_351 : Tr sc (d + 1) 217 (351, [l0, l1, l2, l3, l4, l5, l6, l7, l8, l9], [.int i2, .int i1, .ref k0], h) Q = Tr sc d 212 (ent0 212 [.int i1, .int i2] h) (fun z => Tr sc (d + 1) 217 (354, [l0, l1, l2, l3, l4, l5, l6, l7, l8, l9], z.1.toList ++ [.ref k0], z.2) Q) := t_cs (as := [.int i1, .int i2]) (r := [.ref k0]) k_217_351 (by decide) rfl rfl (Nat.le_of_ble_eq_true rfl) (Nat.le_of_ble_eq_true rfl)
theorem k_217_354 : lk 217 354 = some (.baload, 355, 0, 0, .null) := by decide +kernel
theorem x_217_354 : Tr sc d 217 (354, [l0, l1, l2, l3, l4, l5, l6, l7, l8, l9], [.int i1, .ref k0], h) Q = ((okp h k0 13 && inb i1 (LN k0)) = true ∧ Tr sc d 217 (355, [l0, l1, l2, l3, l4, l5, l6, l7, l8, l9], [.int (hI h k0 i1.toNatClampNeg)], h) Q) := t_gd k_217_354 rfl
theorem k_217_355 : lk 217 355 = some (.ifCond .ne 7, 358, 362, 0, .null) := by decide +kernel
theorem x_217_355 : Tr sc d 217 (355, [l0, l1, l2, l3, l4, l5, l6, l7, l8, l9], [.int i0], h) Q = if i0 = 0 then Tr sc d 217 (358, [l0, l1, l2, l3, l4, l5, l6, l7, l8, l9], [], h) Q else Tr sc d 217 (362, [l0, l1, l2, l3, l4, l5, l6, l7, l8, l9], [], h) Q := t_if k_217_355 rfl
theorem k_217_358 : lk 217 358 = some (.iconst 1, 359, 0, 0, .int 1) := by decide +kernel
theorem x_217_358 : Tr sc d 217 (358, [l0, l1, l2, l3, l4, l5, l6, l7, l8, l9], [], h) Q = Tr sc d 217 (359, [l0, l1, l2, l3, l4, l5, l6, l7, l8, l9], [.int 1], h) Q := t_go k_217_358 rfl
theorem k_217_359 : lk 217 359 = some (.goto 4, 362, 363, 0, .null) := by decide +kernel
theorem x_217_359 : Tr sc d 217 (359, [l0, l1, l2, l3, l4, l5, l6, l7, l8, l9], [.int i0], h) Q = Tr sc d 217 (363, [l0, l1, l2, l3, l4, l5, l6, l7, l8, l9], [.int i0], h) Q := t_go k_217_359 rfl
theorem k_217_362 : lk 217 362 = some (.iconst 0, 363, 0, 0, .int 0) := by decide +kernel
theorem x_217_362 : Tr sc d 217 (362, [l0, l1, l2, l3, l4, l5, l6, l7, l8, l9], [], h) Q = Tr sc d 217 (363, [l0, l1, l2, l3, l4, l5, l6, l7, l8, l9], [.int 0], h) Q := t_go k_217_362 rfl
theorem k_217_363 : lk 217 363 = some (.ireturn, 364, 0, 0, .null) := by decide +kernel
theorem x_217_363 : Tr sc d 217 (363, [l0, l1, l2, l3, l4, l5, l6, l7, l8, l9], [.int i0], h) Q = (vp_nar .boolean i0 = i0 ∧ Q (some (.int i0), h)) := t_zret k_217_363 r_217
theorem e_217 : Tr sc d 217 (ent0 217 [.ref k0, .int i1] h) Q = Tr sc d 217 (0, [some (.ref k0), some (.int i1), none, none, none, none, none, none, none, none], [], h) Q := by
  have e : mL 217 = 10 := by decide +kernel
  unfold ent0
  rw [e]
  rfl
theorem r_218 : mR 218 = some .int := by decide +kernel
theorem k_218_0 : lk 218 0 = some (.aload_n 0, 1, 0, 0, .null) := by decide +kernel
theorem x_218_0 : Tr sc d 218 (0, [some (.ref xk), l1, l2], [], h) Q = Tr sc d 218 (1, [some (.ref xk), l1, l2], [.ref xk], h) Q := t_aload_n k_218_0 rfl
theorem k_218_1 : lk 218 1 = some (.iload_n 1, 2, 1, 0, .null) := by decide +kernel
theorem x_218_1 : Tr sc d 218 (1, [l0, some (.int x), l2], [.ref k0], h) Q = Tr sc d 218 (2, [l0, some (.int x), l2], [.int x, .ref k0], h) Q := t_iload_n k_218_1 rfl
theorem k_218_2 : lk 218 2 = some (.invokevirtual 220, 5, 177, 1, .null) := by decide +kernel
theorem x_218_2 : Tr sc (d + 1) 218 (2, [l0, l1, l2], [.int i1, .ref k0], h) Q = (okp h k0 10 = true ∧ Tr sc d 177 (ent0 177 [.ref k0, .int i1] h) (fun z => Tr sc (d + 1) 218 (5, [l0, l1, l2], z.1.toList ++ [], z.2) Q)) := t_cv (as := [.int i1]) (r := []) k_218_2 rfl rfl (Nat.le_of_ble_eq_true rfl) (Nat.le_of_ble_eq_true rfl) (Nat.le_of_ble_eq_true rfl)
theorem k_218_5 : lk 218 5 = some (.istore_n 2, 6, 2, 0, .null) := by decide +kernel
theorem x_218_5 : Tr sc d 218 (5, [l0, l1, l2], [.int i0], h) Q = Tr sc d 218 (6, [l0, cl2 l1, some (.int i0)], [], h) Q := t_istore_n k_218_5 (Nat.le_of_ble_eq_true rfl)
theorem k_218_6 : lk 218 6 = some (.iload_n 2, 7, 2, 0, .null) := by decide +kernel
theorem x_218_6 : Tr sc d 218 (6, [l0, l1, some (.int x)], [], h) Q = Tr sc d 218 (7, [l0, l1, some (.int x)], [.int x], h) Q := t_iload_n k_218_6 rfl
theorem k_218_7 : lk 218 7 = some (.ifCond .ge 5, 10, 12, 0, .null) := by decide +kernel
theorem x_218_7 : Tr sc d 218 (7, [l0, l1, l2], [.int i0], h) Q = if 0 ≤ i0 then Tr sc d 218 (12, [l0, l1, l2], [], h) Q else Tr sc d 218 (10, [l0, l1, l2], [], h) Q := t_if k_218_7 rfl
theorem k_218_10 : lk 218 10 = some (.iload_n 2, 11, 2, 0, .null) := by decide +kernel
theorem x_218_10 : Tr sc d 218 (10, [l0, l1, some (.int x)], [], h) Q = Tr sc d 218 (11, [l0, l1, some (.int x)], [.int x], h) Q := t_iload_n k_218_10 rfl
theorem k_218_11 : lk 218 11 = some (.ireturn, 12, 0, 0, .null) := by decide +kernel
theorem x_218_11 : Tr sc d 218 (11, [l0, l1, l2], [.int i0], h) Q = Q (some (.int i0), h) := t_ret k_218_11 (by rw [r_218]; rfl)
theorem k_218_12 : lk 218 12 = some (.aload_n 0, 13, 0, 0, .null) := by decide +kernel
theorem x_218_12 : Tr sc d 218 (12, [some (.ref xk), l1, l2], [], h) Q = Tr sc d 218 (13, [some (.ref xk), l1, l2], [.ref xk], h) Q := t_aload_n k_218_12 rfl
theorem k_218_13 : lk 218 13 = some (.iload_n 1, 14, 1, 0, .null) := by decide +kernel
theorem x_218_13 : Tr sc d 218 (13, [l0, some (.int x), l2], [.ref k0], h) Q = Tr sc d 218 (14, [l0, some (.int x), l2], [.int x, .ref k0], h) Q := t_iload_n k_218_13 rfl
theorem k_218_14 : lk 218 14 = some (.invokevirtual 223, 17, 194, 1, .null) := by decide +kernel
theorem x_218_14 : Tr sc (d + 1) 218 (14, [l0, l1, l2], [.int i1, .ref k0], h) Q = (okp h k0 10 = true ∧ Tr sc d 194 (ent0 194 [.ref k0, .int i1] h) (fun z => Tr sc (d + 1) 218 (17, [l0, l1, l2], z.1.toList ++ [], z.2) Q)) := t_cv (as := [.int i1]) (r := []) k_218_14 rfl rfl (Nat.le_of_ble_eq_true rfl) (Nat.le_of_ble_eq_true rfl) (Nat.le_of_ble_eq_true rfl)
theorem k_218_17 : lk 218 17 = some (.ifCond .ne 9, 20, 26, 0, .null) := by decide +kernel
theorem x_218_17 : Tr sc d 218 (17, [l0, l1, l2], [.int i0], h) Q = if i0 = 0 then Tr sc d 218 (20, [l0, l1, l2], [], h) Q else Tr sc d 218 (26, [l0, l1, l2], [], h) Q := t_if k_218_17 rfl
theorem k_218_20 : lk 218 20 = some (.aload_n 0, 21, 0, 0, .null) := by decide +kernel
theorem x_218_20 : Tr sc d 218 (20, [some (.ref xk), l1, l2], [], h) Q = Tr sc d 218 (21, [some (.ref xk), l1, l2], [.ref xk], h) Q := t_aload_n k_218_20 rfl
theorem k_218_21 : lk 218 21 = some (.iconst 3, 22, 0, 0, .int 3) := by decide +kernel
theorem x_218_21 : Tr sc d 218 (21, [l0, l1, l2], [.ref k0], h) Q = Tr sc d 218 (22, [l0, l1, l2], [.int 3, .ref k0], h) Q := t_go k_218_21 rfl
theorem k_218_22 : lk 218 22 = some (.invokevirtual 152, 25, 158, 1, .null) := by decide +kernel
theorem x_218_22 : Tr sc (d + 1) 218 (22, [l0, l1, l2], [.int i1, .ref k0], h) Q = (okp h k0 10 = true ∧ Tr sc d 158 (ent0 158 [.ref k0, .int i1] h) (fun z => Tr sc (d + 1) 218 (25, [l0, l1, l2], z.1.toList ++ [], z.2) Q)) := t_cv (as := [.int i1]) (r := []) k_218_22 rfl rfl (Nat.le_of_ble_eq_true rfl) (Nat.le_of_ble_eq_true rfl) (Nat.le_of_ble_eq_true rfl)
theorem k_218_25 : lk 218 25 = some (.ireturn, 26, 0, 0, .null) := by decide +kernel
theorem x_218_25 : Tr sc d 218 (25, [l0, l1, l2], [.int i0], h) Q = Q (some (.int i0), h) := t_ret k_218_25 (by rw [r_218]; rfl)
theorem k_218_26 : lk 218 26 = some (.aload_n 0, 27, 0, 0, .null) := by decide +kernel
theorem x_218_26 : Tr sc d 218 (26, [some (.ref xk), l1, l2], [], h) Q = Tr sc d 218 (27, [some (.ref xk), l1, l2], [.ref xk], h) Q := t_aload_n k_218_26 rfl
theorem k_218_27 : lk 218 27 = some (.iload_n 1, 28, 1, 0, .null) := by decide +kernel
theorem x_218_27 : Tr sc d 218 (27, [l0, some (.int x), l2], [.ref k0], h) Q = Tr sc d 218 (28, [l0, some (.int x), l2], [.int x, .ref k0], h) Q := t_iload_n k_218_27 rfl
theorem k_218_28 : lk 218 28 = some (.invokevirtual 320, 31, 215, 1, .null) := by decide +kernel
theorem x_218_28 : Tr sc (d + 1) 218 (28, [l0, l1, l2], [.int i1, .ref k0], h) Q = (okp h k0 10 = true ∧ Tr sc d 215 (ent0 215 [.ref k0, .int i1] h) (fun z => Tr sc (d + 1) 218 (31, [l0, l1, l2], z.1.toList ++ [], z.2) Q)) := t_cv (as := [.int i1]) (r := []) k_218_28 rfl rfl (Nat.le_of_ble_eq_true rfl) (Nat.le_of_ble_eq_true rfl) (Nat.le_of_ble_eq_true rfl)
theorem k_218_31 : lk 218 31 = some (.iconst 0, 32, 0, 0, .int 0) := by decide +kernel
theorem x_218_31 : Tr sc d 218 (31, [l0, l1, l2], [], h) Q = Tr sc d 218 (32, [l0, l1, l2], [.int 0], h) Q := t_go k_218_31 rfl
theorem k_218_32 : lk 218 32 = some (.ireturn, 33, 0, 0, .null) := by decide +kernel
theorem x_218_32 : Tr sc d 218 (32, [l0, l1, l2], [.int i0], h) Q = Q (some (.int i0), h) := t_ret k_218_32 (by rw [r_218]; rfl)
theorem e_218 : Tr sc d 218 (ent0 218 [.ref k0, .int i1] h) Q = Tr sc d 218 (0, [some (.ref k0), some (.int i1), none], [], h) Q := by
  have e : mL 218 = 3 := by decide +kernel
  unfold ent0
  rw [e]
  rfl
theorem r_219 : mR 219 = some .int := by decide +kernel
theorem k_219_0 : lk 219 0 = some (.aload_n 0, 1, 0, 0, .null) := by decide +kernel
theorem x_219_0 : Tr sc d 219 (0, [some (.ref xk), l1, l2, l3, l4], [], h) Q = Tr sc d 219 (1, [some (.ref xk), l1, l2, l3, l4], [.ref xk], h) Q := t_aload_n k_219_0 rfl
theorem k_219_1 : lk 219 1 = some (.iload_n 1, 2, 1, 0, .null) := by decide +kernel
theorem x_219_1 : Tr sc d 219 (1, [l0, some (.int x), l2, l3, l4], [.ref k0], h) Q = Tr sc d 219 (2, [l0, some (.int x), l2, l3, l4], [.int x, .ref k0], h) Q := t_iload_n k_219_1 rfl
theorem k_219_2 : lk 219 2 = some (.invokevirtual 327, 5, 218, 1, .null) := by decide +kernel
theorem x_219_2 : Tr sc (d + 1) 219 (2, [l0, l1, l2, l3, l4], [.int i1, .ref k0], h) Q = (okp h k0 10 = true ∧ Tr sc d 218 (ent0 218 [.ref k0, .int i1] h) (fun z => Tr sc (d + 1) 219 (5, [l0, l1, l2, l3, l4], z.1.toList ++ [], z.2) Q)) := t_cv (as := [.int i1]) (r := []) k_219_2 rfl rfl (Nat.le_of_ble_eq_true rfl) (Nat.le_of_ble_eq_true rfl) (Nat.le_of_ble_eq_true rfl)
theorem k_219_5 : lk 219 5 = some (.istore_n 2, 6, 2, 0, .null) := by decide +kernel
theorem x_219_5 : Tr sc d 219 (5, [l0, l1, l2, l3, l4], [.int i0], h) Q = Tr sc d 219 (6, [l0, cl2 l1, some (.int i0), l3, l4], [], h) Q := t_istore_n k_219_5 (Nat.le_of_ble_eq_true rfl)
theorem k_219_6 : lk 219 6 = some (.iload_n 2, 7, 2, 0, .null) := by decide +kernel
theorem x_219_6 : Tr sc d 219 (6, [l0, l1, some (.int x), l3, l4], [], h) Q = Tr sc d 219 (7, [l0, l1, some (.int x), l3, l4], [.int x], h) Q := t_iload_n k_219_6 rfl
theorem k_219_7 : lk 219 7 = some (.ifCond .ge 5, 10, 12, 0, .null) := by decide +kernel
theorem x_219_7 : Tr sc d 219 (7, [l0, l1, l2, l3, l4], [.int i0], h) Q = if 0 ≤ i0 then Tr sc d 219 (12, [l0, l1, l2, l3, l4], [], h) Q else Tr sc d 219 (10, [l0, l1, l2, l3, l4], [], h) Q := t_if k_219_7 rfl
theorem k_219_10 : lk 219 10 = some (.iload_n 2, 11, 2, 0, .null) := by decide +kernel
theorem x_219_10 : Tr sc d 219 (10, [l0, l1, some (.int x), l3, l4], [], h) Q = Tr sc d 219 (11, [l0, l1, some (.int x), l3, l4], [.int x], h) Q := t_iload_n k_219_10 rfl
theorem k_219_11 : lk 219 11 = some (.ireturn, 12, 0, 0, .null) := by decide +kernel
theorem x_219_11 : Tr sc d 219 (11, [l0, l1, l2, l3, l4], [.int i0], h) Q = Q (some (.int i0), h) := t_ret k_219_11 (by rw [r_219]; rfl)
theorem k_219_12 : lk 219 12 = some (.iconst 0, 13, 0, 0, .int 0) := by decide +kernel
theorem x_219_12 : Tr sc d 219 (12, [l0, l1, l2, l3, l4], [], h) Q = Tr sc d 219 (13, [l0, l1, l2, l3, l4], [.int 0], h) Q := t_go k_219_12 rfl
theorem k_219_13 : lk 219 13 = some (.istore_n 3, 14, 3, 0, .null) := by decide +kernel
theorem x_219_13 : Tr sc d 219 (13, [l0, l1, l2, l3, l4], [.int i0], h) Q = Tr sc d 219 (14, [l0, l1, cl2 l2, some (.int i0), l4], [], h) Q := t_istore_n k_219_13 (Nat.le_of_ble_eq_true rfl)
theorem k_219_14 : lk 219 14 = some (.iconst 0, 15, 0, 0, .int 0) := by decide +kernel
theorem x_219_14 : Tr sc d 219 (14, [l0, l1, l2, l3, l4], [], h) Q = Tr sc d 219 (15, [l0, l1, l2, l3, l4], [.int 0], h) Q := t_go k_219_14 rfl
theorem k_219_15 : lk 219 15 = some (.istore 4, 17, 4, 0, .null) := by decide +kernel
theorem x_219_15 : Tr sc d 219 (15, [l0, l1, l2, l3, l4], [.int i0], h) Q = Tr sc d 219 (17, [l0, l1, l2, cl2 l3, some (.int i0)], [], h) Q := t_istore k_219_15 (Nat.le_of_ble_eq_true rfl)
theorem k_219_17 : lk 219 17 = some (.iload 4, 19, 4, 0, .null) := by decide +kernel
theorem x_219_17 : Tr sc d 219 (17, [l0, l1, l2, l3, some (.int x)], [], h) Q = Tr sc d 219 (19, [l0, l1, l2, l3, some (.int x)], [.int x], h) Q := t_iload k_219_17 rfl
theorem k_219_19 : lk 219 19 = some (.sipush 1369, 22, 0, 0, .int 1369) := by decide +kernel
theorem x_219_19 : Tr sc d 219 (19, [l0, l1, l2, l3, l4], [.int i0], h) Q = Tr sc d 219 (22, [l0, l1, l2, l3, l4], [.int 1369, .int i0], h) Q := t_go k_219_19 rfl
theorem k_219_22 : lk 219 22 = some (.if_icmp .ge 27, 25, 49, 0, .null) := by decide +kernel
theorem x_219_22 : Tr sc d 219 (22, [l0, l1, l2, l3, l4], [.int i1, .int i0], h) Q = if i1 ≤ i0 then Tr sc d 219 (49, [l0, l1, l2, l3, l4], [], h) Q else Tr sc d 219 (25, [l0, l1, l2, l3, l4], [], h) Q := t_if k_219_22 rfl
theorem k_219_25 : lk 219 25 = some (.iload_n 3, 26, 3, 0, .null) := by decide +kernel
theorem x_219_25 : Tr sc d 219 (25, [l0, l1, l2, some (.int x), l4], [], h) Q = Tr sc d 219 (26, [l0, l1, l2, some (.int x), l4], [.int x], h) Q := t_iload_n k_219_25 rfl
theorem k_219_26 : lk 219 26 = some (.aload_n 0, 27, 0, 0, .null) := by decide +kernel
theorem x_219_26 : Tr sc d 219 (26, [some (.ref xk), l1, l2, l3, l4], [.int i0], h) Q = Tr sc d 219 (27, [some (.ref xk), l1, l2, l3, l4], [.ref xk, .int i0], h) Q := t_aload_n k_219_26 rfl
theorem k_219_27 : lk 219 27 = some (.getfield 84, 30, 10, 45, .null) := by decide +kernel
theorem x_219_27 : Tr sc d 219 (27, [l0, l1, l2, l3, l4], [.ref k1, .int i0], h) Q = (okp h k1 10 = true ∧ ∃ q, hR h k1 45 = some q ∧ Tr sc d 219 (30, [l0, l1, l2, l3, l4], [.ref q, .int i0], h) Q) := t_getr k_219_27
theorem k_219_30 : lk 219 30 = some (.iload 4, 32, 4, 0, .null) := by decide +kernel
theorem x_219_30 : Tr sc d 219 (30, [l0, l1, l2, l3, some (.int x)], [.ref k1, .int i0], h) Q = Tr sc d 219 (32, [l0, l1, l2, l3, some (.int x)], [.int x, .ref k1, .int i0], h) Q := t_iload k_219_30 rfl
theorem k_219_32 : lk 219 32 = some (.baload, 33, 0, 0, .null) := by decide +kernel
theorem x_219_32 : Tr sc d 219 (32, [l0, l1, l2, l3, l4], [.int i2, .ref k1, .int i0], h) Q = ((okp h k1 13 && inb i2 (LN k1)) = true ∧ Tr sc d 219 (33, [l0, l1, l2, l3, l4], [.int (hI h k1 i2.toNatClampNeg), .int i0], h) Q) := t_gd k_219_32 rfl
theorem k_219_33 : lk 219 33 = some (.ifCond .eq 7, 36, 40, 0, .null) := by decide +kernel
theorem x_219_33 : Tr sc d 219 (33, [l0, l1, l2, l3, l4], [.int i1, .int i0], h) Q = if i1 = 0 then Tr sc d 219 (40, [l0, l1, l2, l3, l4], [.int i0], h) Q else Tr sc d 219 (36, [l0, l1, l2, l3, l4], [.int i0], h) Q := t_if k_219_33 rfl
theorem k_219_36 : lk 219 36 = some (.iconst 1, 37, 0, 0, .int 1) := by decide +kernel
theorem x_219_36 : Tr sc d 219 (36, [l0, l1, l2, l3, l4], [.int i0], h) Q = Tr sc d 219 (37, [l0, l1, l2, l3, l4], [.int 1, .int i0], h) Q := t_go k_219_36 rfl
theorem k_219_37 : lk 219 37 = some (.goto 4, 40, 41, 0, .null) := by decide +kernel
theorem x_219_37 : Tr sc d 219 (37, [l0, l1, l2, l3, l4], [.int i1, .int i0], h) Q = Tr sc d 219 (41, [l0, l1, l2, l3, l4], [.int i1, .int i0], h) Q := t_go k_219_37 rfl
theorem k_219_40 : lk 219 40 = some (.iconst 0, 41, 0, 0, .int 0) := by decide +kernel
theorem x_219_40 : Tr sc d 219 (40, [l0, l1, l2, l3, l4], [.int i0], h) Q = Tr sc d 219 (41, [l0, l1, l2, l3, l4], [.int 0, .int i0], h) Q := t_go k_219_40 rfl
theorem k_219_41 : lk 219 41 = some (.iadd, 42, 0, 0, .null) := by decide +kernel
theorem x_219_41 : Tr sc d 219 (41, [l0, l1, l2, l3, l4], [.int i1, .int i0], h) Q = Tr sc d 219 (42, [l0, l1, l2, l3, l4], [.int (i0 + i1)], h) Q := t_go k_219_41 rfl
theorem k_219_42 : lk 219 42 = some (.istore_n 3, 43, 3, 0, .null) := by decide +kernel
theorem x_219_42 : Tr sc d 219 (42, [l0, l1, l2, l3, l4], [.int i0], h) Q = Tr sc d 219 (43, [l0, l1, cl2 l2, some (.int i0), l4], [], h) Q := t_istore_n k_219_42 (Nat.le_of_ble_eq_true rfl)
theorem k_219_43 : lk 219 43 = some (.iinc 4 1, 46, 4, 0, .int 1) := by decide +kernel
theorem x_219_43 : Tr sc d 219 (43, [l0, l1, l2, l3, some (.int x)], [], h) Q = Tr sc d 219 (46, [l0, l1, l2, cl2 l3, some (.int (x + 1))], [], h) Q := t_inc k_219_43 rfl (Nat.le_of_ble_eq_true rfl)
theorem k_219_46 : lk 219 46 = some (.goto (-29), 49, 17, 0, .null) := by decide +kernel
theorem x_219_46 : Tr sc d 219 (46, [l0, l1, l2, l3, l4], [], h) Q = Tr sc d 219 (17, [l0, l1, l2, l3, l4], [], h) Q := t_go k_219_46 rfl
theorem k_219_49 : lk 219 49 = some (.iload_n 3, 50, 3, 0, .null) := by decide +kernel
theorem x_219_49 : Tr sc d 219 (49, [l0, l1, l2, some (.int x), l4], [], h) Q = Tr sc d 219 (50, [l0, l1, l2, some (.int x), l4], [.int x], h) Q := t_iload_n k_219_49 rfl
theorem k_219_50 : lk 219 50 = some (.ireturn, 51, 0, 0, .null) := by decide +kernel
theorem x_219_50 : Tr sc d 219 (50, [l0, l1, l2, l3, l4], [.int i0], h) Q = Q (some (.int i0), h) := t_ret k_219_50 (by rw [r_219]; rfl)
theorem e_219 : Tr sc d 219 (ent0 219 [.ref k0, .int i1] h) Q = Tr sc d 219 (0, [some (.ref k0), some (.int i1), none, none, none], [], h) Q := by
  have e : mL 219 = 5 := by decide +kernel
  unfold ent0
  rw [e]
  rfl
theorem r_220 : mR 220 = some .int := by decide +kernel
theorem k_220_0 : lk 220 0 = some (.aload_n 0, 1, 0, 0, .null) := by decide +kernel
theorem x_220_0 : Tr sc d 220 (0, [some (.ref xk), l1, l2, l3, l4], [], h) Q = Tr sc d 220 (1, [some (.ref xk), l1, l2, l3, l4], [.ref xk], h) Q := t_aload_n k_220_0 rfl
theorem k_220_1 : lk 220 1 = some (.iload_n 1, 2, 1, 0, .null) := by decide +kernel
theorem x_220_1 : Tr sc d 220 (1, [l0, some (.int x), l2, l3, l4], [.ref k0], h) Q = Tr sc d 220 (2, [l0, some (.int x), l2, l3, l4], [.int x, .ref k0], h) Q := t_iload_n k_220_1 rfl
theorem k_220_2 : lk 220 2 = some (.invokevirtual 327, 5, 218, 1, .null) := by decide +kernel
theorem x_220_2 : Tr sc (d + 1) 220 (2, [l0, l1, l2, l3, l4], [.int i1, .ref k0], h) Q = (okp h k0 10 = true ∧ Tr sc d 218 (ent0 218 [.ref k0, .int i1] h) (fun z => Tr sc (d + 1) 220 (5, [l0, l1, l2, l3, l4], z.1.toList ++ [], z.2) Q)) := t_cv (as := [.int i1]) (r := []) k_220_2 rfl rfl (Nat.le_of_ble_eq_true rfl) (Nat.le_of_ble_eq_true rfl) (Nat.le_of_ble_eq_true rfl)
theorem k_220_5 : lk 220 5 = some (.istore 4, 7, 4, 0, .null) := by decide +kernel
theorem x_220_5 : Tr sc d 220 (5, [l0, l1, l2, l3, l4], [.int i0], h) Q = Tr sc d 220 (7, [l0, l1, l2, cl2 l3, some (.int i0)], [], h) Q := t_istore k_220_5 (Nat.le_of_ble_eq_true rfl)
theorem k_220_7 : lk 220 7 = some (.iload 4, 9, 4, 0, .null) := by decide +kernel
theorem x_220_7 : Tr sc d 220 (7, [l0, l1, l2, l3, some (.int x)], [], h) Q = Tr sc d 220 (9, [l0, l1, l2, l3, some (.int x)], [.int x], h) Q := t_iload k_220_7 rfl
theorem k_220_9 : lk 220 9 = some (.ifCond .ge 8, 12, 17, 0, .null) := by decide +kernel
theorem x_220_9 : Tr sc d 220 (9, [l0, l1, l2, l3, l4], [.int i0], h) Q = if 0 ≤ i0 then Tr sc d 220 (17, [l0, l1, l2, l3, l4], [], h) Q else Tr sc d 220 (12, [l0, l1, l2, l3, l4], [], h) Q := t_if k_220_9 rfl
theorem k_220_12 : lk 220 12 = some (.iload 4, 14, 4, 0, .null) := by decide +kernel
theorem x_220_12 : Tr sc d 220 (12, [l0, l1, l2, l3, some (.int x)], [], h) Q = Tr sc d 220 (14, [l0, l1, l2, l3, some (.int x)], [.int x], h) Q := t_iload k_220_12 rfl
theorem k_220_14 : lk 220 14 = some (.goto 17, 17, 31, 0, .null) := by decide +kernel
theorem x_220_14 : Tr sc d 220 (14, [l0, l1, l2, l3, l4], [.int i0], h) Q = Tr sc d 220 (31, [l0, l1, l2, l3, l4], [.int i0], h) Q := t_go k_220_14 rfl
theorem k_220_17 : lk 220 17 = some (.aload_n 0, 18, 0, 0, .null) := by decide +kernel
theorem x_220_17 : Tr sc d 220 (17, [some (.ref xk), l1, l2, l3, l4], [], h) Q = Tr sc d 220 (18, [some (.ref xk), l1, l2, l3, l4], [.ref xk], h) Q := t_aload_n k_220_17 rfl
theorem k_220_18 : lk 220 18 = some (.iload_n 2, 19, 2, 0, .null) := by decide +kernel
theorem x_220_18 : Tr sc d 220 (18, [l0, l1, some (.int x), l3, l4], [.ref k0], h) Q = Tr sc d 220 (19, [l0, l1, some (.int x), l3, l4], [.int x, .ref k0], h) Q := t_iload_n k_220_18 rfl
theorem k_220_19 : lk 220 19 = some (.iload_n 3, 20, 3, 0, .null) := by decide +kernel
theorem x_220_19 : Tr sc d 220 (19, [l0, l1, l2, some (.int x), l4], [.int i1, .ref k0], h) Q = Tr sc d 220 (20, [l0, l1, l2, some (.int x), l4], [.int x, .int i1, .ref k0], h) Q := t_iload_n k_220_19 rfl
theorem k_220_20 : lk 220 20 = some (.invokevirtual 313, 23, 213, 2, .null) := by decide +kernel
theorem x_220_20 : Tr sc (d + 1) 220 (20, [l0, l1, l2, l3, l4], [.int i2, .int i1, .ref k0], h) Q = (okp h k0 10 = true ∧ Tr sc d 213 (ent0 213 [.ref k0, .int i1, .int i2] h) (fun z => Tr sc (d + 1) 220 (23, [l0, l1, l2, l3, l4], z.1.toList ++ [], z.2) Q)) := t_cv (as := [.int i1, .int i2]) (r := []) k_220_20 rfl rfl (Nat.le_of_ble_eq_true rfl) (Nat.le_of_ble_eq_true rfl) (Nat.le_of_ble_eq_true rfl)
theorem k_220_23 : lk 220 23 = some (.ifCond .eq 7, 26, 30, 0, .null) := by decide +kernel
theorem x_220_23 : Tr sc d 220 (23, [l0, l1, l2, l3, l4], [.int i0], h) Q = if i0 = 0 then Tr sc d 220 (30, [l0, l1, l2, l3, l4], [], h) Q else Tr sc d 220 (26, [l0, l1, l2, l3, l4], [], h) Q := t_if k_220_23 rfl
theorem k_220_26 : lk 220 26 = some (.iconst 1, 27, 0, 0, .int 1) := by decide +kernel
theorem x_220_26 : Tr sc d 220 (26, [l0, l1, l2, l3, l4], [], h) Q = Tr sc d 220 (27, [l0, l1, l2, l3, l4], [.int 1], h) Q := t_go k_220_26 rfl
theorem k_220_27 : lk 220 27 = some (.goto 4, 30, 31, 0, .null) := by decide +kernel
theorem x_220_27 : Tr sc d 220 (27, [l0, l1, l2, l3, l4], [.int i0], h) Q = Tr sc d 220 (31, [l0, l1, l2, l3, l4], [.int i0], h) Q := t_go k_220_27 rfl
theorem k_220_30 : lk 220 30 = some (.iconst 0, 31, 0, 0, .int 0) := by decide +kernel
theorem x_220_30 : Tr sc d 220 (30, [l0, l1, l2, l3, l4], [], h) Q = Tr sc d 220 (31, [l0, l1, l2, l3, l4], [.int 0], h) Q := t_go k_220_30 rfl
theorem k_220_31 : lk 220 31 = some (.ireturn, 32, 0, 0, .null) := by decide +kernel
theorem x_220_31 : Tr sc d 220 (31, [l0, l1, l2, l3, l4], [.int i0], h) Q = Q (some (.int i0), h) := t_ret k_220_31 (by rw [r_220]; rfl)
theorem e_220 : Tr sc d 220 (ent0 220 [.ref k0, .int i1, .int i2, .int i3] h) Q = Tr sc d 220 (0, [some (.ref k0), some (.int i1), some (.int i2), some (.int i3), none], [], h) Q := by
  have e : mL 220 = 5 := by decide +kernel
  unfold ent0
  rw [e]
  rfl
theorem r_221 : mR 221 = some .int := by decide +kernel
theorem k_221_0 : lk 221 0 = some (.iconst 0, 1, 0, 0, .int 0) := by decide +kernel
theorem x_221_0 : Tr sc d 221 (0, [l0, l1, l2, l3, l4], [], h) Q = Tr sc d 221 (1, [l0, l1, l2, l3, l4], [.int 0], h) Q := t_go k_221_0 rfl
theorem k_221_1 : lk 221 1 = some (.istore_n 3, 2, 3, 0, .null) := by decide +kernel
theorem x_221_1 : Tr sc d 221 (1, [l0, l1, l2, l3, l4], [.int i0], h) Q = Tr sc d 221 (2, [l0, l1, cl2 l2, some (.int i0), l4], [], h) Q := t_istore_n k_221_1 (Nat.le_of_ble_eq_true rfl)
theorem k_221_2 : lk 221 2 = some (.iconst 0, 3, 0, 0, .int 0) := by decide +kernel
theorem x_221_2 : Tr sc d 221 (2, [l0, l1, l2, l3, l4], [], h) Q = Tr sc d 221 (3, [l0, l1, l2, l3, l4], [.int 0], h) Q := t_go k_221_2 rfl
theorem k_221_3 : lk 221 3 = some (.istore 4, 5, 4, 0, .null) := by decide +kernel
theorem x_221_3 : Tr sc d 221 (3, [l0, l1, l2, l3, l4], [.int i0], h) Q = Tr sc d 221 (5, [l0, l1, l2, cl2 l3, some (.int i0)], [], h) Q := t_istore k_221_3 (Nat.le_of_ble_eq_true rfl)
theorem k_221_5 : lk 221 5 = some (.iload 4, 7, 4, 0, .null) := by decide +kernel
theorem x_221_5 : Tr sc d 221 (5, [l0, l1, l2, l3, some (.int x)], [], h) Q = Tr sc d 221 (7, [l0, l1, l2, l3, some (.int x)], [.int x], h) Q := t_iload k_221_5 rfl
theorem k_221_7 : lk 221 7 = some (.aload_n 0, 8, 0, 0, .null) := by decide +kernel
theorem x_221_7 : Tr sc d 221 (7, [some (.ref xk), l1, l2, l3, l4], [.int i0], h) Q = Tr sc d 221 (8, [some (.ref xk), l1, l2, l3, l4], [.ref xk, .int i0], h) Q := t_aload_n k_221_7 rfl
theorem k_221_8 : lk 221 8 = some (.getfield 41, 11, 10, 18, .null) := by decide +kernel
theorem x_221_8 : Tr sc d 221 (8, [l0, l1, l2, l3, l4], [.ref k1, .int i0], h) Q = (okp h k1 10 = true ∧ ∃ q, hR h k1 18 = some q ∧ Tr sc d 221 (11, [l0, l1, l2, l3, l4], [.ref q, .int i0], h) Q) := t_getr k_221_8
theorem k_221_11 : lk 221 11 = some (.iload_n 1, 12, 1, 0, .null) := by decide +kernel
theorem x_221_11 : Tr sc d 221 (11, [l0, some (.int x), l2, l3, l4], [.ref k1, .int i0], h) Q = Tr sc d 221 (12, [l0, some (.int x), l2, l3, l4], [.int x, .ref k1, .int i0], h) Q := t_iload_n k_221_11 rfl
theorem k_221_12 : lk 221 12 = some (.iaload, 13, 0, 0, .null) := by decide +kernel
theorem x_221_12 : Tr sc d 221 (12, [l0, l1, l2, l3, l4], [.int i2, .ref k1, .int i0], h) Q = (iOk sc h k1 i2 ∧ Tr sc d 221 (13, [l0, l1, l2, l3, l4], [.int (iRd sc h k1 i2), .int i0], h) Q) := t_iald k_221_12
theorem k_221_13 : lk 221 13 = some (.if_icmp .ge 37, 16, 50, 0, .null) := by decide +kernel
theorem x_221_13 : Tr sc d 221 (13, [l0, l1, l2, l3, l4], [.int i1, .int i0], h) Q = if i1 ≤ i0 then Tr sc d 221 (50, [l0, l1, l2, l3, l4], [], h) Q else Tr sc d 221 (16, [l0, l1, l2, l3, l4], [], h) Q := t_if k_221_13 rfl
theorem k_221_16 : lk 221 16 = some (.iload_n 3, 17, 3, 0, .null) := by decide +kernel
theorem x_221_16 : Tr sc d 221 (16, [l0, l1, l2, some (.int x), l4], [], h) Q = Tr sc d 221 (17, [l0, l1, l2, some (.int x), l4], [.int x], h) Q := t_iload_n k_221_16 rfl
theorem k_221_17 : lk 221 17 = some (.iload 4, 19, 4, 0, .null) := by decide +kernel
theorem x_221_17 : Tr sc d 221 (17, [l0, l1, l2, l3, some (.int x)], [.int i0], h) Q = Tr sc d 221 (19, [l0, l1, l2, l3, some (.int x)], [.int x, .int i0], h) Q := t_iload k_221_17 rfl
theorem k_221_19 : lk 221 19 = some (.iload_n 2, 20, 2, 0, .null) := by decide +kernel
theorem x_221_19 : Tr sc d 221 (19, [l0, l1, some (.int x), l3, l4], [.int i1, .int i0], h) Q = Tr sc d 221 (20, [l0, l1, some (.int x), l3, l4], [.int x, .int i1, .int i0], h) Q := t_iload_n k_221_19 rfl
theorem k_221_20 : lk 221 20 = some (.if_icmp .eq 21, 23, 41, 0, .null) := by decide +kernel
theorem x_221_20 : Tr sc d 221 (20, [l0, l1, l2, l3, l4], [.int i2, .int i1, .int i0], h) Q = if i1 = i2 then Tr sc d 221 (41, [l0, l1, l2, l3, l4], [.int i0], h) Q else Tr sc d 221 (23, [l0, l1, l2, l3, l4], [.int i0], h) Q := t_if k_221_20 rfl
theorem k_221_23 : lk 221 23 = some (.aload_n 0, 24, 0, 0, .null) := by decide +kernel
theorem x_221_23 : Tr sc d 221 (23, [some (.ref xk), l1, l2, l3, l4], [.int i0], h) Q = Tr sc d 221 (24, [some (.ref xk), l1, l2, l3, l4], [.ref xk, .int i0], h) Q := t_aload_n k_221_23 rfl
theorem k_221_24 : lk 221 24 = some (.iload_n 1, 25, 1, 0, .null) := by decide +kernel
theorem x_221_24 : Tr sc d 221 (24, [l0, some (.int x), l2, l3, l4], [.ref k1, .int i0], h) Q = Tr sc d 221 (25, [l0, some (.int x), l2, l3, l4], [.int x, .ref k1, .int i0], h) Q := t_iload_n k_221_24 rfl
theorem k_221_25 : lk 221 25 = some (.iload_n 2, 26, 2, 0, .null) := by decide +kernel
theorem x_221_25 : Tr sc d 221 (25, [l0, l1, some (.int x), l3, l4], [.int i2, .ref k1, .int i0], h) Q = Tr sc d 221 (26, [l0, l1, some (.int x), l3, l4], [.int x, .int i2, .ref k1, .int i0], h) Q := t_iload_n k_221_25 rfl
theorem k_221_26 : lk 221 26 = some (.iload 4, 28, 4, 0, .null) := by decide +kernel
theorem x_221_26 : Tr sc d 221 (26, [l0, l1, l2, l3, some (.int x)], [.int i3, .int i2, .ref k1, .int i0], h) Q = Tr sc d 221 (28, [l0, l1, l2, l3, some (.int x)], [.int x, .int i3, .int i2, .ref k1, .int i0], h) Q := t_iload k_221_26 rfl
theorem k_221_28 : lk 221 28 = some (.invokevirtual 324, 31, 216, 3, .null) := by decide +kernel
theorem x_221_28 : Tr sc (d + 1) 221 (28, [l0, l1, l2, l3, l4], [.int i4, .int i3, .int i2, .ref k1, .int i0], h) Q = (okp h k1 10 = true ∧ Tr sc d 216 (ent0 216 [.ref k1, .int i2, .int i3, .int i4] h) (fun z => Tr sc (d + 1) 221 (31, [l0, l1, l2, l3, l4], z.1.toList ++ [.int i0], z.2) Q)) := t_cv (as := [.int i2, .int i3, .int i4]) (r := [.int i0]) k_221_28 rfl rfl (Nat.le_of_ble_eq_true rfl) (Nat.le_of_ble_eq_true rfl) (Nat.le_of_ble_eq_true rfl)
theorem k_221_31 : lk 221 31 = some (.ifCond .eq 10, 34, 41, 0, .null) := by decide +kernel
theorem x_221_31 : Tr sc d 221 (31, [l0, l1, l2, l3, l4], [.int i1, .int i0], h) Q = if i1 = 0 then Tr sc d 221 (41, [l0, l1, l2, l3, l4], [.int i0], h) Q else Tr sc d 221 (34, [l0, l1, l2, l3, l4], [.int i0], h) Q := t_if k_221_31 rfl
theorem k_221_34 : lk 221 34 = some (.iconst 1, 35, 0, 0, .int 1) := by decide +kernel
theorem x_221_34 : Tr sc d 221 (34, [l0, l1, l2, l3, l4], [.int i0], h) Q = Tr sc d 221 (35, [l0, l1, l2, l3, l4], [.int 1, .int i0], h) Q := t_go k_221_34 rfl
theorem k_221_35 : lk 221 35 = some (.iload 4, 37, 4, 0, .null) := by decide +kernel
theorem x_221_35 : Tr sc d 221 (35, [l0, l1, l2, l3, some (.int x)], [.int i1, .int i0], h) Q = Tr sc d 221 (37, [l0, l1, l2, l3, some (.int x)], [.int x, .int i1, .int i0], h) Q := t_iload k_221_35 rfl
theorem k_221_37 : lk 221 37 = some (.ishl, 38, 0, 0, .null) := by decide +kernel
theorem x_221_37 : Tr sc d 221 (37, [l0, l1, l2, l3, l4], [.int i2, .int i1, .int i0], h) Q = Tr sc d 221 (38, [l0, l1, l2, l3, l4], [.int (i1 <<< (i2 &&& 31)), .int i0], h) Q := t_go k_221_37 rfl
theorem k_221_38 : lk 221 38 = some (.goto 4, 41, 42, 0, .null) := by decide +kernel
theorem x_221_38 : Tr sc d 221 (38, [l0, l1, l2, l3, l4], [.int i1, .int i0], h) Q = Tr sc d 221 (42, [l0, l1, l2, l3, l4], [.int i1, .int i0], h) Q := t_go k_221_38 rfl
theorem k_221_41 : lk 221 41 = some (.iconst 0, 42, 0, 0, .int 0) := by decide +kernel
theorem x_221_41 : Tr sc d 221 (41, [l0, l1, l2, l3, l4], [.int i0], h) Q = Tr sc d 221 (42, [l0, l1, l2, l3, l4], [.int 0, .int i0], h) Q := t_go k_221_41 rfl
theorem k_221_42 : lk 221 42 = some (.ior, 43, 0, 0, .null) := by decide +kernel
theorem x_221_42 : Tr sc d 221 (42, [l0, l1, l2, l3, l4], [.int i1, .int i0], h) Q = Tr sc d 221 (43, [l0, l1, l2, l3, l4], [.int (i0 ||| i1)], h) Q := t_go k_221_42 rfl
theorem k_221_43 : lk 221 43 = some (.istore_n 3, 44, 3, 0, .null) := by decide +kernel
theorem x_221_43 : Tr sc d 221 (43, [l0, l1, l2, l3, l4], [.int i0], h) Q = Tr sc d 221 (44, [l0, l1, cl2 l2, some (.int i0), l4], [], h) Q := t_istore_n k_221_43 (Nat.le_of_ble_eq_true rfl)
theorem k_221_44 : lk 221 44 = some (.iinc 4 1, 47, 4, 0, .int 1) := by decide +kernel
theorem x_221_44 : Tr sc d 221 (44, [l0, l1, l2, l3, some (.int x)], [], h) Q = Tr sc d 221 (47, [l0, l1, l2, cl2 l3, some (.int (x + 1))], [], h) Q := t_inc k_221_44 rfl (Nat.le_of_ble_eq_true rfl)
theorem k_221_47 : lk 221 47 = some (.goto (-42), 50, 5, 0, .null) := by decide +kernel
theorem x_221_47 : Tr sc d 221 (47, [l0, l1, l2, l3, l4], [], h) Q = Tr sc d 221 (5, [l0, l1, l2, l3, l4], [], h) Q := t_go k_221_47 rfl
theorem k_221_50 : lk 221 50 = some (.iload_n 3, 51, 3, 0, .null) := by decide +kernel
theorem x_221_50 : Tr sc d 221 (50, [l0, l1, l2, some (.int x), l4], [], h) Q = Tr sc d 221 (51, [l0, l1, l2, some (.int x), l4], [.int x], h) Q := t_iload_n k_221_50 rfl
theorem k_221_51 : lk 221 51 = some (.ireturn, 52, 0, 0, .null) := by decide +kernel
theorem x_221_51 : Tr sc d 221 (51, [l0, l1, l2, l3, l4], [.int i0], h) Q = Q (some (.int i0), h) := t_ret k_221_51 (by rw [r_221]; rfl)
theorem e_221 : Tr sc d 221 (ent0 221 [.ref k0, .int i1, .int i2] h) Q = Tr sc d 221 (0, [some (.ref k0), some (.int i1), some (.int i2), none, none], [], h) Q := by
  have e : mL 221 = 5 := by decide +kernel
  unfold ent0
  rw [e]
  rfl
theorem r_222 : mR 222 = some .int := by decide +kernel
theorem k_222_0 : lk 222 0 = some (.aload_n 0, 1, 0, 0, .null) := by decide +kernel
theorem x_222_0 : Tr sc d 222 (0, [some (.ref xk), l1, l2, l3], [], h) Q = Tr sc d 222 (1, [some (.ref xk), l1, l2, l3], [.ref xk], h) Q := t_aload_n k_222_0 rfl
theorem k_222_1 : lk 222 1 = some (.iload_n 1, 2, 1, 0, .null) := by decide +kernel
theorem x_222_1 : Tr sc d 222 (1, [l0, some (.int x), l2, l3], [.ref k0], h) Q = Tr sc d 222 (2, [l0, some (.int x), l2, l3], [.int x, .ref k0], h) Q := t_iload_n k_222_1 rfl
theorem k_222_2 : lk 222 2 = some (.invokevirtual 327, 5, 218, 1, .null) := by decide +kernel
theorem x_222_2 : Tr sc (d + 1) 222 (2, [l0, l1, l2, l3], [.int i1, .ref k0], h) Q = (okp h k0 10 = true ∧ Tr sc d 218 (ent0 218 [.ref k0, .int i1] h) (fun z => Tr sc (d + 1) 222 (5, [l0, l1, l2, l3], z.1.toList ++ [], z.2) Q)) := t_cv (as := [.int i1]) (r := []) k_222_2 rfl rfl (Nat.le_of_ble_eq_true rfl) (Nat.le_of_ble_eq_true rfl) (Nat.le_of_ble_eq_true rfl)
theorem k_222_5 : lk 222 5 = some (.istore_n 3, 6, 3, 0, .null) := by decide +kernel
theorem x_222_5 : Tr sc d 222 (5, [l0, l1, l2, l3], [.int i0], h) Q = Tr sc d 222 (6, [l0, l1, cl2 l2, some (.int i0)], [], h) Q := t_istore_n k_222_5 (Nat.le_of_ble_eq_true rfl)
theorem k_222_6 : lk 222 6 = some (.iload_n 3, 7, 3, 0, .null) := by decide +kernel
theorem x_222_6 : Tr sc d 222 (6, [l0, l1, l2, some (.int x)], [], h) Q = Tr sc d 222 (7, [l0, l1, l2, some (.int x)], [.int x], h) Q := t_iload_n k_222_6 rfl
theorem k_222_7 : lk 222 7 = some (.ifCond .ge 5, 10, 12, 0, .null) := by decide +kernel
theorem x_222_7 : Tr sc d 222 (7, [l0, l1, l2, l3], [.int i0], h) Q = if 0 ≤ i0 then Tr sc d 222 (12, [l0, l1, l2, l3], [], h) Q else Tr sc d 222 (10, [l0, l1, l2, l3], [], h) Q := t_if k_222_7 rfl
theorem k_222_10 : lk 222 10 = some (.iload_n 3, 11, 3, 0, .null) := by decide +kernel
theorem x_222_10 : Tr sc d 222 (10, [l0, l1, l2, some (.int x)], [], h) Q = Tr sc d 222 (11, [l0, l1, l2, some (.int x)], [.int x], h) Q := t_iload_n k_222_10 rfl
theorem k_222_11 : lk 222 11 = some (.ireturn, 12, 0, 0, .null) := by decide +kernel
theorem x_222_11 : Tr sc d 222 (11, [l0, l1, l2, l3], [.int i0], h) Q = Q (some (.int i0), h) := t_ret k_222_11 (by rw [r_222]; rfl)
theorem k_222_12 : lk 222 12 = some (.iload_n 2, 13, 2, 0, .null) := by decide +kernel
theorem x_222_12 : Tr sc d 222 (12, [l0, l1, some (.int x), l3], [], h) Q = Tr sc d 222 (13, [l0, l1, some (.int x), l3], [.int x], h) Q := t_iload_n k_222_12 rfl
theorem k_222_13 : lk 222 13 = some (.iconst 0, 14, 0, 0, .int 0) := by decide +kernel
theorem x_222_13 : Tr sc d 222 (13, [l0, l1, l2, l3], [.int i0], h) Q = Tr sc d 222 (14, [l0, l1, l2, l3], [.int 0, .int i0], h) Q := t_go k_222_13 rfl
theorem k_222_14 : lk 222 14 = some (.aload_n 0, 15, 0, 0, .null) := by decide +kernel
theorem x_222_14 : Tr sc d 222 (14, [some (.ref xk), l1, l2, l3], [.int i1, .int i0], h) Q = Tr sc d 222 (15, [some (.ref xk), l1, l2, l3], [.ref xk, .int i1, .int i0], h) Q := t_aload_n k_222_14 rfl
theorem k_222_15 : lk 222 15 = some (.getfield 41, 18, 10, 18, .null) := by decide +kernel
theorem x_222_15 : Tr sc d 222 (15, [l0, l1, l2, l3], [.ref k2, .int i1, .int i0], h) Q = (okp h k2 10 = true ∧ ∃ q, hR h k2 18 = some q ∧ Tr sc d 222 (18, [l0, l1, l2, l3], [.ref q, .int i1, .int i0], h) Q) := t_getr k_222_15
theorem k_222_18 : lk 222 18 = some (.iload_n 1, 19, 1, 0, .null) := by decide +kernel
theorem x_222_18 : Tr sc d 222 (18, [l0, some (.int x), l2, l3], [.ref k2, .int i1, .int i0], h) Q = Tr sc d 222 (19, [l0, some (.int x), l2, l3], [.int x, .ref k2, .int i1, .int i0], h) Q := t_iload_n k_222_18 rfl
theorem k_222_19 : lk 222 19 = some (.iaload, 20, 0, 0, .null) := by decide +kernel
theorem x_222_19 : Tr sc d 222 (19, [l0, l1, l2, l3], [.int i3, .ref k2, .int i1, .int i0], h) Q = (iOk sc h k2 i3 ∧ Tr sc d 222 (20, [l0, l1, l2, l3], [.int (iRd sc h k2 i3), .int i1, .int i0], h) Q) := t_iald k_222_19
theorem k_222_20 : lk 222 20 = some (.iconst 1, 21, 0, 0, .int 1) := by decide +kernel
theorem x_222_20 : Tr sc d 222 (20, [l0, l1, l2, l3], [.int i2, .int i1, .int i0], h) Q = Tr sc d 222 (21, [l0, l1, l2, l3], [.int 1, .int i2, .int i1, .int i0], h) Q := t_go k_222_20 rfl
theorem k_222_21 : lk 222 21 = some (.isub, 22, 0, 0, .null) := by decide +kernel
theorem x_222_21 : Tr sc d 222 (21, [l0, l1, l2, l3], [.int i3, .int i2, .int i1, .int i0], h) Q = Tr sc d 222 (22, [l0, l1, l2, l3], [.int (i2 - i3), .int i1, .int i0], h) Q := t_go k_222_21 rfl
theorem k_222_22 : lk 222 22 = some (.invokestatic 144, 25, 157, 3, .null) := by decide +kernel
theorem x_222_22 : Tr sc (d + 1) 222 (22, [l0, l1, l2, l3], [.int i2, .int i1, .int i0], h) Q = Tr sc d 157 (ent0 157 [.int i0, .int i1, .int i2] h) (fun z => Tr sc (d + 1) 222 (25, [l0, l1, l2, l3], z.1.toList ++ [], z.2) Q) := t_cs (as := [.int i0, .int i1, .int i2]) (r := []) k_222_22 (by decide) rfl rfl (Nat.le_of_ble_eq_true rfl) (Nat.le_of_ble_eq_true rfl)
theorem k_222_25 : lk 222 25 = some (.ifCond .eq 12, 28, 37, 0, .null) := by decide +kernel
theorem x_222_25 : Tr sc d 222 (25, [l0, l1, l2, l3], [.int i0], h) Q = if i0 = 0 then Tr sc d 222 (37, [l0, l1, l2, l3], [], h) Q else Tr sc d 222 (28, [l0, l1, l2, l3], [], h) Q := t_if k_222_25 rfl
theorem k_222_28 : lk 222 28 = some (.aload_n 0, 29, 0, 0, .null) := by decide +kernel
theorem x_222_28 : Tr sc d 222 (28, [some (.ref xk), l1, l2, l3], [], h) Q = Tr sc d 222 (29, [some (.ref xk), l1, l2, l3], [.ref xk], h) Q := t_aload_n k_222_28 rfl
theorem k_222_29 : lk 222 29 = some (.iload_n 1, 30, 1, 0, .null) := by decide +kernel
theorem x_222_29 : Tr sc d 222 (29, [l0, some (.int x), l2, l3], [.ref k0], h) Q = Tr sc d 222 (30, [l0, some (.int x), l2, l3], [.int x, .ref k0], h) Q := t_iload_n k_222_29 rfl
theorem k_222_30 : lk 222 30 = some (.iload_n 2, 31, 2, 0, .null) := by decide +kernel
theorem x_222_30 : Tr sc d 222 (30, [l0, l1, some (.int x), l3], [.int i1, .ref k0], h) Q = Tr sc d 222 (31, [l0, l1, some (.int x), l3], [.int x, .int i1, .ref k0], h) Q := t_iload_n k_222_30 rfl
theorem k_222_31 : lk 222 31 = some (.invokevirtual 330, 34, 221, 2, .null) := by decide +kernel
theorem x_222_31 : Tr sc (d + 1) 222 (31, [l0, l1, l2, l3], [.int i2, .int i1, .ref k0], h) Q = (okp h k0 10 = true ∧ Tr sc d 221 (ent0 221 [.ref k0, .int i1, .int i2] h) (fun z => Tr sc (d + 1) 222 (34, [l0, l1, l2, l3], z.1.toList ++ [], z.2) Q)) := t_cv (as := [.int i1, .int i2]) (r := []) k_222_31 rfl rfl (Nat.le_of_ble_eq_true rfl) (Nat.le_of_ble_eq_true rfl) (Nat.le_of_ble_eq_true rfl)
theorem k_222_34 : lk 222 34 = some (.goto 8, 37, 42, 0, .null) := by decide +kernel
theorem x_222_34 : Tr sc d 222 (34, [l0, l1, l2, l3], [.int i0], h) Q = Tr sc d 222 (42, [l0, l1, l2, l3], [.int i0], h) Q := t_go k_222_34 rfl
theorem k_222_37 : lk 222 37 = some (.aload_n 0, 38, 0, 0, .null) := by decide +kernel
theorem x_222_37 : Tr sc d 222 (37, [some (.ref xk), l1, l2, l3], [], h) Q = Tr sc d 222 (38, [some (.ref xk), l1, l2, l3], [.ref xk], h) Q := t_aload_n k_222_37 rfl
theorem k_222_38 : lk 222 38 = some (.iconst 2, 39, 0, 0, .int 2) := by decide +kernel
theorem x_222_38 : Tr sc d 222 (38, [l0, l1, l2, l3], [.ref k0], h) Q = Tr sc d 222 (39, [l0, l1, l2, l3], [.int 2, .ref k0], h) Q := t_go k_222_38 rfl
theorem k_222_39 : lk 222 39 = some (.invokevirtual 152, 42, 158, 1, .null) := by decide +kernel
theorem x_222_39 : Tr sc (d + 1) 222 (39, [l0, l1, l2, l3], [.int i1, .ref k0], h) Q = (okp h k0 10 = true ∧ Tr sc d 158 (ent0 158 [.ref k0, .int i1] h) (fun z => Tr sc (d + 1) 222 (42, [l0, l1, l2, l3], z.1.toList ++ [], z.2) Q)) := t_cv (as := [.int i1]) (r := []) k_222_39 rfl rfl (Nat.le_of_ble_eq_true rfl) (Nat.le_of_ble_eq_true rfl) (Nat.le_of_ble_eq_true rfl)
theorem k_222_42 : lk 222 42 = some (.ireturn, 43, 0, 0, .null) := by decide +kernel
theorem x_222_42 : Tr sc d 222 (42, [l0, l1, l2, l3], [.int i0], h) Q = Q (some (.int i0), h) := t_ret k_222_42 (by rw [r_222]; rfl)
theorem e_222 : Tr sc d 222 (ent0 222 [.ref k0, .int i1, .int i2] h) Q = Tr sc d 222 (0, [some (.ref k0), some (.int i1), some (.int i2), none], [], h) Q := by
  have e : mL 222 = 4 := by decide +kernel
  unfold ent0
  rw [e]
  rfl
theorem r_223 : mR 223 = some .int := by decide +kernel
theorem k_223_0 : lk 223 0 = some (.aload_n 0, 1, 0, 0, .null) := by decide +kernel
theorem x_223_0 : Tr sc d 223 (0, [some (.ref xk), l1, l2, l3, l4, l5], [], h) Q = Tr sc d 223 (1, [some (.ref xk), l1, l2, l3, l4, l5], [.ref xk], h) Q := t_aload_n k_223_0 rfl
theorem k_223_1 : lk 223 1 = some (.iload_n 1, 2, 1, 0, .null) := by decide +kernel
theorem x_223_1 : Tr sc d 223 (1, [l0, some (.int x), l2, l3, l4, l5], [.ref k0], h) Q = Tr sc d 223 (2, [l0, some (.int x), l2, l3, l4, l5], [.int x, .ref k0], h) Q := t_iload_n k_223_1 rfl
theorem k_223_2 : lk 223 2 = some (.invokevirtual 327, 5, 218, 1, .null) := by decide +kernel
theorem x_223_2 : Tr sc (d + 1) 223 (2, [l0, l1, l2, l3, l4, l5], [.int i1, .ref k0], h) Q = (okp h k0 10 = true ∧ Tr sc d 218 (ent0 218 [.ref k0, .int i1] h) (fun z => Tr sc (d + 1) 223 (5, [l0, l1, l2, l3, l4, l5], z.1.toList ++ [], z.2) Q)) := t_cv (as := [.int i1]) (r := []) k_223_2 rfl rfl (Nat.le_of_ble_eq_true rfl) (Nat.le_of_ble_eq_true rfl) (Nat.le_of_ble_eq_true rfl)
theorem k_223_5 : lk 223 5 = some (.istore_n 2, 6, 2, 0, .null) := by decide +kernel
theorem x_223_5 : Tr sc d 223 (5, [l0, l1, l2, l3, l4, l5], [.int i0], h) Q = Tr sc d 223 (6, [l0, cl2 l1, some (.int i0), l3, l4, l5], [], h) Q := t_istore_n k_223_5 (Nat.le_of_ble_eq_true rfl)
theorem k_223_6 : lk 223 6 = some (.iload_n 2, 7, 2, 0, .null) := by decide +kernel
theorem x_223_6 : Tr sc d 223 (6, [l0, l1, some (.int x), l3, l4, l5], [], h) Q = Tr sc d 223 (7, [l0, l1, some (.int x), l3, l4, l5], [.int x], h) Q := t_iload_n k_223_6 rfl
theorem k_223_7 : lk 223 7 = some (.ifCond .ge 5, 10, 12, 0, .null) := by decide +kernel
theorem x_223_7 : Tr sc d 223 (7, [l0, l1, l2, l3, l4, l5], [.int i0], h) Q = if 0 ≤ i0 then Tr sc d 223 (12, [l0, l1, l2, l3, l4, l5], [], h) Q else Tr sc d 223 (10, [l0, l1, l2, l3, l4, l5], [], h) Q := t_if k_223_7 rfl
theorem k_223_10 : lk 223 10 = some (.iload_n 2, 11, 2, 0, .null) := by decide +kernel
theorem x_223_10 : Tr sc d 223 (10, [l0, l1, some (.int x), l3, l4, l5], [], h) Q = Tr sc d 223 (11, [l0, l1, some (.int x), l3, l4, l5], [.int x], h) Q := t_iload_n k_223_10 rfl
theorem k_223_11 : lk 223 11 = some (.ireturn, 12, 0, 0, .null) := by decide +kernel
theorem x_223_11 : Tr sc d 223 (11, [l0, l1, l2, l3, l4, l5], [.int i0], h) Q = Q (some (.int i0), h) := t_ret k_223_11 (by rw [r_223]; rfl)
theorem k_223_12 : lk 223 12 = some (.iconst 1, 13, 0, 0, .int 1) := by decide +kernel
theorem x_223_12 : Tr sc d 223 (12, [l0, l1, l2, l3, l4, l5], [], h) Q = Tr sc d 223 (13, [l0, l1, l2, l3, l4, l5], [.int 1], h) Q := t_go k_223_12 rfl
theorem k_223_13 : lk 223 13 = some (.istore_n 3, 14, 3, 0, .null) := by decide +kernel
theorem x_223_13 : Tr sc d 223 (13, [l0, l1, l2, l3, l4, l5], [.int i0], h) Q = Tr sc d 223 (14, [l0, l1, cl2 l2, some (.int i0), l4, l5], [], h) Q := t_istore_n k_223_13 (Nat.le_of_ble_eq_true rfl)
theorem k_223_14 : lk 223 14 = some (.iconst 0, 15, 0, 0, .int 0) := by decide +kernel
theorem x_223_14 : Tr sc d 223 (14, [l0, l1, l2, l3, l4, l5], [], h) Q = Tr sc d 223 (15, [l0, l1, l2, l3, l4, l5], [.int 0], h) Q := t_go k_223_14 rfl
theorem k_223_15 : lk 223 15 = some (.istore 4, 17, 4, 0, .null) := by decide +kernel
theorem x_223_15 : Tr sc d 223 (15, [l0, l1, l2, l3, l4, l5], [.int i0], h) Q = Tr sc d 223 (17, [l0, l1, l2, cl2 l3, some (.int i0), l5], [], h) Q := t_istore k_223_15 (Nat.le_of_ble_eq_true rfl)
theorem k_223_17 : lk 223 17 = some (.iload 4, 19, 4, 0, .null) := by decide +kernel
theorem x_223_17 : Tr sc d 223 (17, [l0, l1, l2, l3, some (.int x), l5], [], h) Q = Tr sc d 223 (19, [l0, l1, l2, l3, some (.int x), l5], [.int x], h) Q := t_iload k_223_17 rfl
theorem k_223_19 : lk 223 19 = some (.aload_n 0, 20, 0, 0, .null) := by decide +kernel
theorem x_223_19 : Tr sc d 223 (19, [some (.ref xk), l1, l2, l3, l4, l5], [.int i0], h) Q = Tr sc d 223 (20, [some (.ref xk), l1, l2, l3, l4, l5], [.ref xk, .int i0], h) Q := t_aload_n k_223_19 rfl
theorem k_223_20 : lk 223 20 = some (.getfield 41, 23, 10, 18, .null) := by decide +kernel
theorem x_223_20 : Tr sc d 223 (20, [l0, l1, l2, l3, l4, l5], [.ref k1, .int i0], h) Q = (okp h k1 10 = true ∧ ∃ q, hR h k1 18 = some q ∧ Tr sc d 223 (23, [l0, l1, l2, l3, l4, l5], [.ref q, .int i0], h) Q) := t_getr k_223_20
theorem k_223_23 : lk 223 23 = some (.iload_n 1, 24, 1, 0, .null) := by decide +kernel
theorem x_223_23 : Tr sc d 223 (23, [l0, some (.int x), l2, l3, l4, l5], [.ref k1, .int i0], h) Q = Tr sc d 223 (24, [l0, some (.int x), l2, l3, l4, l5], [.int x, .ref k1, .int i0], h) Q := t_iload_n k_223_23 rfl
theorem k_223_24 : lk 223 24 = some (.iaload, 25, 0, 0, .null) := by decide +kernel
theorem x_223_24 : Tr sc d 223 (24, [l0, l1, l2, l3, l4, l5], [.int i2, .ref k1, .int i0], h) Q = (iOk sc h k1 i2 ∧ Tr sc d 223 (25, [l0, l1, l2, l3, l4, l5], [.int (iRd sc h k1 i2), .int i0], h) Q) := t_iald k_223_24
theorem k_223_25 : lk 223 25 = some (.if_icmp .ge 53, 28, 78, 0, .null) := by decide +kernel
theorem x_223_25 : Tr sc d 223 (25, [l0, l1, l2, l3, l4, l5], [.int i1, .int i0], h) Q = if i1 ≤ i0 then Tr sc d 223 (78, [l0, l1, l2, l3, l4, l5], [], h) Q else Tr sc d 223 (28, [l0, l1, l2, l3, l4, l5], [], h) Q := t_if k_223_25 rfl
theorem k_223_28 : lk 223 28 = some (.iconst 0, 29, 0, 0, .int 0) := by decide +kernel
theorem x_223_28 : Tr sc d 223 (28, [l0, l1, l2, l3, l4, l5], [], h) Q = Tr sc d 223 (29, [l0, l1, l2, l3, l4, l5], [.int 0], h) Q := t_go k_223_28 rfl
theorem k_223_29 : lk 223 29 = some (.istore 5, 31, 5, 0, .null) := by decide +kernel
theorem x_223_29 : Tr sc d 223 (29, [l0, l1, l2, l3, l4, l5], [.int i0], h) Q = Tr sc d 223 (31, [l0, l1, l2, l3, cl2 l4, some (.int i0)], [], h) Q := t_istore k_223_29 (Nat.le_of_ble_eq_true rfl)
theorem k_223_31 : lk 223 31 = some (.iload 5, 33, 5, 0, .null) := by decide +kernel
theorem x_223_31 : Tr sc d 223 (31, [l0, l1, l2, l3, l4, some (.int x)], [], h) Q = Tr sc d 223 (33, [l0, l1, l2, l3, l4, some (.int x)], [.int x], h) Q := t_iload k_223_31 rfl
theorem k_223_33 : lk 223 33 = some (.aload_n 0, 34, 0, 0, .null) := by decide +kernel
theorem x_223_33 : Tr sc d 223 (33, [some (.ref xk), l1, l2, l3, l4, l5], [.int i0], h) Q = Tr sc d 223 (34, [some (.ref xk), l1, l2, l3, l4, l5], [.ref xk, .int i0], h) Q := t_aload_n k_223_33 rfl
theorem k_223_34 : lk 223 34 = some (.getfield 41, 37, 10, 18, .null) := by decide +kernel
theorem x_223_34 : Tr sc d 223 (34, [l0, l1, l2, l3, l4, l5], [.ref k1, .int i0], h) Q = (okp h k1 10 = true ∧ ∃ q, hR h k1 18 = some q ∧ Tr sc d 223 (37, [l0, l1, l2, l3, l4, l5], [.ref q, .int i0], h) Q) := t_getr k_223_34
theorem k_223_37 : lk 223 37 = some (.iload_n 1, 38, 1, 0, .null) := by decide +kernel
theorem x_223_37 : Tr sc d 223 (37, [l0, some (.int x), l2, l3, l4, l5], [.ref k1, .int i0], h) Q = Tr sc d 223 (38, [l0, some (.int x), l2, l3, l4, l5], [.int x, .ref k1, .int i0], h) Q := t_iload_n k_223_37 rfl
theorem k_223_38 : lk 223 38 = some (.iaload, 39, 0, 0, .null) := by decide +kernel
theorem x_223_38 : Tr sc d 223 (38, [l0, l1, l2, l3, l4, l5], [.int i2, .ref k1, .int i0], h) Q = (iOk sc h k1 i2 ∧ Tr sc d 223 (39, [l0, l1, l2, l3, l4, l5], [.int (iRd sc h k1 i2), .int i0], h) Q) := t_iald k_223_38
theorem k_223_39 : lk 223 39 = some (.if_icmp .ge 33, 42, 72, 0, .null) := by decide +kernel
theorem x_223_39 : Tr sc d 223 (39, [l0, l1, l2, l3, l4, l5], [.int i1, .int i0], h) Q = if i1 ≤ i0 then Tr sc d 223 (72, [l0, l1, l2, l3, l4, l5], [], h) Q else Tr sc d 223 (42, [l0, l1, l2, l3, l4, l5], [], h) Q := t_if k_223_39 rfl
theorem k_223_42 : lk 223 42 = some (.iload_n 3, 43, 3, 0, .null) := by decide +kernel
theorem x_223_42 : Tr sc d 223 (42, [l0, l1, l2, some (.int x), l4, l5], [], h) Q = Tr sc d 223 (43, [l0, l1, l2, some (.int x), l4, l5], [.int x], h) Q := t_iload_n k_223_42 rfl
theorem k_223_43 : lk 223 43 = some (.iload_n 3, 44, 3, 0, .null) := by decide +kernel
theorem x_223_43 : Tr sc d 223 (43, [l0, l1, l2, some (.int x), l4, l5], [.int i0], h) Q = Tr sc d 223 (44, [l0, l1, l2, some (.int x), l4, l5], [.int x, .int i0], h) Q := t_iload_n k_223_43 rfl
theorem k_223_44 : lk 223 44 = some (.iload 5, 46, 5, 0, .null) := by decide +kernel
theorem x_223_44 : Tr sc d 223 (44, [l0, l1, l2, l3, l4, some (.int x)], [.int i1, .int i0], h) Q = Tr sc d 223 (46, [l0, l1, l2, l3, l4, some (.int x)], [.int x, .int i1, .int i0], h) Q := t_iload k_223_44 rfl
theorem k_223_46 : lk 223 46 = some (.ishr, 47, 0, 0, .null) := by decide +kernel
theorem x_223_46 : Tr sc d 223 (46, [l0, l1, l2, l3, l4, l5], [.int i2, .int i1, .int i0], h) Q = Tr sc d 223 (47, [l0, l1, l2, l3, l4, l5], [.int (i1 >>> (i2 &&& 31)), .int i0], h) Q := t_go k_223_46 rfl
theorem k_223_47 : lk 223 47 = some (.iconst 1, 48, 0, 0, .int 1) := by decide +kernel
theorem x_223_47 : Tr sc d 223 (47, [l0, l1, l2, l3, l4, l5], [.int i1, .int i0], h) Q = Tr sc d 223 (48, [l0, l1, l2, l3, l4, l5], [.int 1, .int i1, .int i0], h) Q := t_go k_223_47 rfl
theorem k_223_48 : lk 223 48 = some (.iand, 49, 0, 0, .null) := by decide +kernel
theorem x_223_48 : Tr sc d 223 (48, [l0, l1, l2, l3, l4, l5], [.int i2, .int i1, .int i0], h) Q = Tr sc d 223 (49, [l0, l1, l2, l3, l4, l5], [.int (i1 &&& i2), .int i0], h) Q := t_go k_223_48 rfl
theorem k_223_49 : lk 223 49 = some (.iconst 1, 50, 0, 0, .int 1) := by decide +kernel
theorem x_223_49 : Tr sc d 223 (49, [l0, l1, l2, l3, l4, l5], [.int i1, .int i0], h) Q = Tr sc d 223 (50, [l0, l1, l2, l3, l4, l5], [.int 1, .int i1, .int i0], h) Q := t_go k_223_49 rfl
theorem k_223_50 : lk 223 50 = some (.if_icmp .ne 13, 53, 63, 0, .null) := by decide +kernel
theorem x_223_50 : Tr sc d 223 (50, [l0, l1, l2, l3, l4, l5], [.int i2, .int i1, .int i0], h) Q = if i1 = i2 then Tr sc d 223 (53, [l0, l1, l2, l3, l4, l5], [.int i0], h) Q else Tr sc d 223 (63, [l0, l1, l2, l3, l4, l5], [.int i0], h) Q := t_if k_223_50 rfl
theorem k_223_53 : lk 223 53 = some (.aload_n 0, 54, 0, 0, .null) := by decide +kernel
theorem x_223_53 : Tr sc d 223 (53, [some (.ref xk), l1, l2, l3, l4, l5], [.int i0], h) Q = Tr sc d 223 (54, [some (.ref xk), l1, l2, l3, l4, l5], [.ref xk, .int i0], h) Q := t_aload_n k_223_53 rfl
theorem k_223_54 : lk 223 54 = some (.iload_n 1, 55, 1, 0, .null) := by decide +kernel
theorem x_223_54 : Tr sc d 223 (54, [l0, some (.int x), l2, l3, l4, l5], [.ref k1, .int i0], h) Q = Tr sc d 223 (55, [l0, some (.int x), l2, l3, l4, l5], [.int x, .ref k1, .int i0], h) Q := t_iload_n k_223_54 rfl
theorem k_223_55 : lk 223 55 = some (.iload 5, 57, 5, 0, .null) := by decide +kernel
theorem x_223_55 : Tr sc d 223 (55, [l0, l1, l2, l3, l4, some (.int x)], [.int i2, .ref k1, .int i0], h) Q = Tr sc d 223 (57, [l0, l1, l2, l3, l4, some (.int x)], [.int x, .int i2, .ref k1, .int i0], h) Q := t_iload k_223_55 rfl
theorem k_223_57 : lk 223 57 = some (.invokevirtual 330, 60, 221, 2, .null) := by decide +kernel
theorem x_223_57 : Tr sc (d + 1) 223 (57, [l0, l1, l2, l3, l4, l5], [.int i3, .int i2, .ref k1, .int i0], h) Q = (okp h k1 10 = true ∧ Tr sc d 221 (ent0 221 [.ref k1, .int i2, .int i3] h) (fun z => Tr sc (d + 1) 223 (60, [l0, l1, l2, l3, l4, l5], z.1.toList ++ [.int i0], z.2) Q)) := t_cv (as := [.int i2, .int i3]) (r := [.int i0]) k_223_57 rfl rfl (Nat.le_of_ble_eq_true rfl) (Nat.le_of_ble_eq_true rfl) (Nat.le_of_ble_eq_true rfl)
theorem k_223_60 : lk 223 60 = some (.goto 4, 63, 64, 0, .null) := by decide +kernel
theorem x_223_60 : Tr sc d 223 (60, [l0, l1, l2, l3, l4, l5], [.int i1, .int i0], h) Q = Tr sc d 223 (64, [l0, l1, l2, l3, l4, l5], [.int i1, .int i0], h) Q := t_go k_223_60 rfl
theorem k_223_63 : lk 223 63 = some (.iconst 0, 64, 0, 0, .int 0) := by decide +kernel
theorem x_223_63 : Tr sc d 223 (63, [l0, l1, l2, l3, l4, l5], [.int i0], h) Q = Tr sc d 223 (64, [l0, l1, l2, l3, l4, l5], [.int 0, .int i0], h) Q := t_go k_223_63 rfl
theorem k_223_64 : lk 223 64 = some (.ior, 65, 0, 0, .null) := by decide +kernel
theorem x_223_64 : Tr sc d 223 (64, [l0, l1, l2, l3, l4, l5], [.int i1, .int i0], h) Q = Tr sc d 223 (65, [l0, l1, l2, l3, l4, l5], [.int (i0 ||| i1)], h) Q := t_go k_223_64 rfl
theorem k_223_65 : lk 223 65 = some (.istore_n 3, 66, 3, 0, .null) := by decide +kernel
theorem x_223_65 : Tr sc d 223 (65, [l0, l1, l2, l3, l4, l5], [.int i0], h) Q = Tr sc d 223 (66, [l0, l1, cl2 l2, some (.int i0), l4, l5], [], h) Q := t_istore_n k_223_65 (Nat.le_of_ble_eq_true rfl)
theorem k_223_66 : lk 223 66 = some (.iinc 5 1, 69, 5, 0, .int 1) := by decide +kernel
theorem x_223_66 : Tr sc d 223 (66, [l0, l1, l2, l3, l4, some (.int x)], [], h) Q = Tr sc d 223 (69, [l0, l1, l2, l3, cl2 l4, some (.int (x + 1))], [], h) Q := t_inc k_223_66 rfl (Nat.le_of_ble_eq_true rfl)
theorem k_223_69 : lk 223 69 = some (.goto (-38), 72, 31, 0, .null) := by decide +kernel
theorem x_223_69 : Tr sc d 223 (69, [l0, l1, l2, l3, l4, l5], [], h) Q = Tr sc d 223 (31, [l0, l1, l2, l3, l4, l5], [], h) Q := t_go k_223_69 rfl
theorem k_223_72 : lk 223 72 = some (.iinc 4 1, 75, 4, 0, .int 1) := by decide +kernel
theorem x_223_72 : Tr sc d 223 (72, [l0, l1, l2, l3, some (.int x), l5], [], h) Q = Tr sc d 223 (75, [l0, l1, l2, cl2 l3, some (.int (x + 1)), l5], [], h) Q := t_inc k_223_72 rfl (Nat.le_of_ble_eq_true rfl)
theorem k_223_75 : lk 223 75 = some (.goto (-58), 78, 17, 0, .null) := by decide +kernel
theorem x_223_75 : Tr sc d 223 (75, [l0, l1, l2, l3, l4, l5], [], h) Q = Tr sc d 223 (17, [l0, l1, l2, l3, l4, l5], [], h) Q := t_go k_223_75 rfl
theorem k_223_78 : lk 223 78 = some (.iload_n 3, 79, 3, 0, .null) := by decide +kernel
theorem x_223_78 : Tr sc d 223 (78, [l0, l1, l2, some (.int x), l4, l5], [], h) Q = Tr sc d 223 (79, [l0, l1, l2, some (.int x), l4, l5], [.int x], h) Q := t_iload_n k_223_78 rfl
theorem k_223_79 : lk 223 79 = some (.iconst 1, 80, 0, 0, .int 1) := by decide +kernel
theorem x_223_79 : Tr sc d 223 (79, [l0, l1, l2, l3, l4, l5], [.int i0], h) Q = Tr sc d 223 (80, [l0, l1, l2, l3, l4, l5], [.int 1, .int i0], h) Q := t_go k_223_79 rfl
theorem k_223_80 : lk 223 80 = some (.aload_n 0, 81, 0, 0, .null) := by decide +kernel
theorem x_223_80 : Tr sc d 223 (80, [some (.ref xk), l1, l2, l3, l4, l5], [.int i1, .int i0], h) Q = Tr sc d 223 (81, [some (.ref xk), l1, l2, l3, l4, l5], [.ref xk, .int i1, .int i0], h) Q := t_aload_n k_223_80 rfl
theorem k_223_81 : lk 223 81 = some (.getfield 41, 84, 10, 18, .null) := by decide +kernel
theorem x_223_81 : Tr sc d 223 (81, [l0, l1, l2, l3, l4, l5], [.ref k2, .int i1, .int i0], h) Q = (okp h k2 10 = true ∧ ∃ q, hR h k2 18 = some q ∧ Tr sc d 223 (84, [l0, l1, l2, l3, l4, l5], [.ref q, .int i1, .int i0], h) Q) := t_getr k_223_81
theorem k_223_84 : lk 223 84 = some (.iload_n 1, 85, 1, 0, .null) := by decide +kernel
theorem x_223_84 : Tr sc d 223 (84, [l0, some (.int x), l2, l3, l4, l5], [.ref k2, .int i1, .int i0], h) Q = Tr sc d 223 (85, [l0, some (.int x), l2, l3, l4, l5], [.int x, .ref k2, .int i1, .int i0], h) Q := t_iload_n k_223_84 rfl
theorem k_223_85 : lk 223 85 = some (.iaload, 86, 0, 0, .null) := by decide +kernel
theorem x_223_85 : Tr sc d 223 (85, [l0, l1, l2, l3, l4, l5], [.int i3, .ref k2, .int i1, .int i0], h) Q = (iOk sc h k2 i3 ∧ Tr sc d 223 (86, [l0, l1, l2, l3, l4, l5], [.int (iRd sc h k2 i3), .int i1, .int i0], h) Q) := t_iald k_223_85
theorem k_223_86 : lk 223 86 = some (.ishl, 87, 0, 0, .null) := by decide +kernel
theorem x_223_86 : Tr sc d 223 (86, [l0, l1, l2, l3, l4, l5], [.int i2, .int i1, .int i0], h) Q = Tr sc d 223 (87, [l0, l1, l2, l3, l4, l5], [.int (i1 <<< (i2 &&& 31)), .int i0], h) Q := t_go k_223_86 rfl
theorem k_223_87 : lk 223 87 = some (.iconst 1, 88, 0, 0, .int 1) := by decide +kernel
theorem x_223_87 : Tr sc d 223 (87, [l0, l1, l2, l3, l4, l5], [.int i1, .int i0], h) Q = Tr sc d 223 (88, [l0, l1, l2, l3, l4, l5], [.int 1, .int i1, .int i0], h) Q := t_go k_223_87 rfl
theorem k_223_88 : lk 223 88 = some (.isub, 89, 0, 0, .null) := by decide +kernel
theorem x_223_88 : Tr sc d 223 (88, [l0, l1, l2, l3, l4, l5], [.int i2, .int i1, .int i0], h) Q = Tr sc d 223 (89, [l0, l1, l2, l3, l4, l5], [.int (i1 - i2), .int i0], h) Q := t_go k_223_88 rfl
theorem k_223_89 : lk 223 89 = some (.if_icmp .ne 7, 92, 96, 0, .null) := by decide +kernel
theorem x_223_89 : Tr sc d 223 (89, [l0, l1, l2, l3, l4, l5], [.int i1, .int i0], h) Q = if i0 = i1 then Tr sc d 223 (92, [l0, l1, l2, l3, l4, l5], [], h) Q else Tr sc d 223 (96, [l0, l1, l2, l3, l4, l5], [], h) Q := t_if k_223_89 rfl
theorem k_223_92 : lk 223 92 = some (.iconst 1, 93, 0, 0, .int 1) := by decide +kernel
theorem x_223_92 : Tr sc d 223 (92, [l0, l1, l2, l3, l4, l5], [], h) Q = Tr sc d 223 (93, [l0, l1, l2, l3, l4, l5], [.int 1], h) Q := t_go k_223_92 rfl
theorem k_223_93 : lk 223 93 = some (.goto 4, 96, 97, 0, .null) := by decide +kernel
theorem x_223_93 : Tr sc d 223 (93, [l0, l1, l2, l3, l4, l5], [.int i0], h) Q = Tr sc d 223 (97, [l0, l1, l2, l3, l4, l5], [.int i0], h) Q := t_go k_223_93 rfl
theorem k_223_96 : lk 223 96 = some (.iconst 0, 97, 0, 0, .int 0) := by decide +kernel
theorem x_223_96 : Tr sc d 223 (96, [l0, l1, l2, l3, l4, l5], [], h) Q = Tr sc d 223 (97, [l0, l1, l2, l3, l4, l5], [.int 0], h) Q := t_go k_223_96 rfl
theorem k_223_97 : lk 223 97 = some (.ireturn, 98, 0, 0, .null) := by decide +kernel
theorem x_223_97 : Tr sc d 223 (97, [l0, l1, l2, l3, l4, l5], [.int i0], h) Q = Q (some (.int i0), h) := t_ret k_223_97 (by rw [r_223]; rfl)
theorem e_223 : Tr sc d 223 (ent0 223 [.ref k0, .int i1] h) Q = Tr sc d 223 (0, [some (.ref k0), some (.int i1), none, none, none, none], [], h) Q := by
  have e : mL 223 = 6 := by decide +kernel
  unfold ent0
  rw [e]
  rfl
theorem r_224 : mR 224 = some .int := by decide +kernel
theorem k_224_0 : lk 224 0 = some (.iconst 0, 1, 0, 0, .int 0) := by decide +kernel
theorem x_224_0 : Tr sc d 224 (0, [l0, l1, l2, l3, l4], [], h) Q = Tr sc d 224 (1, [l0, l1, l2, l3, l4], [.int 0], h) Q := t_go k_224_0 rfl
theorem k_224_1 : lk 224 1 = some (.istore_n 1, 2, 1, 0, .null) := by decide +kernel
theorem x_224_1 : Tr sc d 224 (1, [l0, l1, l2, l3, l4], [.int i0], h) Q = Tr sc d 224 (2, [cl2 l0, some (.int i0), l2, l3, l4], [], h) Q := t_istore_n k_224_1 (Nat.le_of_ble_eq_true rfl)
theorem k_224_2 : lk 224 2 = some (.iconst 0, 3, 0, 0, .int 0) := by decide +kernel
theorem x_224_2 : Tr sc d 224 (2, [l0, l1, l2, l3, l4], [], h) Q = Tr sc d 224 (3, [l0, l1, l2, l3, l4], [.int 0], h) Q := t_go k_224_2 rfl
theorem k_224_3 : lk 224 3 = some (.istore_n 2, 4, 2, 0, .null) := by decide +kernel
theorem x_224_3 : Tr sc d 224 (3, [l0, l1, l2, l3, l4], [.int i0], h) Q = Tr sc d 224 (4, [l0, cl2 l1, some (.int i0), l3, l4], [], h) Q := t_istore_n k_224_3 (Nat.le_of_ble_eq_true rfl)
theorem k_224_4 : lk 224 4 = some (.iload_n 2, 5, 2, 0, .null) := by decide +kernel
theorem x_224_4 : Tr sc d 224 (4, [l0, l1, some (.int x), l3, l4], [], h) Q = Tr sc d 224 (5, [l0, l1, some (.int x), l3, l4], [.int x], h) Q := t_iload_n k_224_4 rfl
theorem k_224_5 : lk 224 5 = some (.aload_n 0, 6, 0, 0, .null) := by decide +kernel
theorem x_224_5 : Tr sc d 224 (5, [some (.ref xk), l1, l2, l3, l4], [.int i0], h) Q = Tr sc d 224 (6, [some (.ref xk), l1, l2, l3, l4], [.ref xk, .int i0], h) Q := t_aload_n k_224_5 rfl
theorem k_224_6 : lk 224 6 = some (.getfield 283, 9, 10, 36, .int 0) := by decide +kernel
theorem x_224_6 : Tr sc d 224 (6, [l0, l1, l2, l3, l4], [.ref k1, .int i0], h) Q = (okp h k1 10 = true ∧ Tr sc d 224 (9, [l0, l1, l2, l3, l4], [.int (hI h k1 36), .int i0], h) Q) := t_gd k_224_6 rfl
theorem k_224_9 : lk 224 9 = some (.if_icmp .ge 102, 12, 111, 0, .null) := by decide +kernel
theorem x_224_9 : Tr sc d 224 (9, [l0, l1, l2, l3, l4], [.int i1, .int i0], h) Q = if i1 ≤ i0 then Tr sc d 224 (111, [l0, l1, l2, l3, l4], [], h) Q else Tr sc d 224 (12, [l0, l1, l2, l3, l4], [], h) Q := t_if k_224_9 rfl
theorem k_224_12 : lk 224 12 = some (.iconst 0, 13, 0, 0, .int 0) := by decide +kernel
theorem x_224_12 : Tr sc d 224 (12, [l0, l1, l2, l3, l4], [], h) Q = Tr sc d 224 (13, [l0, l1, l2, l3, l4], [.int 0], h) Q := t_go k_224_12 rfl
theorem k_224_13 : lk 224 13 = some (.istore_n 3, 14, 3, 0, .null) := by decide +kernel
theorem x_224_13 : Tr sc d 224 (13, [l0, l1, l2, l3, l4], [.int i0], h) Q = Tr sc d 224 (14, [l0, l1, cl2 l2, some (.int i0), l4], [], h) Q := t_istore_n k_224_13 (Nat.le_of_ble_eq_true rfl)
theorem k_224_14 : lk 224 14 = some (.iload_n 3, 15, 3, 0, .null) := by decide +kernel
theorem x_224_14 : Tr sc d 224 (14, [l0, l1, l2, some (.int x), l4], [], h) Q = Tr sc d 224 (15, [l0, l1, l2, some (.int x), l4], [.int x], h) Q := t_iload_n k_224_14 rfl
theorem k_224_15 : lk 224 15 = some (.aload_n 0, 16, 0, 0, .null) := by decide +kernel
theorem x_224_15 : Tr sc d 224 (15, [some (.ref xk), l1, l2, l3, l4], [.int i0], h) Q = Tr sc d 224 (16, [some (.ref xk), l1, l2, l3, l4], [.ref xk, .int i0], h) Q := t_aload_n k_224_15 rfl
theorem k_224_16 : lk 224 16 = some (.getfield 283, 19, 10, 36, .int 0) := by decide +kernel
theorem x_224_16 : Tr sc d 224 (16, [l0, l1, l2, l3, l4], [.ref k1, .int i0], h) Q = (okp h k1 10 = true ∧ Tr sc d 224 (19, [l0, l1, l2, l3, l4], [.int (hI h k1 36), .int i0], h) Q) := t_gd k_224_16 rfl
theorem k_224_19 : lk 224 19 = some (.if_icmp .ge 86, 22, 105, 0, .null) := by decide +kernel
theorem x_224_19 : Tr sc d 224 (19, [l0, l1, l2, l3, l4], [.int i1, .int i0], h) Q = if i1 ≤ i0 then Tr sc d 224 (105, [l0, l1, l2, l3, l4], [], h) Q else Tr sc d 224 (22, [l0, l1, l2, l3, l4], [], h) Q := t_if k_224_19 rfl
theorem k_224_22 : lk 224 22 = some (.iload_n 2, 23, 2, 0, .null) := by decide +kernel
theorem x_224_22 : Tr sc d 224 (22, [l0, l1, some (.int x), l3, l4], [], h) Q = Tr sc d 224 (23, [l0, l1, some (.int x), l3, l4], [.int x], h) Q := t_iload_n k_224_22 rfl
theorem k_224_23 : lk 224 23 = some (.iload_n 3, 24, 3, 0, .null) := by decide +kernel
theorem x_224_23 : Tr sc d 224 (23, [l0, l1, l2, some (.int x), l4], [.int i0], h) Q = Tr sc d 224 (24, [l0, l1, l2, some (.int x), l4], [.int x, .int i0], h) Q := t_iload_n k_224_23 rfl
theorem k_224_24 : lk 224 24 = some (.if_icmp .eq 40, 27, 64, 0, .null) := by decide +kernel
theorem x_224_24 : Tr sc d 224 (24, [l0, l1, l2, l3, l4], [.int i1, .int i0], h) Q = if i0 = i1 then Tr sc d 224 (64, [l0, l1, l2, l3, l4], [], h) Q else Tr sc d 224 (27, [l0, l1, l2, l3, l4], [], h) Q := t_if k_224_24 rfl
theorem k_224_27 : lk 224 27 = some (.aload_n 0, 28, 0, 0, .null) := by decide +kernel
theorem x_224_27 : Tr sc d 224 (27, [some (.ref xk), l1, l2, l3, l4], [], h) Q = Tr sc d 224 (28, [some (.ref xk), l1, l2, l3, l4], [.ref xk], h) Q := t_aload_n k_224_27 rfl
theorem k_224_28 : lk 224 28 = some (.aload_n 0, 29, 0, 0, .null) := by decide +kernel
theorem x_224_28 : Tr sc d 224 (28, [some (.ref xk), l1, l2, l3, l4], [.ref k0], h) Q = Tr sc d 224 (29, [some (.ref xk), l1, l2, l3, l4], [.ref xk, .ref k0], h) Q := t_aload_n k_224_28 rfl
theorem k_224_29 : lk 224 29 = some (.getfield 78, 32, 10, 39, .null) := by decide +kernel
theorem x_224_29 : Tr sc d 224 (29, [l0, l1, l2, l3, l4], [.ref k1, .ref k0], h) Q = (okp h k1 10 = true ∧ ∃ q, hR h k1 39 = some q ∧ Tr sc d 224 (32, [l0, l1, l2, l3, l4], [.ref q, .ref k0], h) Q) := t_getr k_224_29
theorem k_224_32 : lk 224 32 = some (.iload_n 3, 33, 3, 0, .null) := by decide +kernel
theorem x_224_32 : Tr sc d 224 (32, [l0, l1, l2, some (.int x), l4], [.ref k1, .ref k0], h) Q = Tr sc d 224 (33, [l0, l1, l2, some (.int x), l4], [.int x, .ref k1, .ref k0], h) Q := t_iload_n k_224_32 rfl
theorem k_224_33 : lk 224 33 = some (.iaload, 34, 0, 0, .null) := by decide +kernel
theorem x_224_33 : Tr sc d 224 (33, [l0, l1, l2, l3, l4], [.int i2, .ref k1, .ref k0], h) Q = (iOk sc h k1 i2 ∧ Tr sc d 224 (34, [l0, l1, l2, l3, l4], [.int (iRd sc h k1 i2), .ref k0], h) Q) := t_iald k_224_33
theorem k_224_34 : lk 224 34 = some (.aload_n 0, 35, 0, 0, .null) := by decide +kernel
theorem x_224_34 : Tr sc d 224 (34, [some (.ref xk), l1, l2, l3, l4], [.int i1, .ref k0], h) Q = Tr sc d 224 (35, [some (.ref xk), l1, l2, l3, l4], [.ref xk, .int i1, .ref k0], h) Q := t_aload_n k_224_34 rfl
theorem k_224_35 : lk 224 35 = some (.getfield 78, 38, 10, 39, .null) := by decide +kernel
theorem x_224_35 : Tr sc d 224 (35, [l0, l1, l2, l3, l4], [.ref k2, .int i1, .ref k0], h) Q = (okp h k2 10 = true ∧ ∃ q, hR h k2 39 = some q ∧ Tr sc d 224 (38, [l0, l1, l2, l3, l4], [.ref q, .int i1, .ref k0], h) Q) := t_getr k_224_35
theorem k_224_38 : lk 224 38 = some (.iload_n 2, 39, 2, 0, .null) := by decide +kernel
theorem x_224_38 : Tr sc d 224 (38, [l0, l1, some (.int x), l3, l4], [.ref k2, .int i1, .ref k0], h) Q = Tr sc d 224 (39, [l0, l1, some (.int x), l3, l4], [.int x, .ref k2, .int i1, .ref k0], h) Q := t_iload_n k_224_38 rfl
theorem k_224_39 : lk 224 39 = some (.iaload, 40, 0, 0, .null) := by decide +kernel
theorem x_224_39 : Tr sc d 224 (39, [l0, l1, l2, l3, l4], [.int i3, .ref k2, .int i1, .ref k0], h) Q = (iOk sc h k2 i3 ∧ Tr sc d 224 (40, [l0, l1, l2, l3, l4], [.int (iRd sc h k2 i3), .int i1, .ref k0], h) Q) := t_iald k_224_39
theorem k_224_40 : lk 224 40 = some (.isub, 41, 0, 0, .null) := by decide +kernel
theorem x_224_40 : Tr sc d 224 (40, [l0, l1, l2, l3, l4], [.int i2, .int i1, .ref k0], h) Q = Tr sc d 224 (41, [l0, l1, l2, l3, l4], [.int (i1 - i2), .ref k0], h) Q := t_go k_224_40 rfl
theorem k_224_41 : lk 224 41 = some (.aload_n 0, 42, 0, 0, .null) := by decide +kernel
theorem x_224_41 : Tr sc d 224 (41, [some (.ref xk), l1, l2, l3, l4], [.int i1, .ref k0], h) Q = Tr sc d 224 (42, [some (.ref xk), l1, l2, l3, l4], [.ref xk, .int i1, .ref k0], h) Q := t_aload_n k_224_41 rfl
theorem k_224_42 : lk 224 42 = some (.getfield 81, 45, 10, 40, .null) := by decide +kernel
theorem x_224_42 : Tr sc d 224 (42, [l0, l1, l2, l3, l4], [.ref k2, .int i1, .ref k0], h) Q = (okp h k2 10 = true ∧ ∃ q, hR h k2 40 = some q ∧ Tr sc d 224 (45, [l0, l1, l2, l3, l4], [.ref q, .int i1, .ref k0], h) Q) := t_getr k_224_42
theorem k_224_45 : lk 224 45 = some (.iload_n 3, 46, 3, 0, .null) := by decide +kernel
theorem x_224_45 : Tr sc d 224 (45, [l0, l1, l2, some (.int x), l4], [.ref k2, .int i1, .ref k0], h) Q = Tr sc d 224 (46, [l0, l1, l2, some (.int x), l4], [.int x, .ref k2, .int i1, .ref k0], h) Q := t_iload_n k_224_45 rfl
theorem k_224_46 : lk 224 46 = some (.iaload, 47, 0, 0, .null) := by decide +kernel
theorem x_224_46 : Tr sc d 224 (46, [l0, l1, l2, l3, l4], [.int i3, .ref k2, .int i1, .ref k0], h) Q = (iOk sc h k2 i3 ∧ Tr sc d 224 (47, [l0, l1, l2, l3, l4], [.int (iRd sc h k2 i3), .int i1, .ref k0], h) Q) := t_iald k_224_46
theorem k_224_47 : lk 224 47 = some (.aload_n 0, 48, 0, 0, .null) := by decide +kernel
theorem x_224_47 : Tr sc d 224 (47, [some (.ref xk), l1, l2, l3, l4], [.int i2, .int i1, .ref k0], h) Q = Tr sc d 224 (48, [some (.ref xk), l1, l2, l3, l4], [.ref xk, .int i2, .int i1, .ref k0], h) Q := t_aload_n k_224_47 rfl
theorem k_224_48 : lk 224 48 = some (.getfield 81, 51, 10, 40, .null) := by decide +kernel
theorem x_224_48 : Tr sc d 224 (48, [l0, l1, l2, l3, l4], [.ref k3, .int i2, .int i1, .ref k0], h) Q = (okp h k3 10 = true ∧ ∃ q, hR h k3 40 = some q ∧ Tr sc d 224 (51, [l0, l1, l2, l3, l4], [.ref q, .int i2, .int i1, .ref k0], h) Q) := t_getr k_224_48
theorem k_224_51 : lk 224 51 = some (.iload_n 2, 52, 2, 0, .null) := by decide +kernel
theorem x_224_51 : Tr sc d 224 (51, [l0, l1, some (.int x), l3, l4], [.ref k3, .int i2, .int i1, .ref k0], h) Q = Tr sc d 224 (52, [l0, l1, some (.int x), l3, l4], [.int x, .ref k3, .int i2, .int i1, .ref k0], h) Q := t_iload_n k_224_51 rfl
theorem k_224_52 : lk 224 52 = some (.iaload, 53, 0, 0, .null) := by decide +kernel
theorem x_224_52 : Tr sc d 224 (52, [l0, l1, l2, l3, l4], [.int i4, .ref k3, .int i2, .int i1, .ref k0], h) Q = (iOk sc h k3 i4 ∧ Tr sc d 224 (53, [l0, l1, l2, l3, l4], [.int (iRd sc h k3 i4), .int i2, .int i1, .ref k0], h) Q) := t_iald k_224_52
theorem k_224_53 : lk 224 53 = some (.isub, 54, 0, 0, .null) := by decide +kernel
theorem x_224_53 : Tr sc d 224 (53, [l0, l1, l2, l3, l4], [.int i3, .int i2, .int i1, .ref k0], h) Q = Tr sc d 224 (54, [l0, l1, l2, l3, l4], [.int (i2 - i3), .int i1, .ref k0], h) Q := t_go k_224_53 rfl
theorem k_224_54 : lk 224 54 = some (.invokevirtual 313, 57, 213, 2, .null) := by decide +kernel
theorem x_224_54 : Tr sc (d + 1) 224 (54, [l0, l1, l2, l3, l4], [.int i2, .int i1, .ref k0], h) Q = (okp h k0 10 = true ∧ Tr sc d 213 (ent0 213 [.ref k0, .int i1, .int i2] h) (fun z => Tr sc (d + 1) 224 (57, [l0, l1, l2, l3, l4], z.1.toList ++ [], z.2) Q)) := t_cv (as := [.int i1, .int i2]) (r := []) k_224_54 rfl rfl (Nat.le_of_ble_eq_true rfl) (Nat.le_of_ble_eq_true rfl) (Nat.le_of_ble_eq_true rfl)
theorem k_224_57 : lk 224 57 = some (.ifCond .eq 7, 60, 64, 0, .null) := by decide +kernel
theorem x_224_57 : Tr sc d 224 (57, [l0, l1, l2, l3, l4], [.int i0], h) Q = if i0 = 0 then Tr sc d 224 (64, [l0, l1, l2, l3, l4], [], h) Q else Tr sc d 224 (60, [l0, l1, l2, l3, l4], [], h) Q := t_if k_224_57 rfl
theorem k_224_60 : lk 224 60 = some (.iconst 1, 61, 0, 0, .int 1) := by decide +kernel
theorem x_224_60 : Tr sc d 224 (60, [l0, l1, l2, l3, l4], [], h) Q = Tr sc d 224 (61, [l0, l1, l2, l3, l4], [.int 1], h) Q := t_go k_224_60 rfl
theorem k_224_61 : lk 224 61 = some (.goto 4, 64, 65, 0, .null) := by decide +kernel
theorem x_224_61 : Tr sc d 224 (61, [l0, l1, l2, l3, l4], [.int i0], h) Q = Tr sc d 224 (65, [l0, l1, l2, l3, l4], [.int i0], h) Q := t_go k_224_61 rfl
theorem k_224_64 : lk 224 64 = some (.iconst 0, 65, 0, 0, .int 0) := by decide +kernel
theorem x_224_64 : Tr sc d 224 (64, [l0, l1, l2, l3, l4], [], h) Q = Tr sc d 224 (65, [l0, l1, l2, l3, l4], [.int 0], h) Q := t_go k_224_64 rfl
theorem k_224_65 : lk 224 65 = some (.istore 4, 67, 4, 0, .null) := by decide +kernel
theorem x_224_65 : Tr sc d 224 (65, [l0, l1, l2, l3, l4], [.int i0], h) Q = Tr sc d 224 (67, [l0, l1, l2, cl2 l3, some (.int i0)], [], h) Q := t_istore k_224_65 (Nat.le_of_ble_eq_true rfl)
theorem k_224_67 : lk 224 67 = some (.aload_n 0, 68, 0, 0, .null) := by decide +kernel
theorem x_224_67 : Tr sc d 224 (67, [some (.ref xk), l1, l2, l3, l4], [], h) Q = Tr sc d 224 (68, [some (.ref xk), l1, l2, l3, l4], [.ref xk], h) Q := t_aload_n k_224_67 rfl
theorem k_224_68 : lk 224 68 = some (.getfield 92, 71, 10, 47, .null) := by decide +kernel
theorem x_224_68 : Tr sc d 224 (68, [l0, l1, l2, l3, l4], [.ref k0], h) Q = (okp h k0 10 = true ∧ ∃ q, hR h k0 47 = some q ∧ Tr sc d 224 (71, [l0, l1, l2, l3, l4], [.ref q], h) Q) := t_getr k_224_68
theorem k_224_71 : lk 224 71 = some (.sipush 216, 74, 0, 0, .int 216) := by decide +kernel
theorem x_224_71 : Tr sc d 224 (71, [l0, l1, l2, l3, l4], [.ref k0], h) Q = Tr sc d 224 (74, [l0, l1, l2, l3, l4], [.int 216, .ref k0], h) Q := t_go k_224_71 rfl
theorem k_224_74 : lk 224 74 = some (.iload_n 2, 75, 2, 0, .null) := by decide +kernel
theorem x_224_74 : Tr sc d 224 (74, [l0, l1, some (.int x), l3, l4], [.int i1, .ref k0], h) Q = Tr sc d 224 (75, [l0, l1, some (.int x), l3, l4], [.int x, .int i1, .ref k0], h) Q := t_iload_n k_224_74 rfl
theorem k_224_75 : lk 224 75 = some (.imul, 76, 0, 0, .null) := by decide +kernel
theorem x_224_75 : Tr sc d 224 (75, [l0, l1, l2, l3, l4], [.int i2, .int i1, .ref k0], h) Q = Tr sc d 224 (76, [l0, l1, l2, l3, l4], [.int (i1 * i2), .ref k0], h) Q := t_go k_224_75 rfl
theorem k_224_76 : lk 224 76 = some (.iload_n 3, 77, 3, 0, .null) := by decide +kernel
theorem x_224_76 : Tr sc d 224 (76, [l0, l1, l2, some (.int x), l4], [.int i1, .ref k0], h) Q = Tr sc d 224 (77, [l0, l1, l2, some (.int x), l4], [.int x, .int i1, .ref k0], h) Q := t_iload_n k_224_76 rfl
theorem k_224_77 : lk 224 77 = some (.iadd, 78, 0, 0, .null) := by decide +kernel
theorem x_224_77 : Tr sc d 224 (77, [l0, l1, l2, l3, l4], [.int i2, .int i1, .ref k0], h) Q = Tr sc d 224 (78, [l0, l1, l2, l3, l4], [.int (i1 + i2), .ref k0], h) Q := t_go k_224_77 rfl
theorem k_224_78 : lk 224 78 = some (.iload 4, 80, 4, 0, .null) := by decide +kernel
theorem x_224_78 : Tr sc d 224 (78, [l0, l1, l2, l3, some (.int x)], [.int i1, .ref k0], h) Q = Tr sc d 224 (80, [l0, l1, l2, l3, some (.int x)], [.int x, .int i1, .ref k0], h) Q := t_iload k_224_78 rfl
theorem k_224_80 : lk 224 80 = some (.bastore, 81, 0, 0, .null) := by decide +kernel
theorem x_224_80 : Tr sc d 224 (80, [l0, l1, l2, l3, l4], [.int i2, .int i1, .ref k0], h) Q = ((okp h k0 13 && inb i1 (LN k0)) = true ∧ Tr sc d 224 (81, [l0, l1, l2, l3, l4], [], (sI h k0 i1.toNatClampNeg (vp_nar .boolean i2))) Q) := t_gd k_224_80 rfl
theorem k_224_81 : lk 224 81 = some (.iload_n 1, 82, 1, 0, .null) := by decide +kernel
theorem x_224_81 : Tr sc d 224 (81, [l0, some (.int x), l2, l3, l4], [], h) Q = Tr sc d 224 (82, [l0, some (.int x), l2, l3, l4], [.int x], h) Q := t_iload_n k_224_81 rfl
theorem k_224_82 : lk 224 82 = some (.iload 4, 84, 4, 0, .null) := by decide +kernel
theorem x_224_82 : Tr sc d 224 (82, [l0, l1, l2, l3, some (.int x)], [.int i0], h) Q = Tr sc d 224 (84, [l0, l1, l2, l3, some (.int x)], [.int x, .int i0], h) Q := t_iload k_224_82 rfl
theorem k_224_84 : lk 224 84 = some (.ifCond .eq 12, 87, 96, 0, .null) := by decide +kernel
theorem x_224_84 : Tr sc d 224 (84, [l0, l1, l2, l3, l4], [.int i1, .int i0], h) Q = if i1 = 0 then Tr sc d 224 (96, [l0, l1, l2, l3, l4], [.int i0], h) Q else Tr sc d 224 (87, [l0, l1, l2, l3, l4], [.int i0], h) Q := t_if k_224_84 rfl
theorem k_224_87 : lk 224 87 = some (.iload_n 2, 88, 2, 0, .null) := by decide +kernel
theorem x_224_87 : Tr sc d 224 (87, [l0, l1, some (.int x), l3, l4], [.int i0], h) Q = Tr sc d 224 (88, [l0, l1, some (.int x), l3, l4], [.int x, .int i0], h) Q := t_iload_n k_224_87 rfl
theorem k_224_88 : lk 224 88 = some (.iload_n 3, 89, 3, 0, .null) := by decide +kernel
theorem x_224_88 : Tr sc d 224 (88, [l0, l1, l2, some (.int x), l4], [.int i1, .int i0], h) Q = Tr sc d 224 (89, [l0, l1, l2, some (.int x), l4], [.int x, .int i1, .int i0], h) Q := t_iload_n k_224_88 rfl
theorem k_224_89 : lk 224 89 = some (.if_icmp .ge 7, 92, 96, 0, .null) := by decide +kernel
theorem x_224_89 : Tr sc d 224 (89, [l0, l1, l2, l3, l4], [.int i2, .int i1, .int i0], h) Q = if i2 ≤ i1 then Tr sc d 224 (96, [l0, l1, l2, l3, l4], [.int i0], h) Q else Tr sc d 224 (92, [l0, l1, l2, l3, l4], [.int i0], h) Q := t_if k_224_89 rfl
theorem k_224_92 : lk 224 92 = some (.iconst 1, 93, 0, 0, .int 1) := by decide +kernel
theorem x_224_92 : Tr sc d 224 (92, [l0, l1, l2, l3, l4], [.int i0], h) Q = Tr sc d 224 (93, [l0, l1, l2, l3, l4], [.int 1, .int i0], h) Q := t_go k_224_92 rfl
theorem k_224_93 : lk 224 93 = some (.goto 4, 96, 97, 0, .null) := by decide +kernel
theorem x_224_93 : Tr sc d 224 (93, [l0, l1, l2, l3, l4], [.int i1, .int i0], h) Q = Tr sc d 224 (97, [l0, l1, l2, l3, l4], [.int i1, .int i0], h) Q := t_go k_224_93 rfl
theorem k_224_96 : lk 224 96 = some (.iconst 0, 97, 0, 0, .int 0) := by decide +kernel
theorem x_224_96 : Tr sc d 224 (96, [l0, l1, l2, l3, l4], [.int i0], h) Q = Tr sc d 224 (97, [l0, l1, l2, l3, l4], [.int 0, .int i0], h) Q := t_go k_224_96 rfl
theorem k_224_97 : lk 224 97 = some (.iadd, 98, 0, 0, .null) := by decide +kernel
theorem x_224_97 : Tr sc d 224 (97, [l0, l1, l2, l3, l4], [.int i1, .int i0], h) Q = Tr sc d 224 (98, [l0, l1, l2, l3, l4], [.int (i0 + i1)], h) Q := t_go k_224_97 rfl
theorem k_224_98 : lk 224 98 = some (.istore_n 1, 99, 1, 0, .null) := by decide +kernel
theorem x_224_98 : Tr sc d 224 (98, [l0, l1, l2, l3, l4], [.int i0], h) Q = Tr sc d 224 (99, [cl2 l0, some (.int i0), l2, l3, l4], [], h) Q := t_istore_n k_224_98 (Nat.le_of_ble_eq_true rfl)
theorem k_224_99 : lk 224 99 = some (.iinc 3 1, 102, 3, 0, .int 1) := by decide +kernel
theorem x_224_99 : Tr sc d 224 (99, [l0, l1, l2, some (.int x), l4], [], h) Q = Tr sc d 224 (102, [l0, l1, cl2 l2, some (.int (x + 1)), l4], [], h) Q := t_inc k_224_99 rfl (Nat.le_of_ble_eq_true rfl)
theorem k_224_102 : lk 224 102 = some (.goto (-88), 105, 14, 0, .null) := by decide +kernel
theorem x_224_102 : Tr sc d 224 (102, [l0, l1, l2, l3, l4], [], h) Q = Tr sc d 224 (14, [l0, l1, l2, l3, l4], [], h) Q := t_go k_224_102 rfl
theorem k_224_105 : lk 224 105 = some (.iinc 2 1, 108, 2, 0, .int 1) := by decide +kernel
theorem x_224_105 : Tr sc d 224 (105, [l0, l1, some (.int x), l3, l4], [], h) Q = Tr sc d 224 (108, [l0, cl2 l1, some (.int (x + 1)), l3, l4], [], h) Q := t_inc k_224_105 rfl (Nat.le_of_ble_eq_true rfl)
theorem k_224_108 : lk 224 108 = some (.goto (-104), 111, 4, 0, .null) := by decide +kernel
theorem x_224_108 : Tr sc d 224 (108, [l0, l1, l2, l3, l4], [], h) Q = Tr sc d 224 (4, [l0, l1, l2, l3, l4], [], h) Q := t_go k_224_108 rfl
theorem k_224_111 : lk 224 111 = some (.iload_n 1, 112, 1, 0, .null) := by decide +kernel
theorem x_224_111 : Tr sc d 224 (111, [l0, some (.int x), l2, l3, l4], [], h) Q = Tr sc d 224 (112, [l0, some (.int x), l2, l3, l4], [.int x], h) Q := t_iload_n k_224_111 rfl
theorem k_224_112 : lk 224 112 = some (.ireturn, 113, 0, 0, .null) := by decide +kernel
theorem x_224_112 : Tr sc d 224 (112, [l0, l1, l2, l3, l4], [.int i0], h) Q = Q (some (.int i0), h) := t_ret k_224_112 (by rw [r_224]; rfl)
theorem e_224 : Tr sc d 224 (ent0 224 [.ref k0] h) Q = Tr sc d 224 (0, [some (.ref k0), none, none, none, none], [], h) Q := by
  have e : mL 224 = 5 := by decide +kernel
  unfold ent0
  rw [e]
  rfl
theorem r_225 : mR 225 = some .int := by decide +kernel
theorem k_225_0 : lk 225 0 = some (.iconst 0, 1, 0, 0, .int 0) := by decide +kernel
theorem x_225_0 : Tr sc d 225 (0, [l0, l1, l2, l3], [], h) Q = Tr sc d 225 (1, [l0, l1, l2, l3], [.int 0], h) Q := t_go k_225_0 rfl
theorem k_225_1 : lk 225 1 = some (.istore_n 2, 2, 2, 0, .null) := by decide +kernel
theorem x_225_1 : Tr sc d 225 (1, [l0, l1, l2, l3], [.int i0], h) Q = Tr sc d 225 (2, [l0, cl2 l1, some (.int i0), l3], [], h) Q := t_istore_n k_225_1 (Nat.le_of_ble_eq_true rfl)
theorem k_225_2 : lk 225 2 = some (.iconst 0, 3, 0, 0, .int 0) := by decide +kernel
theorem x_225_2 : Tr sc d 225 (2, [l0, l1, l2, l3], [], h) Q = Tr sc d 225 (3, [l0, l1, l2, l3], [.int 0], h) Q := t_go k_225_2 rfl
theorem k_225_3 : lk 225 3 = some (.istore_n 3, 4, 3, 0, .null) := by decide +kernel
theorem x_225_3 : Tr sc d 225 (3, [l0, l1, l2, l3], [.int i0], h) Q = Tr sc d 225 (4, [l0, l1, cl2 l2, some (.int i0)], [], h) Q := t_istore_n k_225_3 (Nat.le_of_ble_eq_true rfl)
theorem k_225_4 : lk 225 4 = some (.iload_n 3, 5, 3, 0, .null) := by decide +kernel
theorem x_225_4 : Tr sc d 225 (4, [l0, l1, l2, some (.int x)], [], h) Q = Tr sc d 225 (5, [l0, l1, l2, some (.int x)], [.int x], h) Q := t_iload_n k_225_4 rfl
theorem k_225_5 : lk 225 5 = some (.aload_n 0, 6, 0, 0, .null) := by decide +kernel
theorem x_225_5 : Tr sc d 225 (5, [some (.ref xk), l1, l2, l3], [.int i0], h) Q = Tr sc d 225 (6, [some (.ref xk), l1, l2, l3], [.ref xk, .int i0], h) Q := t_aload_n k_225_5 rfl
theorem k_225_6 : lk 225 6 = some (.getfield 283, 9, 10, 36, .int 0) := by decide +kernel
theorem x_225_6 : Tr sc d 225 (6, [l0, l1, l2, l3], [.ref k1, .int i0], h) Q = (okp h k1 10 = true ∧ Tr sc d 225 (9, [l0, l1, l2, l3], [.int (hI h k1 36), .int i0], h) Q) := t_gd k_225_6 rfl
theorem k_225_9 : lk 225 9 = some (.if_icmp .ge 25, 12, 34, 0, .null) := by decide +kernel
theorem x_225_9 : Tr sc d 225 (9, [l0, l1, l2, l3], [.int i1, .int i0], h) Q = if i1 ≤ i0 then Tr sc d 225 (34, [l0, l1, l2, l3], [], h) Q else Tr sc d 225 (12, [l0, l1, l2, l3], [], h) Q := t_if k_225_9 rfl
theorem k_225_12 : lk 225 12 = some (.aload_n 0, 13, 0, 0, .null) := by decide +kernel
theorem x_225_12 : Tr sc d 225 (12, [some (.ref xk), l1, l2, l3], [], h) Q = Tr sc d 225 (13, [some (.ref xk), l1, l2, l3], [.ref xk], h) Q := t_aload_n k_225_12 rfl
theorem k_225_13 : lk 225 13 = some (.getfield 95, 16, 10, 48, .null) := by decide +kernel
theorem x_225_13 : Tr sc d 225 (13, [l0, l1, l2, l3], [.ref k0], h) Q = (okp h k0 10 = true ∧ ∃ q, hR h k0 48 = some q ∧ Tr sc d 225 (16, [l0, l1, l2, l3], [.ref q], h) Q) := t_getr k_225_13
theorem k_225_16 : lk 225 16 = some (.iload_n 3, 17, 3, 0, .null) := by decide +kernel
theorem x_225_16 : Tr sc d 225 (16, [l0, l1, l2, some (.int x)], [.ref k0], h) Q = Tr sc d 225 (17, [l0, l1, l2, some (.int x)], [.int x, .ref k0], h) Q := t_iload_n k_225_16 rfl
theorem k_225_17 : lk 225 17 = some (.iload_n 3, 18, 3, 0, .null) := by decide +kernel
theorem x_225_17 : Tr sc d 225 (17, [l0, l1, l2, some (.int x)], [.int i1, .ref k0], h) Q = Tr sc d 225 (18, [l0, l1, l2, some (.int x)], [.int x, .int i1, .ref k0], h) Q := t_iload_n k_225_17 rfl
theorem k_225_18 : lk 225 18 = some (.iload_n 1, 19, 1, 0, .null) := by decide +kernel
theorem x_225_18 : Tr sc d 225 (18, [l0, some (.int x), l2, l3], [.int i2, .int i1, .ref k0], h) Q = Tr sc d 225 (19, [l0, some (.int x), l2, l3], [.int x, .int i2, .int i1, .ref k0], h) Q := t_iload_n k_225_18 rfl
theorem k_225_19 : lk 225 19 = some (.if_icmp .ne 7, 22, 26, 0, .null) := by decide +kernel
theorem x_225_19 : Tr sc d 225 (19, [l0, l1, l2, l3], [.int i3, .int i2, .int i1, .ref k0], h) Q = if i2 = i3 then Tr sc d 225 (22, [l0, l1, l2, l3], [.int i1, .ref k0], h) Q else Tr sc d 225 (26, [l0, l1, l2, l3], [.int i1, .ref k0], h) Q := t_if k_225_19 rfl
theorem k_225_22 : lk 225 22 = some (.iconst 1, 23, 0, 0, .int 1) := by decide +kernel
theorem x_225_22 : Tr sc d 225 (22, [l0, l1, l2, l3], [.int i1, .ref k0], h) Q = Tr sc d 225 (23, [l0, l1, l2, l3], [.int 1, .int i1, .ref k0], h) Q := t_go k_225_22 rfl
theorem k_225_23 : lk 225 23 = some (.goto 4, 26, 27, 0, .null) := by decide +kernel
theorem x_225_23 : Tr sc d 225 (23, [l0, l1, l2, l3], [.int i2, .int i1, .ref k0], h) Q = Tr sc d 225 (27, [l0, l1, l2, l3], [.int i2, .int i1, .ref k0], h) Q := t_go k_225_23 rfl
theorem k_225_26 : lk 225 26 = some (.iconst 0, 27, 0, 0, .int 0) := by decide +kernel
theorem x_225_26 : Tr sc d 225 (26, [l0, l1, l2, l3], [.int i1, .ref k0], h) Q = Tr sc d 225 (27, [l0, l1, l2, l3], [.int 0, .int i1, .ref k0], h) Q := t_go k_225_26 rfl
theorem k_225_27 : lk 225 27 = some (.bastore, 28, 0, 0, .null) := by decide +kernel
theorem x_225_27 : Tr sc d 225 (27, [l0, l1, l2, l3], [.int i2, .int i1, .ref k0], h) Q = ((okp h k0 13 && inb i1 (LN k0)) = true ∧ Tr sc d 225 (28, [l0, l1, l2, l3], [], (sI h k0 i1.toNatClampNeg (vp_nar .boolean i2))) Q) := t_gd k_225_27 rfl
theorem k_225_28 : lk 225 28 = some (.iinc 3 1, 31, 3, 0, .int 1) := by decide +kernel
theorem x_225_28 : Tr sc d 225 (28, [l0, l1, l2, some (.int x)], [], h) Q = Tr sc d 225 (31, [l0, l1, cl2 l2, some (.int (x + 1))], [], h) Q := t_inc k_225_28 rfl (Nat.le_of_ble_eq_true rfl)
theorem k_225_31 : lk 225 31 = some (.goto (-27), 34, 4, 0, .null) := by decide +kernel
theorem x_225_31 : Tr sc d 225 (31, [l0, l1, l2, l3], [], h) Q = Tr sc d 225 (4, [l0, l1, l2, l3], [], h) Q := t_go k_225_31 rfl
theorem k_225_34 : lk 225 34 = some (.iconst 0, 35, 0, 0, .int 0) := by decide +kernel
theorem x_225_34 : Tr sc d 225 (34, [l0, l1, l2, l3], [], h) Q = Tr sc d 225 (35, [l0, l1, l2, l3], [.int 0], h) Q := t_go k_225_34 rfl
theorem k_225_35 : lk 225 35 = some (.istore_n 3, 36, 3, 0, .null) := by decide +kernel
theorem x_225_35 : Tr sc d 225 (35, [l0, l1, l2, l3], [.int i0], h) Q = Tr sc d 225 (36, [l0, l1, cl2 l2, some (.int i0)], [], h) Q := t_istore_n k_225_35 (Nat.le_of_ble_eq_true rfl)
theorem k_225_36 : lk 225 36 = some (.iload_n 3, 37, 3, 0, .null) := by decide +kernel
theorem x_225_36 : Tr sc d 225 (36, [l0, l1, l2, some (.int x)], [], h) Q = Tr sc d 225 (37, [l0, l1, l2, some (.int x)], [.int x], h) Q := t_iload_n k_225_36 rfl
theorem k_225_37 : lk 225 37 = some (.aload_n 0, 38, 0, 0, .null) := by decide +kernel
theorem x_225_37 : Tr sc d 225 (37, [some (.ref xk), l1, l2, l3], [.int i0], h) Q = Tr sc d 225 (38, [some (.ref xk), l1, l2, l3], [.ref xk, .int i0], h) Q := t_aload_n k_225_37 rfl
theorem k_225_38 : lk 225 38 = some (.getfield 283, 41, 10, 36, .int 0) := by decide +kernel
theorem x_225_38 : Tr sc d 225 (38, [l0, l1, l2, l3], [.ref k1, .int i0], h) Q = (okp h k1 10 = true ∧ Tr sc d 225 (41, [l0, l1, l2, l3], [.int (hI h k1 36), .int i0], h) Q) := t_gd k_225_38 rfl
theorem k_225_41 : lk 225 41 = some (.if_icmp .ge 26, 44, 67, 0, .null) := by decide +kernel
theorem x_225_41 : Tr sc d 225 (41, [l0, l1, l2, l3], [.int i1, .int i0], h) Q = if i1 ≤ i0 then Tr sc d 225 (67, [l0, l1, l2, l3], [], h) Q else Tr sc d 225 (44, [l0, l1, l2, l3], [], h) Q := t_if k_225_41 rfl
theorem k_225_44 : lk 225 44 = some (.aload_n 0, 45, 0, 0, .null) := by decide +kernel
theorem x_225_44 : Tr sc d 225 (44, [some (.ref xk), l1, l2, l3], [], h) Q = Tr sc d 225 (45, [some (.ref xk), l1, l2, l3], [.ref xk], h) Q := t_aload_n k_225_44 rfl
theorem k_225_45 : lk 225 45 = some (.getfield 95, 48, 10, 48, .null) := by decide +kernel
theorem x_225_45 : Tr sc d 225 (45, [l0, l1, l2, l3], [.ref k0], h) Q = (okp h k0 10 = true ∧ ∃ q, hR h k0 48 = some q ∧ Tr sc d 225 (48, [l0, l1, l2, l3], [.ref q], h) Q) := t_getr k_225_45
theorem k_225_48 : lk 225 48 = some (.iload_n 3, 49, 3, 0, .null) := by decide +kernel
theorem x_225_48 : Tr sc d 225 (48, [l0, l1, l2, some (.int x)], [.ref k0], h) Q = Tr sc d 225 (49, [l0, l1, l2, some (.int x)], [.int x, .ref k0], h) Q := t_iload_n k_225_48 rfl
theorem k_225_49 : lk 225 49 = some (.baload, 50, 0, 0, .null) := by decide +kernel
theorem x_225_49 : Tr sc d 225 (49, [l0, l1, l2, l3], [.int i1, .ref k0], h) Q = ((okp h k0 13 && inb i1 (LN k0)) = true ∧ Tr sc d 225 (50, [l0, l1, l2, l3], [.int (hI h k0 i1.toNatClampNeg)], h) Q) := t_gd k_225_49 rfl
theorem k_225_50 : lk 225 50 = some (.ifCond .ne 11, 53, 61, 0, .null) := by decide +kernel
theorem x_225_50 : Tr sc d 225 (50, [l0, l1, l2, l3], [.int i0], h) Q = if i0 = 0 then Tr sc d 225 (53, [l0, l1, l2, l3], [], h) Q else Tr sc d 225 (61, [l0, l1, l2, l3], [], h) Q := t_if k_225_50 rfl
theorem k_225_53 : lk 225 53 = some (.iinc 2 1, 56, 2, 0, .int 1) := by decide +kernel
theorem x_225_53 : Tr sc d 225 (53, [l0, l1, some (.int x), l3], [], h) Q = Tr sc d 225 (56, [l0, cl2 l1, some (.int (x + 1)), l3], [], h) Q := t_inc k_225_53 rfl (Nat.le_of_ble_eq_true rfl)
theorem k_225_56 : lk 225 56 = some (.aload_n 0, 57, 0, 0, .null) := by decide +kernel
theorem x_225_56 : Tr sc d 225 (56, [some (.ref xk), l1, l2, l3], [], h) Q = Tr sc d 225 (57, [some (.ref xk), l1, l2, l3], [.ref xk], h) Q := t_aload_n k_225_56 rfl
theorem k_225_57 : lk 225 57 = some (.iload_n 3, 58, 3, 0, .null) := by decide +kernel
theorem x_225_57 : Tr sc d 225 (57, [l0, l1, l2, some (.int x)], [.ref k0], h) Q = Tr sc d 225 (58, [l0, l1, l2, some (.int x)], [.int x, .ref k0], h) Q := t_iload_n k_225_57 rfl
theorem k_225_58 : lk 225 58 = some (.invokevirtual 333, 61, 226, 1, .null) := by decide +kernel
theorem x_225_58 : Tr sc (d + 1) 225 (58, [l0, l1, l2, l3], [.int i1, .ref k0], h) Q = (okp h k0 10 = true ∧ Tr sc d 226 (ent0 226 [.ref k0, .int i1] h) (fun z => Tr sc (d + 1) 225 (61, [l0, l1, l2, l3], z.1.toList ++ [], z.2) Q)) := t_cv (as := [.int i1]) (r := []) k_225_58 rfl rfl (Nat.le_of_ble_eq_true rfl) (Nat.le_of_ble_eq_true rfl) (Nat.le_of_ble_eq_true rfl)
theorem k_225_61 : lk 225 61 = some (.iinc 3 1, 64, 3, 0, .int 1) := by decide +kernel
theorem x_225_61 : Tr sc d 225 (61, [l0, l1, l2, some (.int x)], [], h) Q = Tr sc d 225 (64, [l0, l1, cl2 l2, some (.int (x + 1))], [], h) Q := t_inc k_225_61 rfl (Nat.le_of_ble_eq_true rfl)
theorem k_225_64 : lk 225 64 = some (.goto (-28), 67, 36, 0, .null) := by decide +kernel
theorem x_225_64 : Tr sc d 225 (64, [l0, l1, l2, l3], [], h) Q = Tr sc d 225 (36, [l0, l1, l2, l3], [], h) Q := t_go k_225_64 rfl
theorem k_225_67 : lk 225 67 = some (.iload_n 2, 68, 2, 0, .null) := by decide +kernel
theorem x_225_67 : Tr sc d 225 (67, [l0, l1, some (.int x), l3], [], h) Q = Tr sc d 225 (68, [l0, l1, some (.int x), l3], [.int x], h) Q := t_iload_n k_225_67 rfl
theorem k_225_68 : lk 225 68 = some (.ireturn, 69, 0, 0, .null) := by decide +kernel
theorem x_225_68 : Tr sc d 225 (68, [l0, l1, l2, l3], [.int i0], h) Q = Q (some (.int i0), h) := t_ret k_225_68 (by rw [r_225]; rfl)
theorem e_225 : Tr sc d 225 (ent0 225 [.ref k0, .int i1] h) Q = Tr sc d 225 (0, [some (.ref k0), some (.int i1), none, none], [], h) Q := by
  have e : mL 225 = 4 := by decide +kernel
  unfold ent0
  rw [e]
  rfl
theorem r_226 : mR 226 = none := by decide +kernel
theorem k_226_0 : lk 226 0 = some (.iconst 1, 1, 0, 0, .int 1) := by decide +kernel
theorem x_226_0 : Tr sc d 226 (0, [l0, l1, l2, l3, l4], [], h) Q = Tr sc d 226 (1, [l0, l1, l2, l3, l4], [.int 1], h) Q := t_go k_226_0 rfl
theorem k_226_1 : lk 226 1 = some (.istore_n 2, 2, 2, 0, .null) := by decide +kernel
theorem x_226_1 : Tr sc d 226 (1, [l0, l1, l2, l3, l4], [.int i0], h) Q = Tr sc d 226 (2, [l0, cl2 l1, some (.int i0), l3, l4], [], h) Q := t_istore_n k_226_1 (Nat.le_of_ble_eq_true rfl)
theorem k_226_2 : lk 226 2 = some (.aload_n 0, 3, 0, 0, .null) := by decide +kernel
theorem x_226_2 : Tr sc d 226 (2, [some (.ref xk), l1, l2, l3, l4], [], h) Q = Tr sc d 226 (3, [some (.ref xk), l1, l2, l3, l4], [.ref xk], h) Q := t_aload_n k_226_2 rfl
theorem k_226_3 : lk 226 3 = some (.getfield 98, 6, 10, 49, .null) := by decide +kernel
theorem x_226_3 : Tr sc d 226 (3, [l0, l1, l2, l3, l4], [.ref k0], h) Q = (okp h k0 10 = true ∧ ∃ q, hR h k0 49 = some q ∧ Tr sc d 226 (6, [l0, l1, l2, l3, l4], [.ref q], h) Q) := t_getr k_226_3
theorem k_226_6 : lk 226 6 = some (.iconst 0, 7, 0, 0, .int 0) := by decide +kernel
theorem x_226_6 : Tr sc d 226 (6, [l0, l1, l2, l3, l4], [.ref k0], h) Q = Tr sc d 226 (7, [l0, l1, l2, l3, l4], [.int 0, .ref k0], h) Q := t_go k_226_6 rfl
theorem k_226_7 : lk 226 7 = some (.iload_n 1, 8, 1, 0, .null) := by decide +kernel
theorem x_226_7 : Tr sc d 226 (7, [l0, some (.int x), l2, l3, l4], [.int i1, .ref k0], h) Q = Tr sc d 226 (8, [l0, some (.int x), l2, l3, l4], [.int x, .int i1, .ref k0], h) Q := t_iload_n k_226_7 rfl
theorem k_226_8 : lk 226 8 = some (.iastore, 9, 0, 0, .null) := by decide +kernel
theorem x_226_8 : Tr sc d 226 (8, [l0, l1, l2, l3, l4], [.int i2, .int i1, .ref k0], h) Q = ((okp h k0 11 && inb i1 (LN k0)) = true ∧ Tr sc d 226 (9, [l0, l1, l2, l3, l4], [], (sI h k0 i1.toNatClampNeg i2)) Q) := t_gd k_226_8 rfl
theorem k_226_9 : lk 226 9 = some (.aload_n 0, 10, 0, 0, .null) := by decide +kernel
theorem x_226_9 : Tr sc d 226 (9, [some (.ref xk), l1, l2, l3, l4], [], h) Q = Tr sc d 226 (10, [some (.ref xk), l1, l2, l3, l4], [.ref xk], h) Q := t_aload_n k_226_9 rfl
theorem k_226_10 : lk 226 10 = some (.getfield 95, 13, 10, 48, .null) := by decide +kernel
theorem x_226_10 : Tr sc d 226 (10, [l0, l1, l2, l3, l4], [.ref k0], h) Q = (okp h k0 10 = true ∧ ∃ q, hR h k0 48 = some q ∧ Tr sc d 226 (13, [l0, l1, l2, l3, l4], [.ref q], h) Q) := t_getr k_226_10
theorem k_226_13 : lk 226 13 = some (.iload_n 1, 14, 1, 0, .null) := by decide +kernel
theorem x_226_13 : Tr sc d 226 (13, [l0, some (.int x), l2, l3, l4], [.ref k0], h) Q = Tr sc d 226 (14, [l0, some (.int x), l2, l3, l4], [.int x, .ref k0], h) Q := t_iload_n k_226_13 rfl
theorem k_226_14 : lk 226 14 = some (.iconst 1, 15, 0, 0, .int 1) := by decide +kernel
theorem x_226_14 : Tr sc d 226 (14, [l0, l1, l2, l3, l4], [.int i1, .ref k0], h) Q = Tr sc d 226 (15, [l0, l1, l2, l3, l4], [.int 1, .int i1, .ref k0], h) Q := t_go k_226_14 rfl
theorem k_226_15 : lk 226 15 = some (.bastore, 16, 0, 0, .null) := by decide +kernel
theorem x_226_15 : Tr sc d 226 (15, [l0, l1, l2, l3, l4], [.int i2, .int i1, .ref k0], h) Q = ((okp h k0 13 && inb i1 (LN k0)) = true ∧ Tr sc d 226 (16, [l0, l1, l2, l3, l4], [], (sI h k0 i1.toNatClampNeg (vp_nar .boolean i2))) Q) := t_gd k_226_15 rfl
theorem k_226_16 : lk 226 16 = some (.iconst 0, 17, 0, 0, .int 0) := by decide +kernel
theorem x_226_16 : Tr sc d 226 (16, [l0, l1, l2, l3, l4], [], h) Q = Tr sc d 226 (17, [l0, l1, l2, l3, l4], [.int 0], h) Q := t_go k_226_16 rfl
theorem k_226_17 : lk 226 17 = some (.istore_n 3, 18, 3, 0, .null) := by decide +kernel
theorem x_226_17 : Tr sc d 226 (17, [l0, l1, l2, l3, l4], [.int i0], h) Q = Tr sc d 226 (18, [l0, l1, cl2 l2, some (.int i0), l4], [], h) Q := t_istore_n k_226_17 (Nat.le_of_ble_eq_true rfl)
theorem k_226_18 : lk 226 18 = some (.iload_n 3, 19, 3, 0, .null) := by decide +kernel
theorem x_226_18 : Tr sc d 226 (18, [l0, l1, l2, some (.int x), l4], [], h) Q = Tr sc d 226 (19, [l0, l1, l2, some (.int x), l4], [.int x], h) Q := t_iload_n k_226_18 rfl
theorem k_226_19 : lk 226 19 = some (.iload_n 2, 20, 2, 0, .null) := by decide +kernel
theorem x_226_19 : Tr sc d 226 (19, [l0, l1, some (.int x), l3, l4], [.int i0], h) Q = Tr sc d 226 (20, [l0, l1, some (.int x), l3, l4], [.int x, .int i0], h) Q := t_iload_n k_226_19 rfl
theorem k_226_20 : lk 226 20 = some (.if_icmp .ge 77, 23, 97, 0, .null) := by decide +kernel
theorem x_226_20 : Tr sc d 226 (20, [l0, l1, l2, l3, l4], [.int i1, .int i0], h) Q = if i1 ≤ i0 then Tr sc d 226 (97, [l0, l1, l2, l3, l4], [], h) Q else Tr sc d 226 (23, [l0, l1, l2, l3, l4], [], h) Q := t_if k_226_20 rfl
theorem k_226_23 : lk 226 23 = some (.iconst 0, 24, 0, 0, .int 0) := by decide +kernel
theorem x_226_23 : Tr sc d 226 (23, [l0, l1, l2, l3, l4], [], h) Q = Tr sc d 226 (24, [l0, l1, l2, l3, l4], [.int 0], h) Q := t_go k_226_23 rfl
theorem k_226_24 : lk 226 24 = some (.istore 4, 26, 4, 0, .null) := by decide +kernel
theorem x_226_24 : Tr sc d 226 (24, [l0, l1, l2, l3, l4], [.int i0], h) Q = Tr sc d 226 (26, [l0, l1, l2, cl2 l3, some (.int i0)], [], h) Q := t_istore k_226_24 (Nat.le_of_ble_eq_true rfl)
theorem k_226_26 : lk 226 26 = some (.iload 4, 28, 4, 0, .null) := by decide +kernel
theorem x_226_26 : Tr sc d 226 (26, [l0, l1, l2, l3, some (.int x)], [], h) Q = Tr sc d 226 (28, [l0, l1, l2, l3, some (.int x)], [.int x], h) Q := t_iload k_226_26 rfl
theorem k_226_28 : lk 226 28 = some (.aload_n 0, 29, 0, 0, .null) := by decide +kernel
theorem x_226_28 : Tr sc d 226 (28, [some (.ref xk), l1, l2, l3, l4], [.int i0], h) Q = Tr sc d 226 (29, [some (.ref xk), l1, l2, l3, l4], [.ref xk, .int i0], h) Q := t_aload_n k_226_28 rfl
theorem k_226_29 : lk 226 29 = some (.getfield 283, 32, 10, 36, .int 0) := by decide +kernel
theorem x_226_29 : Tr sc d 226 (29, [l0, l1, l2, l3, l4], [.ref k1, .int i0], h) Q = (okp h k1 10 = true ∧ Tr sc d 226 (32, [l0, l1, l2, l3, l4], [.int (hI h k1 36), .int i0], h) Q) := t_gd k_226_29 rfl
theorem k_226_32 : lk 226 32 = some (.if_icmp .ge 59, 35, 91, 0, .null) := by decide +kernel
theorem x_226_32 : Tr sc d 226 (32, [l0, l1, l2, l3, l4], [.int i1, .int i0], h) Q = if i1 ≤ i0 then Tr sc d 226 (91, [l0, l1, l2, l3, l4], [], h) Q else Tr sc d 226 (35, [l0, l1, l2, l3, l4], [], h) Q := t_if k_226_32 rfl
theorem k_226_35 : lk 226 35 = some (.aload_n 0, 36, 0, 0, .null) := by decide +kernel
theorem x_226_35 : Tr sc d 226 (35, [some (.ref xk), l1, l2, l3, l4], [], h) Q = Tr sc d 226 (36, [some (.ref xk), l1, l2, l3, l4], [.ref xk], h) Q := t_aload_n k_226_35 rfl
theorem k_226_36 : lk 226 36 = some (.getfield 92, 39, 10, 47, .null) := by decide +kernel
theorem x_226_36 : Tr sc d 226 (36, [l0, l1, l2, l3, l4], [.ref k0], h) Q = (okp h k0 10 = true ∧ ∃ q, hR h k0 47 = some q ∧ Tr sc d 226 (39, [l0, l1, l2, l3, l4], [.ref q], h) Q) := t_getr k_226_36
theorem k_226_39 : lk 226 39 = some (.sipush 216, 42, 0, 0, .int 216) := by decide +kernel
theorem x_226_39 : Tr sc d 226 (39, [l0, l1, l2, l3, l4], [.ref k0], h) Q = Tr sc d 226 (42, [l0, l1, l2, l3, l4], [.int 216, .ref k0], h) Q := t_go k_226_39 rfl
theorem k_226_42 : lk 226 42 = some (.aload_n 0, 43, 0, 0, .null) := by decide +kernel
theorem x_226_42 : Tr sc d 226 (42, [some (.ref xk), l1, l2, l3, l4], [.int i1, .ref k0], h) Q = Tr sc d 226 (43, [some (.ref xk), l1, l2, l3, l4], [.ref xk, .int i1, .ref k0], h) Q := t_aload_n k_226_42 rfl
theorem k_226_43 : lk 226 43 = some (.getfield 98, 46, 10, 49, .null) := by decide +kernel
theorem x_226_43 : Tr sc d 226 (43, [l0, l1, l2, l3, l4], [.ref k2, .int i1, .ref k0], h) Q = (okp h k2 10 = true ∧ ∃ q, hR h k2 49 = some q ∧ Tr sc d 226 (46, [l0, l1, l2, l3, l4], [.ref q, .int i1, .ref k0], h) Q) := t_getr k_226_43
theorem k_226_46 : lk 226 46 = some (.iload_n 3, 47, 3, 0, .null) := by decide +kernel
theorem x_226_46 : Tr sc d 226 (46, [l0, l1, l2, some (.int x), l4], [.ref k2, .int i1, .ref k0], h) Q = Tr sc d 226 (47, [l0, l1, l2, some (.int x), l4], [.int x, .ref k2, .int i1, .ref k0], h) Q := t_iload_n k_226_46 rfl
theorem k_226_47 : lk 226 47 = some (.iaload, 48, 0, 0, .null) := by decide +kernel
theorem x_226_47 : Tr sc d 226 (47, [l0, l1, l2, l3, l4], [.int i3, .ref k2, .int i1, .ref k0], h) Q = (iOk sc h k2 i3 ∧ Tr sc d 226 (48, [l0, l1, l2, l3, l4], [.int (iRd sc h k2 i3), .int i1, .ref k0], h) Q) := t_iald k_226_47
theorem k_226_48 : lk 226 48 = some (.imul, 49, 0, 0, .null) := by decide +kernel
theorem x_226_48 : Tr sc d 226 (48, [l0, l1, l2, l3, l4], [.int i2, .int i1, .ref k0], h) Q = Tr sc d 226 (49, [l0, l1, l2, l3, l4], [.int (i1 * i2), .ref k0], h) Q := t_go k_226_48 rfl
theorem k_226_49 : lk 226 49 = some (.iload 4, 51, 4, 0, .null) := by decide +kernel
theorem x_226_49 : Tr sc d 226 (49, [l0, l1, l2, l3, some (.int x)], [.int i1, .ref k0], h) Q = Tr sc d 226 (51, [l0, l1, l2, l3, some (.int x)], [.int x, .int i1, .ref k0], h) Q := t_iload k_226_49 rfl
theorem k_226_51 : lk 226 51 = some (.iadd, 52, 0, 0, .null) := by decide +kernel
theorem x_226_51 : Tr sc d 226 (51, [l0, l1, l2, l3, l4], [.int i2, .int i1, .ref k0], h) Q = Tr sc d 226 (52, [l0, l1, l2, l3, l4], [.int (i1 + i2), .ref k0], h) Q := t_go k_226_51 rfl
theorem k_226_52 : lk 226 52 = some (.baload, 53, 0, 0, .null) := by decide +kernel
theorem x_226_52 : Tr sc d 226 (52, [l0, l1, l2, l3, l4], [.int i1, .ref k0], h) Q = ((okp h k0 13 && inb i1 (LN k0)) = true ∧ Tr sc d 226 (53, [l0, l1, l2, l3, l4], [.int (hI h k0 i1.toNatClampNeg)], h) Q) := t_gd k_226_52 rfl
theorem k_226_53 : lk 226 53 = some (.ifCond .eq 32, 56, 85, 0, .null) := by decide +kernel
theorem x_226_53 : Tr sc d 226 (53, [l0, l1, l2, l3, l4], [.int i0], h) Q = if i0 = 0 then Tr sc d 226 (85, [l0, l1, l2, l3, l4], [], h) Q else Tr sc d 226 (56, [l0, l1, l2, l3, l4], [], h) Q := t_if k_226_53 rfl
theorem k_226_56 : lk 226 56 = some (.aload_n 0, 57, 0, 0, .null) := by decide +kernel
theorem x_226_56 : Tr sc d 226 (56, [some (.ref xk), l1, l2, l3, l4], [], h) Q = Tr sc d 226 (57, [some (.ref xk), l1, l2, l3, l4], [.ref xk], h) Q := t_aload_n k_226_56 rfl
theorem k_226_57 : lk 226 57 = some (.getfield 95, 60, 10, 48, .null) := by decide +kernel
theorem x_226_57 : Tr sc d 226 (57, [l0, l1, l2, l3, l4], [.ref k0], h) Q = (okp h k0 10 = true ∧ ∃ q, hR h k0 48 = some q ∧ Tr sc d 226 (60, [l0, l1, l2, l3, l4], [.ref q], h) Q) := t_getr k_226_57
theorem k_226_60 : lk 226 60 = some (.iload 4, 62, 4, 0, .null) := by decide +kernel
theorem x_226_60 : Tr sc d 226 (60, [l0, l1, l2, l3, some (.int x)], [.ref k0], h) Q = Tr sc d 226 (62, [l0, l1, l2, l3, some (.int x)], [.int x, .ref k0], h) Q := t_iload k_226_60 rfl
theorem k_226_62 : lk 226 62 = some (.baload, 63, 0, 0, .null) := by decide +kernel
theorem x_226_62 : Tr sc d 226 (62, [l0, l1, l2, l3, l4], [.int i1, .ref k0], h) Q = ((okp h k0 13 && inb i1 (LN k0)) = true ∧ Tr sc d 226 (63, [l0, l1, l2, l3, l4], [.int (hI h k0 i1.toNatClampNeg)], h) Q) := t_gd k_226_62 rfl
theorem k_226_63 : lk 226 63 = some (.ifCond .ne 22, 66, 85, 0, .null) := by decide +kernel
theorem x_226_63 : Tr sc d 226 (63, [l0, l1, l2, l3, l4], [.int i0], h) Q = if i0 = 0 then Tr sc d 226 (66, [l0, l1, l2, l3, l4], [], h) Q else Tr sc d 226 (85, [l0, l1, l2, l3, l4], [], h) Q := t_if k_226_63 rfl
theorem k_226_66 : lk 226 66 = some (.aload_n 0, 67, 0, 0, .null) := by decide +kernel
theorem x_226_66 : Tr sc d 226 (66, [some (.ref xk), l1, l2, l3, l4], [], h) Q = Tr sc d 226 (67, [some (.ref xk), l1, l2, l3, l4], [.ref xk], h) Q := t_aload_n k_226_66 rfl
theorem k_226_67 : lk 226 67 = some (.getfield 95, 70, 10, 48, .null) := by decide +kernel
theorem x_226_67 : Tr sc d 226 (67, [l0, l1, l2, l3, l4], [.ref k0], h) Q = (okp h k0 10 = true ∧ ∃ q, hR h k0 48 = some q ∧ Tr sc d 226 (70, [l0, l1, l2, l3, l4], [.ref q], h) Q) := t_getr k_226_67
theorem k_226_70 : lk 226 70 = some (.iload 4, 72, 4, 0, .null) := by decide +kernel
theorem x_226_70 : Tr sc d 226 (70, [l0, l1, l2, l3, some (.int x)], [.ref k0], h) Q = Tr sc d 226 (72, [l0, l1, l2, l3, some (.int x)], [.int x, .ref k0], h) Q := t_iload k_226_70 rfl
theorem k_226_72 : lk 226 72 = some (.iconst 1, 73, 0, 0, .int 1) := by decide +kernel
theorem x_226_72 : Tr sc d 226 (72, [l0, l1, l2, l3, l4], [.int i1, .ref k0], h) Q = Tr sc d 226 (73, [l0, l1, l2, l3, l4], [.int 1, .int i1, .ref k0], h) Q := t_go k_226_72 rfl
theorem k_226_73 : lk 226 73 = some (.bastore, 74, 0, 0, .null) := by decide +kernel
theorem x_226_73 : Tr sc d 226 (73, [l0, l1, l2, l3, l4], [.int i2, .int i1, .ref k0], h) Q = ((okp h k0 13 && inb i1 (LN k0)) = true ∧ Tr sc d 226 (74, [l0, l1, l2, l3, l4], [], (sI h k0 i1.toNatClampNeg (vp_nar .boolean i2))) Q) := t_gd k_226_73 rfl
theorem k_226_74 : lk 226 74 = some (.aload_n 0, 75, 0, 0, .null) := by decide +kernel
theorem x_226_74 : Tr sc d 226 (74, [some (.ref xk), l1, l2, l3, l4], [], h) Q = Tr sc d 226 (75, [some (.ref xk), l1, l2, l3, l4], [.ref xk], h) Q := t_aload_n k_226_74 rfl
theorem k_226_75 : lk 226 75 = some (.getfield 98, 78, 10, 49, .null) := by decide +kernel
theorem x_226_75 : Tr sc d 226 (75, [l0, l1, l2, l3, l4], [.ref k0], h) Q = (okp h k0 10 = true ∧ ∃ q, hR h k0 49 = some q ∧ Tr sc d 226 (78, [l0, l1, l2, l3, l4], [.ref q], h) Q) := t_getr k_226_75
theorem k_226_78 : lk 226 78 = some (.iload_n 2, 79, 2, 0, .null) := by decide +kernel
theorem x_226_78 : Tr sc d 226 (78, [l0, l1, some (.int x), l3, l4], [.ref k0], h) Q = Tr sc d 226 (79, [l0, l1, some (.int x), l3, l4], [.int x, .ref k0], h) Q := t_iload_n k_226_78 rfl
theorem k_226_79 : lk 226 79 = some (.iload 4, 81, 4, 0, .null) := by decide +kernel
theorem x_226_79 : Tr sc d 226 (79, [l0, l1, l2, l3, some (.int x)], [.int i1, .ref k0], h) Q = Tr sc d 226 (81, [l0, l1, l2, l3, some (.int x)], [.int x, .int i1, .ref k0], h) Q := t_iload k_226_79 rfl
theorem k_226_81 : lk 226 81 = some (.iastore, 82, 0, 0, .null) := by decide +kernel
theorem x_226_81 : Tr sc d 226 (81, [l0, l1, l2, l3, l4], [.int i2, .int i1, .ref k0], h) Q = ((okp h k0 11 && inb i1 (LN k0)) = true ∧ Tr sc d 226 (82, [l0, l1, l2, l3, l4], [], (sI h k0 i1.toNatClampNeg i2)) Q) := t_gd k_226_81 rfl
theorem k_226_82 : lk 226 82 = some (.iinc 2 1, 85, 2, 0, .int 1) := by decide +kernel
theorem x_226_82 : Tr sc d 226 (82, [l0, l1, some (.int x), l3, l4], [], h) Q = Tr sc d 226 (85, [l0, cl2 l1, some (.int (x + 1)), l3, l4], [], h) Q := t_inc k_226_82 rfl (Nat.le_of_ble_eq_true rfl)
theorem k_226_85 : lk 226 85 = some (.iinc 4 1, 88, 4, 0, .int 1) := by decide +kernel
theorem x_226_85 : Tr sc d 226 (85, [l0, l1, l2, l3, some (.int x)], [], h) Q = Tr sc d 226 (88, [l0, l1, l2, cl2 l3, some (.int (x + 1))], [], h) Q := t_inc k_226_85 rfl (Nat.le_of_ble_eq_true rfl)
theorem k_226_88 : lk 226 88 = some (.goto (-62), 91, 26, 0, .null) := by decide +kernel
theorem x_226_88 : Tr sc d 226 (88, [l0, l1, l2, l3, l4], [], h) Q = Tr sc d 226 (26, [l0, l1, l2, l3, l4], [], h) Q := t_go k_226_88 rfl
theorem k_226_91 : lk 226 91 = some (.iinc 3 1, 94, 3, 0, .int 1) := by decide +kernel
theorem x_226_91 : Tr sc d 226 (91, [l0, l1, l2, some (.int x), l4], [], h) Q = Tr sc d 226 (94, [l0, l1, cl2 l2, some (.int (x + 1)), l4], [], h) Q := t_inc k_226_91 rfl (Nat.le_of_ble_eq_true rfl)
theorem k_226_94 : lk 226 94 = some (.goto (-76), 97, 18, 0, .null) := by decide +kernel
theorem x_226_94 : Tr sc d 226 (94, [l0, l1, l2, l3, l4], [], h) Q = Tr sc d 226 (18, [l0, l1, l2, l3, l4], [], h) Q := t_go k_226_94 rfl
theorem k_226_97 : lk 226 97 = some (.return_, 98, 0, 0, .null) := by decide +kernel
theorem x_226_97 : Tr sc d 226 (97, [l0, l1, l2, l3, l4], [], h) Q = Q (none, h) := t_ret k_226_97 (by rw [r_226]; rfl)
theorem e_226 : Tr sc d 226 (ent0 226 [.ref k0, .int i1] h) Q = Tr sc d 226 (0, [some (.ref k0), some (.int i1), none, none, none], [], h) Q := by
  have e : mL 226 = 5 := by decide +kernel
  unfold ent0
  rw [e]
  rfl
theorem r_227 : mR 227 = some .int := by decide +kernel
theorem k_227_0 : lk 227 0 = some (.iload_n 2, 1, 2, 0, .null) := by decide +kernel
theorem x_227_0 : Tr sc d 227 (0, [l0, l1, some (.int x), l3], [], h) Q = Tr sc d 227 (1, [l0, l1, some (.int x), l3], [.int x], h) Q := t_iload_n k_227_0 rfl
theorem k_227_1 : lk 227 1 = some (.iconst 0, 2, 0, 0, .int 0) := by decide +kernel
theorem x_227_1 : Tr sc d 227 (1, [l0, l1, l2, l3], [.int i0], h) Q = Tr sc d 227 (2, [l0, l1, l2, l3], [.int 0, .int i0], h) Q := t_go k_227_1 rfl
theorem k_227_2 : lk 227 2 = some (.iconst 3, 3, 0, 0, .int 3) := by decide +kernel
theorem x_227_2 : Tr sc d 227 (2, [l0, l1, l2, l3], [.int i1, .int i0], h) Q = Tr sc d 227 (3, [l0, l1, l2, l3], [.int 3, .int i1, .int i0], h) Q := t_go k_227_2 rfl
theorem k_227_3 : lk 227 3 = some (.invokestatic 144, 6, 157, 3, .null) := by decide +kernel
theorem x_227_3 : Tr sc (d + 1) 227 (3, [l0, l1, l2, l3], [.int i2, .int i1, .int i0], h) Q = Tr sc d 157 (ent0 157 [.int i0, .int i1, .int i2] h) (fun z => Tr sc (d + 1) 227 (6, [l0, l1, l2, l3], z.1.toList ++ [], z.2) Q) := t_cs (as := [.int i0, .int i1, .int i2]) (r := []) k_227_3 (by decide) rfl rfl (Nat.le_of_ble_eq_true rfl) (Nat.le_of_ble_eq_true rfl)
theorem k_227_6 : lk 227 6 = some (.ifCond .ne 5, 9, 11, 0, .null) := by decide +kernel
theorem x_227_6 : Tr sc d 227 (6, [l0, l1, l2, l3], [.int i0], h) Q = if i0 = 0 then Tr sc d 227 (9, [l0, l1, l2, l3], [], h) Q else Tr sc d 227 (11, [l0, l1, l2, l3], [], h) Q := t_if k_227_6 rfl
theorem k_227_9 : lk 227 9 = some (.iconst (-1), 10, 0, 0, .int (-1)) := by decide +kernel
theorem x_227_9 : Tr sc d 227 (9, [l0, l1, l2, l3], [], h) Q = Tr sc d 227 (10, [l0, l1, l2, l3], [.int (-1)], h) Q := t_go k_227_9 rfl
theorem k_227_10 : lk 227 10 = some (.ireturn, 11, 0, 0, .null) := by decide +kernel
theorem x_227_10 : Tr sc d 227 (10, [l0, l1, l2, l3], [.int i0], h) Q = Q (some (.int i0), h) := t_ret k_227_10 (by rw [r_227]; rfl)
theorem k_227_11 : lk 227 11 = some (.aload_n 0, 12, 0, 0, .null) := by decide +kernel
theorem x_227_11 : Tr sc d 227 (11, [some (.ref xk), l1, l2, l3], [], h) Q = Tr sc d 227 (12, [some (.ref xk), l1, l2, l3], [.ref xk], h) Q := t_aload_n k_227_11 rfl
theorem k_227_12 : lk 227 12 = some (.iload_n 1, 13, 1, 0, .null) := by decide +kernel
theorem x_227_12 : Tr sc d 227 (12, [l0, some (.int x), l2, l3], [.ref k0], h) Q = Tr sc d 227 (13, [l0, some (.int x), l2, l3], [.int x, .ref k0], h) Q := t_iload_n k_227_12 rfl
theorem k_227_13 : lk 227 13 = some (.invokevirtual 327, 16, 218, 1, .null) := by decide +kernel
theorem x_227_13 : Tr sc (d + 1) 227 (13, [l0, l1, l2, l3], [.int i1, .ref k0], h) Q = (okp h k0 10 = true ∧ Tr sc d 218 (ent0 218 [.ref k0, .int i1] h) (fun z => Tr sc (d + 1) 227 (16, [l0, l1, l2, l3], z.1.toList ++ [], z.2) Q)) := t_cv (as := [.int i1]) (r := []) k_227_13 rfl rfl (Nat.le_of_ble_eq_true rfl) (Nat.le_of_ble_eq_true rfl) (Nat.le_of_ble_eq_true rfl)
theorem k_227_16 : lk 227 16 = some (.istore_n 3, 17, 3, 0, .null) := by decide +kernel
theorem x_227_16 : Tr sc d 227 (16, [l0, l1, l2, l3], [.int i0], h) Q = Tr sc d 227 (17, [l0, l1, cl2 l2, some (.int i0)], [], h) Q := t_istore_n k_227_16 (Nat.le_of_ble_eq_true rfl)
theorem k_227_17 : lk 227 17 = some (.iload_n 3, 18, 3, 0, .null) := by decide +kernel
theorem x_227_17 : Tr sc d 227 (17, [l0, l1, l2, some (.int x)], [], h) Q = Tr sc d 227 (18, [l0, l1, l2, some (.int x)], [.int x], h) Q := t_iload_n k_227_17 rfl
theorem k_227_18 : lk 227 18 = some (.ifCond .ne 9, 21, 27, 0, .null) := by decide +kernel
theorem x_227_18 : Tr sc d 227 (18, [l0, l1, l2, l3], [.int i0], h) Q = if i0 = 0 then Tr sc d 227 (21, [l0, l1, l2, l3], [], h) Q else Tr sc d 227 (27, [l0, l1, l2, l3], [], h) Q := t_if k_227_18 rfl
theorem k_227_21 : lk 227 21 = some (.aload_n 0, 22, 0, 0, .null) := by decide +kernel
theorem x_227_21 : Tr sc d 227 (21, [some (.ref xk), l1, l2, l3], [], h) Q = Tr sc d 227 (22, [some (.ref xk), l1, l2, l3], [.ref xk], h) Q := t_aload_n k_227_21 rfl
theorem k_227_22 : lk 227 22 = some (.iload_n 1, 23, 1, 0, .null) := by decide +kernel
theorem x_227_22 : Tr sc d 227 (22, [l0, some (.int x), l2, l3], [.ref k0], h) Q = Tr sc d 227 (23, [l0, some (.int x), l2, l3], [.int x, .ref k0], h) Q := t_iload_n k_227_22 rfl
theorem k_227_23 : lk 227 23 = some (.iload_n 2, 24, 2, 0, .null) := by decide +kernel
theorem x_227_23 : Tr sc d 227 (23, [l0, l1, some (.int x), l3], [.int i1, .ref k0], h) Q = Tr sc d 227 (24, [l0, l1, some (.int x), l3], [.int x, .int i1, .ref k0], h) Q := t_iload_n k_227_23 rfl
theorem k_227_24 : lk 227 24 = some (.invokevirtual 307, 27, 204, 2, .null) := by decide +kernel
theorem x_227_24 : Tr sc (d + 1) 227 (24, [l0, l1, l2, l3], [.int i2, .int i1, .ref k0], h) Q = (okp h k0 10 = true ∧ Tr sc d 204 (ent0 204 [.ref k0, .int i1, .int i2] h) (fun z => Tr sc (d + 1) 227 (27, [l0, l1, l2, l3], z.1.toList ++ [], z.2) Q)) := t_cv (as := [.int i1, .int i2]) (r := []) k_227_24 rfl rfl (Nat.le_of_ble_eq_true rfl) (Nat.le_of_ble_eq_true rfl) (Nat.le_of_ble_eq_true rfl)
theorem k_227_27 : lk 227 27 = some (.iload_n 3, 28, 3, 0, .null) := by decide +kernel
theorem x_227_27 : Tr sc d 227 (27, [l0, l1, l2, some (.int x)], [], h) Q = Tr sc d 227 (28, [l0, l1, l2, some (.int x)], [.int x], h) Q := t_iload_n k_227_27 rfl
theorem k_227_28 : lk 227 28 = some (.ireturn, 29, 0, 0, .null) := by decide +kernel
theorem x_227_28 : Tr sc d 227 (28, [l0, l1, l2, l3], [.int i0], h) Q = Q (some (.int i0), h) := t_ret k_227_28 (by rw [r_227]; rfl)
theorem e_227 : Tr sc d 227 (ent0 227 [.ref k0, .int i1, .int i2] h) Q = Tr sc d 227 (0, [some (.ref k0), some (.int i1), some (.int i2), none], [], h) Q := by
  have e : mL 227 = 4 := by decide +kernel
  unfold ent0
  rw [e]
  rfl
theorem r_228 : mR 228 = some .int := by decide +kernel
theorem k_228_0 : lk 228 0 = some (.aload_n 0, 1, 0, 0, .null) := by decide +kernel
theorem x_228_0 : Tr sc d 228 (0, [some (.ref xk), l1, l2, l3, l4], [], h) Q = Tr sc d 228 (1, [some (.ref xk), l1, l2, l3, l4], [.ref xk], h) Q := t_aload_n k_228_0 rfl
theorem k_228_1 : lk 228 1 = some (.iload_n 1, 2, 1, 0, .null) := by decide +kernel
theorem x_228_1 : Tr sc d 228 (1, [l0, some (.int x), l2, l3, l4], [.ref k0], h) Q = Tr sc d 228 (2, [l0, some (.int x), l2, l3, l4], [.int x, .ref k0], h) Q := t_iload_n k_228_1 rfl
theorem k_228_2 : lk 228 2 = some (.iload_n 2, 3, 2, 0, .null) := by decide +kernel
theorem x_228_2 : Tr sc d 228 (2, [l0, l1, some (.int x), l3, l4], [.int i1, .ref k0], h) Q = Tr sc d 228 (3, [l0, l1, some (.int x), l3, l4], [.int x, .int i1, .ref k0], h) Q := t_iload_n k_228_2 rfl
theorem k_228_3 : lk 228 3 = some (.invokevirtual 336, 6, 227, 2, .null) := by decide +kernel
theorem x_228_3 : Tr sc (d + 1) 228 (3, [l0, l1, l2, l3, l4], [.int i2, .int i1, .ref k0], h) Q = (okp h k0 10 = true ∧ Tr sc d 227 (ent0 227 [.ref k0, .int i1, .int i2] h) (fun z => Tr sc (d + 1) 228 (6, [l0, l1, l2, l3, l4], z.1.toList ++ [], z.2) Q)) := t_cv (as := [.int i1, .int i2]) (r := []) k_228_3 rfl rfl (Nat.le_of_ble_eq_true rfl) (Nat.le_of_ble_eq_true rfl) (Nat.le_of_ble_eq_true rfl)
theorem k_228_6 : lk 228 6 = some (.istore_n 3, 7, 3, 0, .null) := by decide +kernel
theorem x_228_6 : Tr sc d 228 (6, [l0, l1, l2, l3, l4], [.int i0], h) Q = Tr sc d 228 (7, [l0, l1, cl2 l2, some (.int i0), l4], [], h) Q := t_istore_n k_228_6 (Nat.le_of_ble_eq_true rfl)
theorem k_228_7 : lk 228 7 = some (.iload_n 3, 8, 3, 0, .null) := by decide +kernel
theorem x_228_7 : Tr sc d 228 (7, [l0, l1, l2, some (.int x), l4], [], h) Q = Tr sc d 228 (8, [l0, l1, l2, some (.int x), l4], [.int x], h) Q := t_iload_n k_228_7 rfl
theorem k_228_8 : lk 228 8 = some (.ifCond .ge 5, 11, 13, 0, .null) := by decide +kernel
theorem x_228_8 : Tr sc d 228 (8, [l0, l1, l2, l3, l4], [.int i0], h) Q = if 0 ≤ i0 then Tr sc d 228 (13, [l0, l1, l2, l3, l4], [], h) Q else Tr sc d 228 (11, [l0, l1, l2, l3, l4], [], h) Q := t_if k_228_8 rfl
theorem k_228_11 : lk 228 11 = some (.iload_n 3, 12, 3, 0, .null) := by decide +kernel
theorem x_228_11 : Tr sc d 228 (11, [l0, l1, l2, some (.int x), l4], [], h) Q = Tr sc d 228 (12, [l0, l1, l2, some (.int x), l4], [.int x], h) Q := t_iload_n k_228_11 rfl
theorem k_228_12 : lk 228 12 = some (.ireturn, 13, 0, 0, .null) := by decide +kernel
theorem x_228_12 : Tr sc d 228 (12, [l0, l1, l2, l3, l4], [.int i0], h) Q = Q (some (.int i0), h) := t_ret k_228_12 (by rw [r_228]; rfl)
theorem k_228_13 : lk 228 13 = some (.aload_n 0, 14, 0, 0, .null) := by decide +kernel
theorem x_228_13 : Tr sc d 228 (13, [some (.ref xk), l1, l2, l3, l4], [], h) Q = Tr sc d 228 (14, [some (.ref xk), l1, l2, l3, l4], [.ref xk], h) Q := t_aload_n k_228_13 rfl
theorem k_228_14 : lk 228 14 = some (.invokevirtual 339, 17, 224, 0, .null) := by decide +kernel
theorem x_228_14 : Tr sc (d + 1) 228 (14, [l0, l1, l2, l3, l4], [.ref k0], h) Q = (okp h k0 10 = true ∧ Tr sc d 224 (ent0 224 [.ref k0] h) (fun z => Tr sc (d + 1) 228 (17, [l0, l1, l2, l3, l4], z.1.toList ++ [], z.2) Q)) := t_cv (as := []) (r := []) k_228_14 rfl rfl (Nat.le_of_ble_eq_true rfl) (Nat.le_of_ble_eq_true rfl) (Nat.le_of_ble_eq_true rfl)
theorem k_228_17 : lk 228 17 = some (.istore 4, 19, 4, 0, .null) := by decide +kernel
theorem x_228_17 : Tr sc d 228 (17, [l0, l1, l2, l3, l4], [.int i0], h) Q = Tr sc d 228 (19, [l0, l1, l2, cl2 l3, some (.int i0)], [], h) Q := t_istore k_228_17 (Nat.le_of_ble_eq_true rfl)
theorem k_228_19 : lk 228 19 = some (.aload_n 0, 20, 0, 0, .null) := by decide +kernel
theorem x_228_19 : Tr sc d 228 (19, [some (.ref xk), l1, l2, l3, l4], [], h) Q = Tr sc d 228 (20, [some (.ref xk), l1, l2, l3, l4], [.ref xk], h) Q := t_aload_n k_228_19 rfl
theorem k_228_20 : lk 228 20 = some (.aload_n 0, 21, 0, 0, .null) := by decide +kernel
theorem x_228_20 : Tr sc d 228 (20, [some (.ref xk), l1, l2, l3, l4], [.ref k0], h) Q = Tr sc d 228 (21, [some (.ref xk), l1, l2, l3, l4], [.ref xk, .ref k0], h) Q := t_aload_n k_228_20 rfl
theorem k_228_21 : lk 228 21 = some (.bipush (-9), 23, 0, 0, .int (-9)) := by decide +kernel
theorem x_228_21 : Tr sc d 228 (21, [l0, l1, l2, l3, l4], [.ref k1, .ref k0], h) Q = Tr sc d 228 (23, [l0, l1, l2, l3, l4], [.int (-9), .ref k1, .ref k0], h) Q := t_go k_228_21 rfl
theorem k_228_23 : lk 228 23 = some (.invokevirtual 343, 26, 225, 1, .null) := by decide +kernel
theorem x_228_23 : Tr sc (d + 1) 228 (23, [l0, l1, l2, l3, l4], [.int i2, .ref k1, .ref k0], h) Q = (okp h k1 10 = true ∧ Tr sc d 225 (ent0 225 [.ref k1, .int i2] h) (fun z => Tr sc (d + 1) 228 (26, [l0, l1, l2, l3, l4], z.1.toList ++ [.ref k0], z.2) Q)) := t_cv (as := [.int i2]) (r := [.ref k0]) k_228_23 rfl rfl (Nat.le_of_ble_eq_true rfl) (Nat.le_of_ble_eq_true rfl) (Nat.le_of_ble_eq_true rfl)
theorem k_228_26 : lk 228 26 = some (.i2l, 27, 0, 0, .null) := by decide +kernel
theorem x_228_26 : Tr sc d 228 (26, [l0, l1, l2, l3, l4], [.int i1, .ref k0], h) Q = Tr sc d 228 (27, [l0, l1, l2, l3, l4], [.long i1.toInt64, .ref k0], h) Q := t_go k_228_26 rfl
theorem k_228_27 : lk 228 27 = some (.putfield 267, 30, 10, 3, .long 0) := by decide +kernel
theorem x_228_27 : Tr sc d 228 (27, [l0, l1, l2, l3, l4], [.long j1, .ref k0], h) Q = (okp h k0 10 = true ∧ Tr sc d 228 (30, [l0, l1, l2, l3, l4], [], (sL h k0 3 j1)) Q) := t_gd k_228_27 rfl
theorem k_228_30 : lk 228 30 = some (.iload 4, 32, 4, 0, .null) := by decide +kernel
theorem x_228_30 : Tr sc d 228 (30, [l0, l1, l2, l3, some (.int x)], [], h) Q = Tr sc d 228 (32, [l0, l1, l2, l3, some (.int x)], [.int x], h) Q := t_iload k_228_30 rfl
theorem k_228_32 : lk 228 32 = some (.ireturn, 33, 0, 0, .null) := by decide +kernel
theorem x_228_32 : Tr sc d 228 (32, [l0, l1, l2, l3, l4], [.int i0], h) Q = Q (some (.int i0), h) := t_ret k_228_32 (by rw [r_228]; rfl)
theorem e_228 : Tr sc d 228 (ent0 228 [.ref k0, .int i1, .int i2] h) Q = Tr sc d 228 (0, [some (.ref k0), some (.int i1), some (.int i2), none, none], [], h) Q := by
  have e : mL 228 = 5 := by decide +kernel
  unfold ent0
  rw [e]
  rfl
theorem r_229 : mR 229 = some .int := by decide +kernel
theorem k_229_0 : lk 229 0 = some (.aload_n 0, 1, 0, 0, .null) := by decide +kernel
theorem x_229_0 : Tr sc d 229 (0, [some (.ref xk), l1, l2, l3, l4, l5, l6, l7], [], h) Q = Tr sc d 229 (1, [some (.ref xk), l1, l2, l3, l4, l5, l6, l7], [.ref xk], h) Q := t_aload_n k_229_0 rfl
theorem k_229_1 : lk 229 1 = some (.iload_n 1, 2, 1, 0, .null) := by decide +kernel
theorem x_229_1 : Tr sc d 229 (1, [l0, some (.int x), l2, l3, l4, l5, l6, l7], [.ref k0], h) Q = Tr sc d 229 (2, [l0, some (.int x), l2, l3, l4, l5, l6, l7], [.int x, .ref k0], h) Q := t_iload_n k_229_1 rfl
theorem k_229_2 : lk 229 2 = some (.iload_n 2, 3, 2, 0, .null) := by decide +kernel
theorem x_229_2 : Tr sc d 229 (2, [l0, l1, some (.int x), l3, l4, l5, l6, l7], [.int i1, .ref k0], h) Q = Tr sc d 229 (3, [l0, l1, some (.int x), l3, l4, l5, l6, l7], [.int x, .int i1, .ref k0], h) Q := t_iload_n k_229_2 rfl
theorem k_229_3 : lk 229 3 = some (.invokevirtual 336, 6, 227, 2, .null) := by decide +kernel
theorem x_229_3 : Tr sc (d + 1) 229 (3, [l0, l1, l2, l3, l4, l5, l6, l7], [.int i2, .int i1, .ref k0], h) Q = (okp h k0 10 = true ∧ Tr sc d 227 (ent0 227 [.ref k0, .int i1, .int i2] h) (fun z => Tr sc (d + 1) 229 (6, [l0, l1, l2, l3, l4, l5, l6, l7], z.1.toList ++ [], z.2) Q)) := t_cv (as := [.int i1, .int i2]) (r := []) k_229_3 rfl rfl (Nat.le_of_ble_eq_true rfl) (Nat.le_of_ble_eq_true rfl) (Nat.le_of_ble_eq_true rfl)
theorem k_229_6 : lk 229 6 = some (.istore_n 3, 7, 3, 0, .null) := by decide +kernel
theorem x_229_6 : Tr sc d 229 (6, [l0, l1, l2, l3, l4, l5, l6, l7], [.int i0], h) Q = Tr sc d 229 (7, [l0, l1, cl2 l2, some (.int i0), l4, l5, l6, l7], [], h) Q := t_istore_n k_229_6 (Nat.le_of_ble_eq_true rfl)
theorem k_229_7 : lk 229 7 = some (.iload_n 3, 8, 3, 0, .null) := by decide +kernel
theorem x_229_7 : Tr sc d 229 (7, [l0, l1, l2, some (.int x), l4, l5, l6, l7], [], h) Q = Tr sc d 229 (8, [l0, l1, l2, some (.int x), l4, l5, l6, l7], [.int x], h) Q := t_iload_n k_229_7 rfl
theorem k_229_8 : lk 229 8 = some (.ifCond .ge 5, 11, 13, 0, .null) := by decide +kernel
theorem x_229_8 : Tr sc d 229 (8, [l0, l1, l2, l3, l4, l5, l6, l7], [.int i0], h) Q = if 0 ≤ i0 then Tr sc d 229 (13, [l0, l1, l2, l3, l4, l5, l6, l7], [], h) Q else Tr sc d 229 (11, [l0, l1, l2, l3, l4, l5, l6, l7], [], h) Q := t_if k_229_8 rfl
theorem k_229_11 : lk 229 11 = some (.iload_n 3, 12, 3, 0, .null) := by decide +kernel
theorem x_229_11 : Tr sc d 229 (11, [l0, l1, l2, some (.int x), l4, l5, l6, l7], [], h) Q = Tr sc d 229 (12, [l0, l1, l2, some (.int x), l4, l5, l6, l7], [.int x], h) Q := t_iload_n k_229_11 rfl
theorem k_229_12 : lk 229 12 = some (.ireturn, 13, 0, 0, .null) := by decide +kernel
theorem x_229_12 : Tr sc d 229 (12, [l0, l1, l2, l3, l4, l5, l6, l7], [.int i0], h) Q = Q (some (.int i0), h) := t_ret k_229_12 (by rw [r_229]; rfl)
theorem k_229_13 : lk 229 13 = some (.aload_n 0, 14, 0, 0, .null) := by decide +kernel
theorem x_229_13 : Tr sc d 229 (13, [some (.ref xk), l1, l2, l3, l4, l5, l6, l7], [], h) Q = Tr sc d 229 (14, [some (.ref xk), l1, l2, l3, l4, l5, l6, l7], [.ref xk], h) Q := t_aload_n k_229_13 rfl
theorem k_229_14 : lk 229 14 = some (.invokevirtual 339, 17, 224, 0, .null) := by decide +kernel
theorem x_229_14 : Tr sc (d + 1) 229 (14, [l0, l1, l2, l3, l4, l5, l6, l7], [.ref k0], h) Q = (okp h k0 10 = true ∧ Tr sc d 224 (ent0 224 [.ref k0] h) (fun z => Tr sc (d + 1) 229 (17, [l0, l1, l2, l3, l4, l5, l6, l7], z.1.toList ++ [], z.2) Q)) := t_cv (as := []) (r := []) k_229_14 rfl rfl (Nat.le_of_ble_eq_true rfl) (Nat.le_of_ble_eq_true rfl) (Nat.le_of_ble_eq_true rfl)
theorem k_229_17 : lk 229 17 = some (.istore 4, 19, 4, 0, .null) := by decide +kernel
theorem x_229_17 : Tr sc d 229 (17, [l0, l1, l2, l3, l4, l5, l6, l7], [.int i0], h) Q = Tr sc d 229 (19, [l0, l1, l2, cl2 l3, some (.int i0), l5, l6, l7], [], h) Q := t_istore k_229_17 (Nat.le_of_ble_eq_true rfl)
theorem k_229_19 : lk 229 19 = some (.aload_n 0, 20, 0, 0, .null) := by decide +kernel
theorem x_229_19 : Tr sc d 229 (19, [some (.ref xk), l1, l2, l3, l4, l5, l6, l7], [], h) Q = Tr sc d 229 (20, [some (.ref xk), l1, l2, l3, l4, l5, l6, l7], [.ref xk], h) Q := t_aload_n k_229_19 rfl
theorem k_229_20 : lk 229 20 = some (.bipush (-9), 22, 0, 0, .int (-9)) := by decide +kernel
theorem x_229_20 : Tr sc d 229 (20, [l0, l1, l2, l3, l4, l5, l6, l7], [.ref k0], h) Q = Tr sc d 229 (22, [l0, l1, l2, l3, l4, l5, l6, l7], [.int (-9), .ref k0], h) Q := t_go k_229_20 rfl
theorem k_229_22 : lk 229 22 = some (.invokevirtual 343, 25, 225, 1, .null) := by decide +kernel
theorem x_229_22 : Tr sc (d + 1) 229 (22, [l0, l1, l2, l3, l4, l5, l6, l7], [.int i1, .ref k0], h) Q = (okp h k0 10 = true ∧ Tr sc d 225 (ent0 225 [.ref k0, .int i1] h) (fun z => Tr sc (d + 1) 229 (25, [l0, l1, l2, l3, l4, l5, l6, l7], z.1.toList ++ [], z.2) Q)) := t_cv (as := [.int i1]) (r := []) k_229_22 rfl rfl (Nat.le_of_ble_eq_true rfl) (Nat.le_of_ble_eq_true rfl) (Nat.le_of_ble_eq_true rfl)
theorem k_229_25 : lk 229 25 = some (.istore 5, 27, 5, 0, .null) := by decide +kernel
theorem x_229_25 : Tr sc d 229 (25, [l0, l1, l2, l3, l4, l5, l6, l7], [.int i0], h) Q = Tr sc d 229 (27, [l0, l1, l2, l3, cl2 l4, some (.int i0), l6, l7], [], h) Q := t_istore k_229_25 (Nat.le_of_ble_eq_true rfl)
theorem k_229_27 : lk 229 27 = some (.iconst 0, 28, 0, 0, .int 0) := by decide +kernel
theorem x_229_27 : Tr sc d 229 (27, [l0, l1, l2, l3, l4, l5, l6, l7], [], h) Q = Tr sc d 229 (28, [l0, l1, l2, l3, l4, l5, l6, l7], [.int 0], h) Q := t_go k_229_27 rfl
theorem k_229_28 : lk 229 28 = some (.istore 6, 30, 6, 0, .null) := by decide +kernel
theorem x_229_28 : Tr sc d 229 (28, [l0, l1, l2, l3, l4, l5, l6, l7], [.int i0], h) Q = Tr sc d 229 (30, [l0, l1, l2, l3, l4, cl2 l5, some (.int i0), l7], [], h) Q := t_istore k_229_28 (Nat.le_of_ble_eq_true rfl)
theorem k_229_30 : lk 229 30 = some (.iconst 0, 31, 0, 0, .int 0) := by decide +kernel
theorem x_229_30 : Tr sc d 229 (30, [l0, l1, l2, l3, l4, l5, l6, l7], [], h) Q = Tr sc d 229 (31, [l0, l1, l2, l3, l4, l5, l6, l7], [.int 0], h) Q := t_go k_229_30 rfl
theorem k_229_31 : lk 229 31 = some (.istore 7, 33, 7, 0, .null) := by decide +kernel
theorem x_229_31 : Tr sc d 229 (31, [l0, l1, l2, l3, l4, l5, l6, l7], [.int i0], h) Q = Tr sc d 229 (33, [l0, l1, l2, l3, l4, l5, cl2 l6, some (.int i0)], [], h) Q := t_istore k_229_31 (Nat.le_of_ble_eq_true rfl)
theorem k_229_33 : lk 229 33 = some (.iload 7, 35, 7, 0, .null) := by decide +kernel
theorem x_229_33 : Tr sc d 229 (33, [l0, l1, l2, l3, l4, l5, l6, some (.int x)], [], h) Q = Tr sc d 229 (35, [l0, l1, l2, l3, l4, l5, l6, some (.int x)], [.int x], h) Q := t_iload k_229_33 rfl
theorem k_229_35 : lk 229 35 = some (.aload_n 0, 36, 0, 0, .null) := by decide +kernel
theorem x_229_35 : Tr sc d 229 (35, [some (.ref xk), l1, l2, l3, l4, l5, l6, l7], [.int i0], h) Q = Tr sc d 229 (36, [some (.ref xk), l1, l2, l3, l4, l5, l6, l7], [.ref xk, .int i0], h) Q := t_aload_n k_229_35 rfl
theorem k_229_36 : lk 229 36 = some (.getfield 283, 39, 10, 36, .int 0) := by decide +kernel
theorem x_229_36 : Tr sc d 229 (36, [l0, l1, l2, l3, l4, l5, l6, l7], [.ref k1, .int i0], h) Q = (okp h k1 10 = true ∧ Tr sc d 229 (39, [l0, l1, l2, l3, l4, l5, l6, l7], [.int (hI h k1 36), .int i0], h) Q) := t_gd k_229_36 rfl
theorem k_229_39 : lk 229 39 = some (.if_icmp .ge 30, 42, 69, 0, .null) := by decide +kernel
theorem x_229_39 : Tr sc d 229 (39, [l0, l1, l2, l3, l4, l5, l6, l7], [.int i1, .int i0], h) Q = if i1 ≤ i0 then Tr sc d 229 (69, [l0, l1, l2, l3, l4, l5, l6, l7], [], h) Q else Tr sc d 229 (42, [l0, l1, l2, l3, l4, l5, l6, l7], [], h) Q := t_if k_229_39 rfl
theorem k_229_42 : lk 229 42 = some (.iload 6, 44, 6, 0, .null) := by decide +kernel
theorem x_229_42 : Tr sc d 229 (42, [l0, l1, l2, l3, l4, l5, some (.int x), l7], [], h) Q = Tr sc d 229 (44, [l0, l1, l2, l3, l4, l5, some (.int x), l7], [.int x], h) Q := t_iload k_229_42 rfl
theorem k_229_44 : lk 229 44 = some (.aload_n 0, 45, 0, 0, .null) := by decide +kernel
theorem x_229_44 : Tr sc d 229 (44, [some (.ref xk), l1, l2, l3, l4, l5, l6, l7], [.int i0], h) Q = Tr sc d 229 (45, [some (.ref xk), l1, l2, l3, l4, l5, l6, l7], [.ref xk, .int i0], h) Q := t_aload_n k_229_44 rfl
theorem k_229_45 : lk 229 45 = some (.iload 7, 47, 7, 0, .null) := by decide +kernel
theorem x_229_45 : Tr sc d 229 (45, [l0, l1, l2, l3, l4, l5, l6, some (.int x)], [.ref k1, .int i0], h) Q = Tr sc d 229 (47, [l0, l1, l2, l3, l4, l5, l6, some (.int x)], [.int x, .ref k1, .int i0], h) Q := t_iload k_229_45 rfl
theorem k_229_47 : lk 229 47 = some (.invokevirtual 343, 50, 225, 1, .null) := by decide +kernel
theorem x_229_47 : Tr sc (d + 1) 229 (47, [l0, l1, l2, l3, l4, l5, l6, l7], [.int i2, .ref k1, .int i0], h) Q = (okp h k1 10 = true ∧ Tr sc d 225 (ent0 225 [.ref k1, .int i2] h) (fun z => Tr sc (d + 1) 229 (50, [l0, l1, l2, l3, l4, l5, l6, l7], z.1.toList ++ [.int i0], z.2) Q)) := t_cv (as := [.int i2]) (r := [.int i0]) k_229_47 rfl rfl (Nat.le_of_ble_eq_true rfl) (Nat.le_of_ble_eq_true rfl) (Nat.le_of_ble_eq_true rfl)
theorem k_229_50 : lk 229 50 = some (.iload 5, 52, 5, 0, .null) := by decide +kernel
theorem x_229_50 : Tr sc d 229 (50, [l0, l1, l2, l3, l4, some (.int x), l6, l7], [.int i1, .int i0], h) Q = Tr sc d 229 (52, [l0, l1, l2, l3, l4, some (.int x), l6, l7], [.int x, .int i1, .int i0], h) Q := t_iload k_229_50 rfl
theorem k_229_52 : lk 229 52 = some (.if_icmp .le 7, 55, 59, 0, .null) := by decide +kernel
theorem x_229_52 : Tr sc d 229 (52, [l0, l1, l2, l3, l4, l5, l6, l7], [.int i2, .int i1, .int i0], h) Q = if i1 ≤ i2 then Tr sc d 229 (59, [l0, l1, l2, l3, l4, l5, l6, l7], [.int i0], h) Q else Tr sc d 229 (55, [l0, l1, l2, l3, l4, l5, l6, l7], [.int i0], h) Q := t_if k_229_52 rfl
theorem k_229_55 : lk 229 55 = some (.iconst 1, 56, 0, 0, .int 1) := by decide +kernel
theorem x_229_55 : Tr sc d 229 (55, [l0, l1, l2, l3, l4, l5, l6, l7], [.int i0], h) Q = Tr sc d 229 (56, [l0, l1, l2, l3, l4, l5, l6, l7], [.int 1, .int i0], h) Q := t_go k_229_55 rfl
theorem k_229_56 : lk 229 56 = some (.goto 4, 59, 60, 0, .null) := by decide +kernel
theorem x_229_56 : Tr sc d 229 (56, [l0, l1, l2, l3, l4, l5, l6, l7], [.int i1, .int i0], h) Q = Tr sc d 229 (60, [l0, l1, l2, l3, l4, l5, l6, l7], [.int i1, .int i0], h) Q := t_go k_229_56 rfl
theorem k_229_59 : lk 229 59 = some (.iconst 0, 60, 0, 0, .int 0) := by decide +kernel
theorem x_229_59 : Tr sc d 229 (59, [l0, l1, l2, l3, l4, l5, l6, l7], [.int i0], h) Q = Tr sc d 229 (60, [l0, l1, l2, l3, l4, l5, l6, l7], [.int 0, .int i0], h) Q := t_go k_229_59 rfl
theorem k_229_60 : lk 229 60 = some (.iadd, 61, 0, 0, .null) := by decide +kernel
theorem x_229_60 : Tr sc d 229 (60, [l0, l1, l2, l3, l4, l5, l6, l7], [.int i1, .int i0], h) Q = Tr sc d 229 (61, [l0, l1, l2, l3, l4, l5, l6, l7], [.int (i0 + i1)], h) Q := t_go k_229_60 rfl
theorem k_229_61 : lk 229 61 = some (.istore 6, 63, 6, 0, .null) := by decide +kernel
theorem x_229_61 : Tr sc d 229 (61, [l0, l1, l2, l3, l4, l5, l6, l7], [.int i0], h) Q = Tr sc d 229 (63, [l0, l1, l2, l3, l4, cl2 l5, some (.int i0), l7], [], h) Q := t_istore k_229_61 (Nat.le_of_ble_eq_true rfl)
theorem k_229_63 : lk 229 63 = some (.iinc 7 1, 66, 7, 0, .int 1) := by decide +kernel
theorem x_229_63 : Tr sc d 229 (63, [l0, l1, l2, l3, l4, l5, l6, some (.int x)], [], h) Q = Tr sc d 229 (66, [l0, l1, l2, l3, l4, l5, cl2 l6, some (.int (x + 1))], [], h) Q := t_inc k_229_63 rfl (Nat.le_of_ble_eq_true rfl)
theorem k_229_66 : lk 229 66 = some (.goto (-33), 69, 33, 0, .null) := by decide +kernel
theorem x_229_66 : Tr sc d 229 (66, [l0, l1, l2, l3, l4, l5, l6, l7], [], h) Q = Tr sc d 229 (33, [l0, l1, l2, l3, l4, l5, l6, l7], [], h) Q := t_go k_229_66 rfl
theorem k_229_69 : lk 229 69 = some (.aload_n 0, 70, 0, 0, .null) := by decide +kernel
theorem x_229_69 : Tr sc d 229 (69, [some (.ref xk), l1, l2, l3, l4, l5, l6, l7], [], h) Q = Tr sc d 229 (70, [some (.ref xk), l1, l2, l3, l4, l5, l6, l7], [.ref xk], h) Q := t_aload_n k_229_69 rfl
theorem k_229_70 : lk 229 70 = some (.iload 6, 72, 6, 0, .null) := by decide +kernel
theorem x_229_70 : Tr sc d 229 (70, [l0, l1, l2, l3, l4, l5, some (.int x), l7], [.ref k0], h) Q = Tr sc d 229 (72, [l0, l1, l2, l3, l4, l5, some (.int x), l7], [.int x, .ref k0], h) Q := t_iload k_229_70 rfl
theorem k_229_72 : lk 229 72 = some (.i2l, 73, 0, 0, .null) := by decide +kernel
theorem x_229_72 : Tr sc d 229 (72, [l0, l1, l2, l3, l4, l5, l6, l7], [.int i1, .ref k0], h) Q = Tr sc d 229 (73, [l0, l1, l2, l3, l4, l5, l6, l7], [.long i1.toInt64, .ref k0], h) Q := t_go k_229_72 rfl
theorem k_229_73 : lk 229 73 = some (.putfield 267, 76, 10, 3, .long 0) := by decide +kernel
theorem x_229_73 : Tr sc d 229 (73, [l0, l1, l2, l3, l4, l5, l6, l7], [.long j1, .ref k0], h) Q = (okp h k0 10 = true ∧ Tr sc d 229 (76, [l0, l1, l2, l3, l4, l5, l6, l7], [], (sL h k0 3 j1)) Q) := t_gd k_229_73 rfl
theorem k_229_76 : lk 229 76 = some (.iload 4, 78, 4, 0, .null) := by decide +kernel
theorem x_229_76 : Tr sc d 229 (76, [l0, l1, l2, l3, some (.int x), l5, l6, l7], [], h) Q = Tr sc d 229 (78, [l0, l1, l2, l3, some (.int x), l5, l6, l7], [.int x], h) Q := t_iload k_229_76 rfl
theorem k_229_78 : lk 229 78 = some (.aload_n 0, 79, 0, 0, .null) := by decide +kernel
theorem x_229_78 : Tr sc d 229 (78, [some (.ref xk), l1, l2, l3, l4, l5, l6, l7], [.int i0], h) Q = Tr sc d 229 (79, [some (.ref xk), l1, l2, l3, l4, l5, l6, l7], [.ref xk, .int i0], h) Q := t_aload_n k_229_78 rfl
theorem k_229_79 : lk 229 79 = some (.getfield 283, 82, 10, 36, .int 0) := by decide +kernel
theorem x_229_79 : Tr sc d 229 (79, [l0, l1, l2, l3, l4, l5, l6, l7], [.ref k1, .int i0], h) Q = (okp h k1 10 = true ∧ Tr sc d 229 (82, [l0, l1, l2, l3, l4, l5, l6, l7], [.int (hI h k1 36), .int i0], h) Q) := t_gd k_229_79 rfl
theorem k_229_82 : lk 229 82 = some (.isub, 83, 0, 0, .null) := by decide +kernel
theorem x_229_82 : Tr sc d 229 (82, [l0, l1, l2, l3, l4, l5, l6, l7], [.int i1, .int i0], h) Q = Tr sc d 229 (83, [l0, l1, l2, l3, l4, l5, l6, l7], [.int (i0 - i1)], h) Q := t_go k_229_82 rfl
theorem k_229_83 : lk 229 83 = some (.iload 5, 85, 5, 0, .null) := by decide +kernel
theorem x_229_83 : Tr sc d 229 (83, [l0, l1, l2, l3, l4, some (.int x), l6, l7], [.int i0], h) Q = Tr sc d 229 (85, [l0, l1, l2, l3, l4, some (.int x), l6, l7], [.int x, .int i0], h) Q := t_iload k_229_83 rfl
theorem k_229_85 : lk 229 85 = some (.iadd, 86, 0, 0, .null) := by decide +kernel
theorem x_229_85 : Tr sc d 229 (85, [l0, l1, l2, l3, l4, l5, l6, l7], [.int i1, .int i0], h) Q = Tr sc d 229 (86, [l0, l1, l2, l3, l4, l5, l6, l7], [.int (i0 + i1)], h) Q := t_go k_229_85 rfl
theorem k_229_86 : lk 229 86 = some (.ireturn, 87, 0, 0, .null) := by decide +kernel
theorem x_229_86 : Tr sc d 229 (86, [l0, l1, l2, l3, l4, l5, l6, l7], [.int i0], h) Q = Q (some (.int i0), h) := t_ret k_229_86 (by rw [r_229]; rfl)
theorem e_229 : Tr sc d 229 (ent0 229 [.ref k0, .int i1, .int i2] h) Q = Tr sc d 229 (0, [some (.ref k0), some (.int i1), some (.int i2), none, none, none, none, none], [], h) Q := by
  have e : mL 229 = 8 := by decide +kernel
  unfold ent0
  rw [e]
  rfl
theorem r_230 : mR 230 = none := by decide +kernel
theorem k_230_0 : lk 230 0 = some (.iconst 0, 1, 0, 0, .int 0) := by decide +kernel
theorem x_230_0 : Tr sc d 230 (0, [l0, l1, l2, l3, l4], [], h) Q = Tr sc d 230 (1, [l0, l1, l2, l3, l4], [.int 0], h) Q := t_go k_230_0 rfl
theorem k_230_1 : lk 230 1 = some (.istore_n 2, 2, 2, 0, .null) := by decide +kernel
theorem x_230_1 : Tr sc d 230 (1, [l0, l1, l2, l3, l4], [.int i0], h) Q = Tr sc d 230 (2, [l0, cl2 l1, some (.int i0), l3, l4], [], h) Q := t_istore_n k_230_1 (Nat.le_of_ble_eq_true rfl)
theorem k_230_2 : lk 230 2 = some (.iload_n 2, 3, 2, 0, .null) := by decide +kernel
theorem x_230_2 : Tr sc d 230 (2, [l0, l1, some (.int x), l3, l4], [], h) Q = Tr sc d 230 (3, [l0, l1, some (.int x), l3, l4], [.int x], h) Q := t_iload_n k_230_2 rfl
theorem k_230_3 : lk 230 3 = some (.aload_n 0, 4, 0, 0, .null) := by decide +kernel
theorem x_230_3 : Tr sc d 230 (3, [some (.ref xk), l1, l2, l3, l4], [.int i0], h) Q = Tr sc d 230 (4, [some (.ref xk), l1, l2, l3, l4], [.ref xk, .int i0], h) Q := t_aload_n k_230_3 rfl
theorem k_230_4 : lk 230 4 = some (.getfield 41, 7, 10, 18, .null) := by decide +kernel
theorem x_230_4 : Tr sc d 230 (4, [l0, l1, l2, l3, l4], [.ref k1, .int i0], h) Q = (okp h k1 10 = true ∧ ∃ q, hR h k1 18 = some q ∧ Tr sc d 230 (7, [l0, l1, l2, l3, l4], [.ref q, .int i0], h) Q) := t_getr k_230_4
theorem k_230_7 : lk 230 7 = some (.iload_n 1, 8, 1, 0, .null) := by decide +kernel
theorem x_230_7 : Tr sc d 230 (7, [l0, some (.int x), l2, l3, l4], [.ref k1, .int i0], h) Q = Tr sc d 230 (8, [l0, some (.int x), l2, l3, l4], [.int x, .ref k1, .int i0], h) Q := t_iload_n k_230_7 rfl
theorem k_230_8 : lk 230 8 = some (.iaload, 9, 0, 0, .null) := by decide +kernel
theorem x_230_8 : Tr sc d 230 (8, [l0, l1, l2, l3, l4], [.int i2, .ref k1, .int i0], h) Q = (iOk sc h k1 i2 ∧ Tr sc d 230 (9, [l0, l1, l2, l3, l4], [.int (iRd sc h k1 i2), .int i0], h) Q) := t_iald k_230_8
theorem k_230_9 : lk 230 9 = some (.if_icmp .ge 158, 12, 167, 0, .null) := by decide +kernel
theorem x_230_9 : Tr sc d 230 (9, [l0, l1, l2, l3, l4], [.int i1, .int i0], h) Q = if i1 ≤ i0 then Tr sc d 230 (167, [l0, l1, l2, l3, l4], [], h) Q else Tr sc d 230 (12, [l0, l1, l2, l3, l4], [], h) Q := t_if k_230_9 rfl
theorem k_230_12 : lk 230 12 = some (.aload_n 0, 13, 0, 0, .null) := by decide +kernel
theorem x_230_12 : Tr sc d 230 (12, [some (.ref xk), l1, l2, l3, l4], [], h) Q = Tr sc d 230 (13, [some (.ref xk), l1, l2, l3, l4], [.ref xk], h) Q := t_aload_n k_230_12 rfl
theorem k_230_13 : lk 230 13 = some (.getfield 47, 16, 10, 20, .null) := by decide +kernel
theorem x_230_13 : Tr sc d 230 (13, [l0, l1, l2, l3, l4], [.ref k0], h) Q = (okp h k0 10 = true ∧ ∃ q, hR h k0 20 = some q ∧ Tr sc d 230 (16, [l0, l1, l2, l3, l4], [.ref q], h) Q) := t_getr k_230_13
theorem k_230_16 : lk 230 16 = some (.bipush 6, 18, 0, 0, .int 6) := by decide +kernel
theorem x_230_16 : Tr sc d 230 (16, [l0, l1, l2, l3, l4], [.ref k0], h) Q = Tr sc d 230 (18, [l0, l1, l2, l3, l4], [.int 6, .ref k0], h) Q := t_go k_230_16 rfl
theorem k_230_18 : lk 230 18 = some (.iload_n 1, 19, 1, 0, .null) := by decide +kernel
theorem x_230_18 : Tr sc d 230 (18, [l0, some (.int x), l2, l3, l4], [.int i1, .ref k0], h) Q = Tr sc d 230 (19, [l0, some (.int x), l2, l3, l4], [.int x, .int i1, .ref k0], h) Q := t_iload_n k_230_18 rfl
theorem k_230_19 : lk 230 19 = some (.imul, 20, 0, 0, .null) := by decide +kernel
theorem x_230_19 : Tr sc d 230 (19, [l0, l1, l2, l3, l4], [.int i2, .int i1, .ref k0], h) Q = Tr sc d 230 (20, [l0, l1, l2, l3, l4], [.int (i1 * i2), .ref k0], h) Q := t_go k_230_19 rfl
theorem k_230_20 : lk 230 20 = some (.iload_n 2, 21, 2, 0, .null) := by decide +kernel
theorem x_230_20 : Tr sc d 230 (20, [l0, l1, some (.int x), l3, l4], [.int i1, .ref k0], h) Q = Tr sc d 230 (21, [l0, l1, some (.int x), l3, l4], [.int x, .int i1, .ref k0], h) Q := t_iload_n k_230_20 rfl
theorem k_230_21 : lk 230 21 = some (.iadd, 22, 0, 0, .null) := by decide +kernel
theorem x_230_21 : Tr sc d 230 (21, [l0, l1, l2, l3, l4], [.int i2, .int i1, .ref k0], h) Q = Tr sc d 230 (22, [l0, l1, l2, l3, l4], [.int (i1 + i2), .ref k0], h) Q := t_go k_230_21 rfl
theorem k_230_22 : lk 230 22 = some (.iaload, 23, 0, 0, .null) := by decide +kernel
theorem x_230_22 : Tr sc d 230 (22, [l0, l1, l2, l3, l4], [.int i1, .ref k0], h) Q = (iOk sc h k0 i1 ∧ Tr sc d 230 (23, [l0, l1, l2, l3, l4], [.int (iRd sc h k0 i1)], h) Q) := t_iald k_230_22
theorem k_230_23 : lk 230 23 = some (.istore_n 3, 24, 3, 0, .null) := by decide +kernel
theorem x_230_23 : Tr sc d 230 (23, [l0, l1, l2, l3, l4], [.int i0], h) Q = Tr sc d 230 (24, [l0, l1, cl2 l2, some (.int i0), l4], [], h) Q := t_istore_n k_230_23 (Nat.le_of_ble_eq_true rfl)
theorem k_230_24 : lk 230 24 = some (.aload_n 0, 25, 0, 0, .null) := by decide +kernel
theorem x_230_24 : Tr sc d 230 (24, [some (.ref xk), l1, l2, l3, l4], [], h) Q = Tr sc d 230 (25, [some (.ref xk), l1, l2, l3, l4], [.ref xk], h) Q := t_aload_n k_230_24 rfl
theorem k_230_25 : lk 230 25 = some (.getfield 50, 28, 10, 21, .null) := by decide +kernel
theorem x_230_25 : Tr sc d 230 (25, [l0, l1, l2, l3, l4], [.ref k0], h) Q = (okp h k0 10 = true ∧ ∃ q, hR h k0 21 = some q ∧ Tr sc d 230 (28, [l0, l1, l2, l3, l4], [.ref q], h) Q) := t_getr k_230_25
theorem k_230_28 : lk 230 28 = some (.bipush 6, 30, 0, 0, .int 6) := by decide +kernel
theorem x_230_28 : Tr sc d 230 (28, [l0, l1, l2, l3, l4], [.ref k0], h) Q = Tr sc d 230 (30, [l0, l1, l2, l3, l4], [.int 6, .ref k0], h) Q := t_go k_230_28 rfl
theorem k_230_30 : lk 230 30 = some (.iload_n 1, 31, 1, 0, .null) := by decide +kernel
theorem x_230_30 : Tr sc d 230 (30, [l0, some (.int x), l2, l3, l4], [.int i1, .ref k0], h) Q = Tr sc d 230 (31, [l0, some (.int x), l2, l3, l4], [.int x, .int i1, .ref k0], h) Q := t_iload_n k_230_30 rfl
theorem k_230_31 : lk 230 31 = some (.imul, 32, 0, 0, .null) := by decide +kernel
theorem x_230_31 : Tr sc d 230 (31, [l0, l1, l2, l3, l4], [.int i2, .int i1, .ref k0], h) Q = Tr sc d 230 (32, [l0, l1, l2, l3, l4], [.int (i1 * i2), .ref k0], h) Q := t_go k_230_31 rfl
theorem k_230_32 : lk 230 32 = some (.iload_n 2, 33, 2, 0, .null) := by decide +kernel
theorem x_230_32 : Tr sc d 230 (32, [l0, l1, some (.int x), l3, l4], [.int i1, .ref k0], h) Q = Tr sc d 230 (33, [l0, l1, some (.int x), l3, l4], [.int x, .int i1, .ref k0], h) Q := t_iload_n k_230_32 rfl
theorem k_230_33 : lk 230 33 = some (.iadd, 34, 0, 0, .null) := by decide +kernel
theorem x_230_33 : Tr sc d 230 (33, [l0, l1, l2, l3, l4], [.int i2, .int i1, .ref k0], h) Q = Tr sc d 230 (34, [l0, l1, l2, l3, l4], [.int (i1 + i2), .ref k0], h) Q := t_go k_230_33 rfl
theorem k_230_34 : lk 230 34 = some (.iaload, 35, 0, 0, .null) := by decide +kernel
theorem x_230_34 : Tr sc d 230 (34, [l0, l1, l2, l3, l4], [.int i1, .ref k0], h) Q = (iOk sc h k0 i1 ∧ Tr sc d 230 (35, [l0, l1, l2, l3, l4], [.int (iRd sc h k0 i1)], h) Q) := t_iald k_230_34
theorem k_230_35 : lk 230 35 = some (.istore 4, 37, 4, 0, .null) := by decide +kernel
theorem x_230_35 : Tr sc d 230 (35, [l0, l1, l2, l3, l4], [.int i0], h) Q = Tr sc d 230 (37, [l0, l1, l2, cl2 l3, some (.int i0)], [], h) Q := t_istore k_230_35 (Nat.le_of_ble_eq_true rfl)
theorem k_230_37 : lk 230 37 = some (.aload_n 0, 38, 0, 0, .null) := by decide +kernel
theorem x_230_37 : Tr sc d 230 (37, [some (.ref xk), l1, l2, l3, l4], [], h) Q = Tr sc d 230 (38, [some (.ref xk), l1, l2, l3, l4], [.ref xk], h) Q := t_aload_n k_230_37 rfl
theorem k_230_38 : lk 230 38 = some (.getfield 113, 41, 10, 55, .null) := by decide +kernel
theorem x_230_38 : Tr sc d 230 (38, [l0, l1, l2, l3, l4], [.ref k0], h) Q = (okp h k0 10 = true ∧ ∃ q, hR h k0 55 = some q ∧ Tr sc d 230 (41, [l0, l1, l2, l3, l4], [.ref q], h) Q) := t_getr k_230_38
theorem k_230_41 : lk 230 41 = some (.iconst 0, 42, 0, 0, .int 0) := by decide +kernel
theorem x_230_41 : Tr sc d 230 (41, [l0, l1, l2, l3, l4], [.ref k0], h) Q = Tr sc d 230 (42, [l0, l1, l2, l3, l4], [.int 0, .ref k0], h) Q := t_go k_230_41 rfl
theorem k_230_42 : lk 230 42 = some (.iload_n 2, 43, 2, 0, .null) := by decide +kernel
theorem x_230_42 : Tr sc d 230 (42, [l0, l1, some (.int x), l3, l4], [.int i1, .ref k0], h) Q = Tr sc d 230 (43, [l0, l1, some (.int x), l3, l4], [.int x, .int i1, .ref k0], h) Q := t_iload_n k_230_42 rfl
theorem k_230_43 : lk 230 43 = some (.ifCond .eq 13, 46, 56, 0, .null) := by decide +kernel
theorem x_230_43 : Tr sc d 230 (43, [l0, l1, l2, l3, l4], [.int i2, .int i1, .ref k0], h) Q = if i2 = 0 then Tr sc d 230 (56, [l0, l1, l2, l3, l4], [.int i1, .ref k0], h) Q else Tr sc d 230 (46, [l0, l1, l2, l3, l4], [.int i1, .ref k0], h) Q := t_if k_230_43 rfl
theorem k_230_46 : lk 230 46 = some (.iload_n 3, 47, 3, 0, .null) := by decide +kernel
theorem x_230_46 : Tr sc d 230 (46, [l0, l1, l2, some (.int x), l4], [.int i1, .ref k0], h) Q = Tr sc d 230 (47, [l0, l1, l2, some (.int x), l4], [.int x, .int i1, .ref k0], h) Q := t_iload_n k_230_46 rfl
theorem k_230_47 : lk 230 47 = some (.aload_n 0, 48, 0, 0, .null) := by decide +kernel
theorem x_230_47 : Tr sc d 230 (47, [some (.ref xk), l1, l2, l3, l4], [.int i2, .int i1, .ref k0], h) Q = Tr sc d 230 (48, [some (.ref xk), l1, l2, l3, l4], [.ref xk, .int i2, .int i1, .ref k0], h) Q := t_aload_n k_230_47 rfl
theorem k_230_48 : lk 230 48 = some (.getfield 113, 51, 10, 55, .null) := by decide +kernel
theorem x_230_48 : Tr sc d 230 (48, [l0, l1, l2, l3, l4], [.ref k3, .int i2, .int i1, .ref k0], h) Q = (okp h k3 10 = true ∧ ∃ q, hR h k3 55 = some q ∧ Tr sc d 230 (51, [l0, l1, l2, l3, l4], [.ref q, .int i2, .int i1, .ref k0], h) Q) := t_getr k_230_48
theorem k_230_51 : lk 230 51 = some (.iconst 0, 52, 0, 0, .int 0) := by decide +kernel
theorem x_230_51 : Tr sc d 230 (51, [l0, l1, l2, l3, l4], [.ref k3, .int i2, .int i1, .ref k0], h) Q = Tr sc d 230 (52, [l0, l1, l2, l3, l4], [.int 0, .ref k3, .int i2, .int i1, .ref k0], h) Q := t_go k_230_51 rfl
theorem k_230_52 : lk 230 52 = some (.iaload, 53, 0, 0, .null) := by decide +kernel
theorem x_230_52 : Tr sc d 230 (52, [l0, l1, l2, l3, l4], [.int i4, .ref k3, .int i2, .int i1, .ref k0], h) Q = (iOk sc h k3 i4 ∧ Tr sc d 230 (53, [l0, l1, l2, l3, l4], [.int (iRd sc h k3 i4), .int i2, .int i1, .ref k0], h) Q) := t_iald k_230_52
theorem k_230_53 : lk 230 53 = some (.if_icmp .ge 7, 56, 60, 0, .null) := by decide +kernel
theorem x_230_53 : Tr sc d 230 (53, [l0, l1, l2, l3, l4], [.int i3, .int i2, .int i1, .ref k0], h) Q = if i3 ≤ i2 then Tr sc d 230 (60, [l0, l1, l2, l3, l4], [.int i1, .ref k0], h) Q else Tr sc d 230 (56, [l0, l1, l2, l3, l4], [.int i1, .ref k0], h) Q := t_if k_230_53 rfl
theorem k_230_56 : lk 230 56 = some (.iload_n 3, 57, 3, 0, .null) := by decide +kernel
theorem x_230_56 : Tr sc d 230 (56, [l0, l1, l2, some (.int x), l4], [.int i1, .ref k0], h) Q = Tr sc d 230 (57, [l0, l1, l2, some (.int x), l4], [.int x, .int i1, .ref k0], h) Q := t_iload_n k_230_56 rfl
theorem k_230_57 : lk 230 57 = some (.goto 9, 60, 66, 0, .null) := by decide +kernel
theorem x_230_57 : Tr sc d 230 (57, [l0, l1, l2, l3, l4], [.int i2, .int i1, .ref k0], h) Q = Tr sc d 230 (66, [l0, l1, l2, l3, l4], [.int i2, .int i1, .ref k0], h) Q := t_go k_230_57 rfl
theorem k_230_60 : lk 230 60 = some (.aload_n 0, 61, 0, 0, .null) := by decide +kernel
theorem x_230_60 : Tr sc d 230 (60, [some (.ref xk), l1, l2, l3, l4], [.int i1, .ref k0], h) Q = Tr sc d 230 (61, [some (.ref xk), l1, l2, l3, l4], [.ref xk, .int i1, .ref k0], h) Q := t_aload_n k_230_60 rfl
theorem k_230_61 : lk 230 61 = some (.getfield 113, 64, 10, 55, .null) := by decide +kernel
theorem x_230_61 : Tr sc d 230 (61, [l0, l1, l2, l3, l4], [.ref k2, .int i1, .ref k0], h) Q = (okp h k2 10 = true ∧ ∃ q, hR h k2 55 = some q ∧ Tr sc d 230 (64, [l0, l1, l2, l3, l4], [.ref q, .int i1, .ref k0], h) Q) := t_getr k_230_61
theorem k_230_64 : lk 230 64 = some (.iconst 0, 65, 0, 0, .int 0) := by decide +kernel
theorem x_230_64 : Tr sc d 230 (64, [l0, l1, l2, l3, l4], [.ref k2, .int i1, .ref k0], h) Q = Tr sc d 230 (65, [l0, l1, l2, l3, l4], [.int 0, .ref k2, .int i1, .ref k0], h) Q := t_go k_230_64 rfl
theorem k_230_65 : lk 230 65 = some (.iaload, 66, 0, 0, .null) := by decide +kernel
theorem x_230_65 : Tr sc d 230 (65, [l0, l1, l2, l3, l4], [.int i3, .ref k2, .int i1, .ref k0], h) Q = (iOk sc h k2 i3 ∧ Tr sc d 230 (66, [l0, l1, l2, l3, l4], [.int (iRd sc h k2 i3), .int i1, .ref k0], h) Q) := t_iald k_230_65
theorem k_230_66 : lk 230 66 = some (.iastore, 67, 0, 0, .null) := by decide +kernel
theorem x_230_66 : Tr sc d 230 (66, [l0, l1, l2, l3, l4], [.int i2, .int i1, .ref k0], h) Q = ((okp h k0 11 && inb i1 (LN k0)) = true ∧ Tr sc d 230 (67, [l0, l1, l2, l3, l4], [], (sI h k0 i1.toNatClampNeg i2)) Q) := t_gd k_230_66 rfl
theorem k_230_67 : lk 230 67 = some (.aload_n 0, 68, 0, 0, .null) := by decide +kernel
theorem x_230_67 : Tr sc d 230 (67, [some (.ref xk), l1, l2, l3, l4], [], h) Q = Tr sc d 230 (68, [some (.ref xk), l1, l2, l3, l4], [.ref xk], h) Q := t_aload_n k_230_67 rfl
theorem k_230_68 : lk 230 68 = some (.getfield 113, 71, 10, 55, .null) := by decide +kernel
theorem x_230_68 : Tr sc d 230 (68, [l0, l1, l2, l3, l4], [.ref k0], h) Q = (okp h k0 10 = true ∧ ∃ q, hR h k0 55 = some q ∧ Tr sc d 230 (71, [l0, l1, l2, l3, l4], [.ref q], h) Q) := t_getr k_230_68
theorem k_230_71 : lk 230 71 = some (.iconst 1, 72, 0, 0, .int 1) := by decide +kernel
theorem x_230_71 : Tr sc d 230 (71, [l0, l1, l2, l3, l4], [.ref k0], h) Q = Tr sc d 230 (72, [l0, l1, l2, l3, l4], [.int 1, .ref k0], h) Q := t_go k_230_71 rfl
theorem k_230_72 : lk 230 72 = some (.iload_n 2, 73, 2, 0, .null) := by decide +kernel
theorem x_230_72 : Tr sc d 230 (72, [l0, l1, some (.int x), l3, l4], [.int i1, .ref k0], h) Q = Tr sc d 230 (73, [l0, l1, some (.int x), l3, l4], [.int x, .int i1, .ref k0], h) Q := t_iload_n k_230_72 rfl
theorem k_230_73 : lk 230 73 = some (.ifCond .eq 13, 76, 86, 0, .null) := by decide +kernel
theorem x_230_73 : Tr sc d 230 (73, [l0, l1, l2, l3, l4], [.int i2, .int i1, .ref k0], h) Q = if i2 = 0 then Tr sc d 230 (86, [l0, l1, l2, l3, l4], [.int i1, .ref k0], h) Q else Tr sc d 230 (76, [l0, l1, l2, l3, l4], [.int i1, .ref k0], h) Q := t_if k_230_73 rfl
theorem k_230_76 : lk 230 76 = some (.iload_n 3, 77, 3, 0, .null) := by decide +kernel
theorem x_230_76 : Tr sc d 230 (76, [l0, l1, l2, some (.int x), l4], [.int i1, .ref k0], h) Q = Tr sc d 230 (77, [l0, l1, l2, some (.int x), l4], [.int x, .int i1, .ref k0], h) Q := t_iload_n k_230_76 rfl
theorem k_230_77 : lk 230 77 = some (.aload_n 0, 78, 0, 0, .null) := by decide +kernel
theorem x_230_77 : Tr sc d 230 (77, [some (.ref xk), l1, l2, l3, l4], [.int i2, .int i1, .ref k0], h) Q = Tr sc d 230 (78, [some (.ref xk), l1, l2, l3, l4], [.ref xk, .int i2, .int i1, .ref k0], h) Q := t_aload_n k_230_77 rfl
theorem k_230_78 : lk 230 78 = some (.getfield 113, 81, 10, 55, .null) := by decide +kernel
theorem x_230_78 : Tr sc d 230 (78, [l0, l1, l2, l3, l4], [.ref k3, .int i2, .int i1, .ref k0], h) Q = (okp h k3 10 = true ∧ ∃ q, hR h k3 55 = some q ∧ Tr sc d 230 (81, [l0, l1, l2, l3, l4], [.ref q, .int i2, .int i1, .ref k0], h) Q) := t_getr k_230_78
theorem k_230_81 : lk 230 81 = some (.iconst 1, 82, 0, 0, .int 1) := by decide +kernel
theorem x_230_81 : Tr sc d 230 (81, [l0, l1, l2, l3, l4], [.ref k3, .int i2, .int i1, .ref k0], h) Q = Tr sc d 230 (82, [l0, l1, l2, l3, l4], [.int 1, .ref k3, .int i2, .int i1, .ref k0], h) Q := t_go k_230_81 rfl
theorem k_230_82 : lk 230 82 = some (.iaload, 83, 0, 0, .null) := by decide +kernel
theorem x_230_82 : Tr sc d 230 (82, [l0, l1, l2, l3, l4], [.int i4, .ref k3, .int i2, .int i1, .ref k0], h) Q = (iOk sc h k3 i4 ∧ Tr sc d 230 (83, [l0, l1, l2, l3, l4], [.int (iRd sc h k3 i4), .int i2, .int i1, .ref k0], h) Q) := t_iald k_230_82
theorem k_230_83 : lk 230 83 = some (.if_icmp .le 7, 86, 90, 0, .null) := by decide +kernel
theorem x_230_83 : Tr sc d 230 (83, [l0, l1, l2, l3, l4], [.int i3, .int i2, .int i1, .ref k0], h) Q = if i2 ≤ i3 then Tr sc d 230 (90, [l0, l1, l2, l3, l4], [.int i1, .ref k0], h) Q else Tr sc d 230 (86, [l0, l1, l2, l3, l4], [.int i1, .ref k0], h) Q := t_if k_230_83 rfl
theorem k_230_86 : lk 230 86 = some (.iload_n 3, 87, 3, 0, .null) := by decide +kernel
theorem x_230_86 : Tr sc d 230 (86, [l0, l1, l2, some (.int x), l4], [.int i1, .ref k0], h) Q = Tr sc d 230 (87, [l0, l1, l2, some (.int x), l4], [.int x, .int i1, .ref k0], h) Q := t_iload_n k_230_86 rfl
theorem k_230_87 : lk 230 87 = some (.goto 9, 90, 96, 0, .null) := by decide +kernel
theorem x_230_87 : Tr sc d 230 (87, [l0, l1, l2, l3, l4], [.int i2, .int i1, .ref k0], h) Q = Tr sc d 230 (96, [l0, l1, l2, l3, l4], [.int i2, .int i1, .ref k0], h) Q := t_go k_230_87 rfl
theorem k_230_90 : lk 230 90 = some (.aload_n 0, 91, 0, 0, .null) := by decide +kernel
theorem x_230_90 : Tr sc d 230 (90, [some (.ref xk), l1, l2, l3, l4], [.int i1, .ref k0], h) Q = Tr sc d 230 (91, [some (.ref xk), l1, l2, l3, l4], [.ref xk, .int i1, .ref k0], h) Q := t_aload_n k_230_90 rfl
theorem k_230_91 : lk 230 91 = some (.getfield 113, 94, 10, 55, .null) := by decide +kernel
theorem x_230_91 : Tr sc d 230 (91, [l0, l1, l2, l3, l4], [.ref k2, .int i1, .ref k0], h) Q = (okp h k2 10 = true ∧ ∃ q, hR h k2 55 = some q ∧ Tr sc d 230 (94, [l0, l1, l2, l3, l4], [.ref q, .int i1, .ref k0], h) Q) := t_getr k_230_91
theorem k_230_94 : lk 230 94 = some (.iconst 1, 95, 0, 0, .int 1) := by decide +kernel
theorem x_230_94 : Tr sc d 230 (94, [l0, l1, l2, l3, l4], [.ref k2, .int i1, .ref k0], h) Q = Tr sc d 230 (95, [l0, l1, l2, l3, l4], [.int 1, .ref k2, .int i1, .ref k0], h) Q := t_go k_230_94 rfl
theorem k_230_95 : lk 230 95 = some (.iaload, 96, 0, 0, .null) := by decide +kernel
theorem x_230_95 : Tr sc d 230 (95, [l0, l1, l2, l3, l4], [.int i3, .ref k2, .int i1, .ref k0], h) Q = (iOk sc h k2 i3 ∧ Tr sc d 230 (96, [l0, l1, l2, l3, l4], [.int (iRd sc h k2 i3), .int i1, .ref k0], h) Q) := t_iald k_230_95
theorem k_230_96 : lk 230 96 = some (.iastore, 97, 0, 0, .null) := by decide +kernel
theorem x_230_96 : Tr sc d 230 (96, [l0, l1, l2, l3, l4], [.int i2, .int i1, .ref k0], h) Q = ((okp h k0 11 && inb i1 (LN k0)) = true ∧ Tr sc d 230 (97, [l0, l1, l2, l3, l4], [], (sI h k0 i1.toNatClampNeg i2)) Q) := t_gd k_230_96 rfl
theorem k_230_97 : lk 230 97 = some (.aload_n 0, 98, 0, 0, .null) := by decide +kernel
theorem x_230_97 : Tr sc d 230 (97, [some (.ref xk), l1, l2, l3, l4], [], h) Q = Tr sc d 230 (98, [some (.ref xk), l1, l2, l3, l4], [.ref xk], h) Q := t_aload_n k_230_97 rfl
theorem k_230_98 : lk 230 98 = some (.getfield 113, 101, 10, 55, .null) := by decide +kernel
theorem x_230_98 : Tr sc d 230 (98, [l0, l1, l2, l3, l4], [.ref k0], h) Q = (okp h k0 10 = true ∧ ∃ q, hR h k0 55 = some q ∧ Tr sc d 230 (101, [l0, l1, l2, l3, l4], [.ref q], h) Q) := t_getr k_230_98
theorem k_230_101 : lk 230 101 = some (.iconst 2, 102, 0, 0, .int 2) := by decide +kernel
theorem x_230_101 : Tr sc d 230 (101, [l0, l1, l2, l3, l4], [.ref k0], h) Q = Tr sc d 230 (102, [l0, l1, l2, l3, l4], [.int 2, .ref k0], h) Q := t_go k_230_101 rfl
theorem k_230_102 : lk 230 102 = some (.iload_n 2, 103, 2, 0, .null) := by decide +kernel
theorem x_230_102 : Tr sc d 230 (102, [l0, l1, some (.int x), l3, l4], [.int i1, .ref k0], h) Q = Tr sc d 230 (103, [l0, l1, some (.int x), l3, l4], [.int x, .int i1, .ref k0], h) Q := t_iload_n k_230_102 rfl
theorem k_230_103 : lk 230 103 = some (.ifCond .eq 14, 106, 117, 0, .null) := by decide +kernel
theorem x_230_103 : Tr sc d 230 (103, [l0, l1, l2, l3, l4], [.int i2, .int i1, .ref k0], h) Q = if i2 = 0 then Tr sc d 230 (117, [l0, l1, l2, l3, l4], [.int i1, .ref k0], h) Q else Tr sc d 230 (106, [l0, l1, l2, l3, l4], [.int i1, .ref k0], h) Q := t_if k_230_103 rfl
theorem k_230_106 : lk 230 106 = some (.iload 4, 108, 4, 0, .null) := by decide +kernel
theorem x_230_106 : Tr sc d 230 (106, [l0, l1, l2, l3, some (.int x)], [.int i1, .ref k0], h) Q = Tr sc d 230 (108, [l0, l1, l2, l3, some (.int x)], [.int x, .int i1, .ref k0], h) Q := t_iload k_230_106 rfl
theorem k_230_108 : lk 230 108 = some (.aload_n 0, 109, 0, 0, .null) := by decide +kernel
theorem x_230_108 : Tr sc d 230 (108, [some (.ref xk), l1, l2, l3, l4], [.int i2, .int i1, .ref k0], h) Q = Tr sc d 230 (109, [some (.ref xk), l1, l2, l3, l4], [.ref xk, .int i2, .int i1, .ref k0], h) Q := t_aload_n k_230_108 rfl
theorem k_230_109 : lk 230 109 = some (.getfield 113, 112, 10, 55, .null) := by decide +kernel
theorem x_230_109 : Tr sc d 230 (109, [l0, l1, l2, l3, l4], [.ref k3, .int i2, .int i1, .ref k0], h) Q = (okp h k3 10 = true ∧ ∃ q, hR h k3 55 = some q ∧ Tr sc d 230 (112, [l0, l1, l2, l3, l4], [.ref q, .int i2, .int i1, .ref k0], h) Q) := t_getr k_230_109
theorem k_230_112 : lk 230 112 = some (.iconst 2, 113, 0, 0, .int 2) := by decide +kernel
theorem x_230_112 : Tr sc d 230 (112, [l0, l1, l2, l3, l4], [.ref k3, .int i2, .int i1, .ref k0], h) Q = Tr sc d 230 (113, [l0, l1, l2, l3, l4], [.int 2, .ref k3, .int i2, .int i1, .ref k0], h) Q := t_go k_230_112 rfl
theorem k_230_113 : lk 230 113 = some (.iaload, 114, 0, 0, .null) := by decide +kernel
theorem x_230_113 : Tr sc d 230 (113, [l0, l1, l2, l3, l4], [.int i4, .ref k3, .int i2, .int i1, .ref k0], h) Q = (iOk sc h k3 i4 ∧ Tr sc d 230 (114, [l0, l1, l2, l3, l4], [.int (iRd sc h k3 i4), .int i2, .int i1, .ref k0], h) Q) := t_iald k_230_113
theorem k_230_114 : lk 230 114 = some (.if_icmp .ge 8, 117, 122, 0, .null) := by decide +kernel
theorem x_230_114 : Tr sc d 230 (114, [l0, l1, l2, l3, l4], [.int i3, .int i2, .int i1, .ref k0], h) Q = if i3 ≤ i2 then Tr sc d 230 (122, [l0, l1, l2, l3, l4], [.int i1, .ref k0], h) Q else Tr sc d 230 (117, [l0, l1, l2, l3, l4], [.int i1, .ref k0], h) Q := t_if k_230_114 rfl
theorem k_230_117 : lk 230 117 = some (.iload 4, 119, 4, 0, .null) := by decide +kernel
theorem x_230_117 : Tr sc d 230 (117, [l0, l1, l2, l3, some (.int x)], [.int i1, .ref k0], h) Q = Tr sc d 230 (119, [l0, l1, l2, l3, some (.int x)], [.int x, .int i1, .ref k0], h) Q := t_iload k_230_117 rfl
theorem k_230_119 : lk 230 119 = some (.goto 9, 122, 128, 0, .null) := by decide +kernel
theorem x_230_119 : Tr sc d 230 (119, [l0, l1, l2, l3, l4], [.int i2, .int i1, .ref k0], h) Q = Tr sc d 230 (128, [l0, l1, l2, l3, l4], [.int i2, .int i1, .ref k0], h) Q := t_go k_230_119 rfl
theorem k_230_122 : lk 230 122 = some (.aload_n 0, 123, 0, 0, .null) := by decide +kernel
theorem x_230_122 : Tr sc d 230 (122, [some (.ref xk), l1, l2, l3, l4], [.int i1, .ref k0], h) Q = Tr sc d 230 (123, [some (.ref xk), l1, l2, l3, l4], [.ref xk, .int i1, .ref k0], h) Q := t_aload_n k_230_122 rfl
theorem k_230_123 : lk 230 123 = some (.getfield 113, 126, 10, 55, .null) := by decide +kernel
theorem x_230_123 : Tr sc d 230 (123, [l0, l1, l2, l3, l4], [.ref k2, .int i1, .ref k0], h) Q = (okp h k2 10 = true ∧ ∃ q, hR h k2 55 = some q ∧ Tr sc d 230 (126, [l0, l1, l2, l3, l4], [.ref q, .int i1, .ref k0], h) Q) := t_getr k_230_123
theorem k_230_126 : lk 230 126 = some (.iconst 2, 127, 0, 0, .int 2) := by decide +kernel
theorem x_230_126 : Tr sc d 230 (126, [l0, l1, l2, l3, l4], [.ref k2, .int i1, .ref k0], h) Q = Tr sc d 230 (127, [l0, l1, l2, l3, l4], [.int 2, .ref k2, .int i1, .ref k0], h) Q := t_go k_230_126 rfl
theorem k_230_127 : lk 230 127 = some (.iaload, 128, 0, 0, .null) := by decide +kernel
theorem x_230_127 : Tr sc d 230 (127, [l0, l1, l2, l3, l4], [.int i3, .ref k2, .int i1, .ref k0], h) Q = (iOk sc h k2 i3 ∧ Tr sc d 230 (128, [l0, l1, l2, l3, l4], [.int (iRd sc h k2 i3), .int i1, .ref k0], h) Q) := t_iald k_230_127
theorem k_230_128 : lk 230 128 = some (.iastore, 129, 0, 0, .null) := by decide +kernel
theorem x_230_128 : Tr sc d 230 (128, [l0, l1, l2, l3, l4], [.int i2, .int i1, .ref k0], h) Q = ((okp h k0 11 && inb i1 (LN k0)) = true ∧ Tr sc d 230 (129, [l0, l1, l2, l3, l4], [], (sI h k0 i1.toNatClampNeg i2)) Q) := t_gd k_230_128 rfl
theorem k_230_129 : lk 230 129 = some (.aload_n 0, 130, 0, 0, .null) := by decide +kernel
theorem x_230_129 : Tr sc d 230 (129, [some (.ref xk), l1, l2, l3, l4], [], h) Q = Tr sc d 230 (130, [some (.ref xk), l1, l2, l3, l4], [.ref xk], h) Q := t_aload_n k_230_129 rfl
theorem k_230_130 : lk 230 130 = some (.getfield 113, 133, 10, 55, .null) := by decide +kernel
theorem x_230_130 : Tr sc d 230 (130, [l0, l1, l2, l3, l4], [.ref k0], h) Q = (okp h k0 10 = true ∧ ∃ q, hR h k0 55 = some q ∧ Tr sc d 230 (133, [l0, l1, l2, l3, l4], [.ref q], h) Q) := t_getr k_230_130
theorem k_230_133 : lk 230 133 = some (.iconst 3, 134, 0, 0, .int 3) := by decide +kernel
theorem x_230_133 : Tr sc d 230 (133, [l0, l1, l2, l3, l4], [.ref k0], h) Q = Tr sc d 230 (134, [l0, l1, l2, l3, l4], [.int 3, .ref k0], h) Q := t_go k_230_133 rfl
theorem k_230_134 : lk 230 134 = some (.iload_n 2, 135, 2, 0, .null) := by decide +kernel
theorem x_230_134 : Tr sc d 230 (134, [l0, l1, some (.int x), l3, l4], [.int i1, .ref k0], h) Q = Tr sc d 230 (135, [l0, l1, some (.int x), l3, l4], [.int x, .int i1, .ref k0], h) Q := t_iload_n k_230_134 rfl
theorem k_230_135 : lk 230 135 = some (.ifCond .eq 14, 138, 149, 0, .null) := by decide +kernel
theorem x_230_135 : Tr sc d 230 (135, [l0, l1, l2, l3, l4], [.int i2, .int i1, .ref k0], h) Q = if i2 = 0 then Tr sc d 230 (149, [l0, l1, l2, l3, l4], [.int i1, .ref k0], h) Q else Tr sc d 230 (138, [l0, l1, l2, l3, l4], [.int i1, .ref k0], h) Q := t_if k_230_135 rfl
theorem k_230_138 : lk 230 138 = some (.iload 4, 140, 4, 0, .null) := by decide +kernel
theorem x_230_138 : Tr sc d 230 (138, [l0, l1, l2, l3, some (.int x)], [.int i1, .ref k0], h) Q = Tr sc d 230 (140, [l0, l1, l2, l3, some (.int x)], [.int x, .int i1, .ref k0], h) Q := t_iload k_230_138 rfl
theorem k_230_140 : lk 230 140 = some (.aload_n 0, 141, 0, 0, .null) := by decide +kernel
theorem x_230_140 : Tr sc d 230 (140, [some (.ref xk), l1, l2, l3, l4], [.int i2, .int i1, .ref k0], h) Q = Tr sc d 230 (141, [some (.ref xk), l1, l2, l3, l4], [.ref xk, .int i2, .int i1, .ref k0], h) Q := t_aload_n k_230_140 rfl
theorem k_230_141 : lk 230 141 = some (.getfield 113, 144, 10, 55, .null) := by decide +kernel
theorem x_230_141 : Tr sc d 230 (141, [l0, l1, l2, l3, l4], [.ref k3, .int i2, .int i1, .ref k0], h) Q = (okp h k3 10 = true ∧ ∃ q, hR h k3 55 = some q ∧ Tr sc d 230 (144, [l0, l1, l2, l3, l4], [.ref q, .int i2, .int i1, .ref k0], h) Q) := t_getr k_230_141
theorem k_230_144 : lk 230 144 = some (.iconst 3, 145, 0, 0, .int 3) := by decide +kernel
theorem x_230_144 : Tr sc d 230 (144, [l0, l1, l2, l3, l4], [.ref k3, .int i2, .int i1, .ref k0], h) Q = Tr sc d 230 (145, [l0, l1, l2, l3, l4], [.int 3, .ref k3, .int i2, .int i1, .ref k0], h) Q := t_go k_230_144 rfl
theorem k_230_145 : lk 230 145 = some (.iaload, 146, 0, 0, .null) := by decide +kernel
theorem x_230_145 : Tr sc d 230 (145, [l0, l1, l2, l3, l4], [.int i4, .ref k3, .int i2, .int i1, .ref k0], h) Q = (iOk sc h k3 i4 ∧ Tr sc d 230 (146, [l0, l1, l2, l3, l4], [.int (iRd sc h k3 i4), .int i2, .int i1, .ref k0], h) Q) := t_iald k_230_145
theorem k_230_146 : lk 230 146 = some (.if_icmp .le 8, 149, 154, 0, .null) := by decide +kernel
theorem x_230_146 : Tr sc d 230 (146, [l0, l1, l2, l3, l4], [.int i3, .int i2, .int i1, .ref k0], h) Q = if i2 ≤ i3 then Tr sc d 230 (154, [l0, l1, l2, l3, l4], [.int i1, .ref k0], h) Q else Tr sc d 230 (149, [l0, l1, l2, l3, l4], [.int i1, .ref k0], h) Q := t_if k_230_146 rfl
theorem k_230_149 : lk 230 149 = some (.iload 4, 151, 4, 0, .null) := by decide +kernel
theorem x_230_149 : Tr sc d 230 (149, [l0, l1, l2, l3, some (.int x)], [.int i1, .ref k0], h) Q = Tr sc d 230 (151, [l0, l1, l2, l3, some (.int x)], [.int x, .int i1, .ref k0], h) Q := t_iload k_230_149 rfl
theorem k_230_151 : lk 230 151 = some (.goto 9, 154, 160, 0, .null) := by decide +kernel
theorem x_230_151 : Tr sc d 230 (151, [l0, l1, l2, l3, l4], [.int i2, .int i1, .ref k0], h) Q = Tr sc d 230 (160, [l0, l1, l2, l3, l4], [.int i2, .int i1, .ref k0], h) Q := t_go k_230_151 rfl
theorem k_230_154 : lk 230 154 = some (.aload_n 0, 155, 0, 0, .null) := by decide +kernel
theorem x_230_154 : Tr sc d 230 (154, [some (.ref xk), l1, l2, l3, l4], [.int i1, .ref k0], h) Q = Tr sc d 230 (155, [some (.ref xk), l1, l2, l3, l4], [.ref xk, .int i1, .ref k0], h) Q := t_aload_n k_230_154 rfl
theorem k_230_155 : lk 230 155 = some (.getfield 113, 158, 10, 55, .null) := by decide +kernel
theorem x_230_155 : Tr sc d 230 (155, [l0, l1, l2, l3, l4], [.ref k2, .int i1, .ref k0], h) Q = (okp h k2 10 = true ∧ ∃ q, hR h k2 55 = some q ∧ Tr sc d 230 (158, [l0, l1, l2, l3, l4], [.ref q, .int i1, .ref k0], h) Q) := t_getr k_230_155
theorem k_230_158 : lk 230 158 = some (.iconst 3, 159, 0, 0, .int 3) := by decide +kernel
theorem x_230_158 : Tr sc d 230 (158, [l0, l1, l2, l3, l4], [.ref k2, .int i1, .ref k0], h) Q = Tr sc d 230 (159, [l0, l1, l2, l3, l4], [.int 3, .ref k2, .int i1, .ref k0], h) Q := t_go k_230_158 rfl
theorem k_230_159 : lk 230 159 = some (.iaload, 160, 0, 0, .null) := by decide +kernel
theorem x_230_159 : Tr sc d 230 (159, [l0, l1, l2, l3, l4], [.int i3, .ref k2, .int i1, .ref k0], h) Q = (iOk sc h k2 i3 ∧ Tr sc d 230 (160, [l0, l1, l2, l3, l4], [.int (iRd sc h k2 i3), .int i1, .ref k0], h) Q) := t_iald k_230_159
theorem k_230_160 : lk 230 160 = some (.iastore, 161, 0, 0, .null) := by decide +kernel
theorem x_230_160 : Tr sc d 230 (160, [l0, l1, l2, l3, l4], [.int i2, .int i1, .ref k0], h) Q = ((okp h k0 11 && inb i1 (LN k0)) = true ∧ Tr sc d 230 (161, [l0, l1, l2, l3, l4], [], (sI h k0 i1.toNatClampNeg i2)) Q) := t_gd k_230_160 rfl
theorem k_230_161 : lk 230 161 = some (.iinc 2 1, 164, 2, 0, .int 1) := by decide +kernel
theorem x_230_161 : Tr sc d 230 (161, [l0, l1, some (.int x), l3, l4], [], h) Q = Tr sc d 230 (164, [l0, cl2 l1, some (.int (x + 1)), l3, l4], [], h) Q := t_inc k_230_161 rfl (Nat.le_of_ble_eq_true rfl)
theorem k_230_164 : lk 230 164 = some (.goto (-162), 167, 2, 0, .null) := by decide +kernel
theorem x_230_164 : Tr sc d 230 (164, [l0, l1, l2, l3, l4], [], h) Q = Tr sc d 230 (2, [l0, l1, l2, l3, l4], [], h) Q := t_go k_230_164 rfl
theorem k_230_167 : lk 230 167 = some (.return_, 168, 0, 0, .null) := by decide +kernel
theorem x_230_167 : Tr sc d 230 (167, [l0, l1, l2, l3, l4], [], h) Q = Q (none, h) := t_ret k_230_167 (by rw [r_230]; rfl)
theorem e_230 : Tr sc d 230 (ent0 230 [.ref k0, .int i1] h) Q = Tr sc d 230 (0, [some (.ref k0), some (.int i1), none, none, none], [], h) Q := by
  have e : mL 230 = 5 := by decide +kernel
  unfold ent0
  rw [e]
  rfl
theorem r_231 : mR 231 = some .boolean := by decide +kernel
theorem k_231_0 : lk 231 0 = some (.aload_n 0, 1, 0, 0, .null) := by decide +kernel
theorem x_231_0 : Tr sc d 231 (0, [some (.ref xk), l1, l2, l3, l4, l5], [], h) Q = Tr sc d 231 (1, [some (.ref xk), l1, l2, l3, l4, l5], [.ref xk], h) Q := t_aload_n k_231_0 rfl
theorem k_231_1 : lk 231 1 = some (.getfield 38, 4, 10, 17, .null) := by decide +kernel
theorem x_231_1 : Tr sc d 231 (1, [l0, l1, l2, l3, l4, l5], [.ref k0], h) Q = (okp h k0 10 = true ∧ ∃ q, hR h k0 17 = some q ∧ Tr sc d 231 (4, [l0, l1, l2, l3, l4, l5], [.ref q], h) Q) := t_getr k_231_1
theorem k_231_4 : lk 231 4 = some (.iload_n 1, 5, 1, 0, .null) := by decide +kernel
theorem x_231_4 : Tr sc d 231 (4, [l0, some (.int x), l2, l3, l4, l5], [.ref k0], h) Q = Tr sc d 231 (5, [l0, some (.int x), l2, l3, l4, l5], [.int x, .ref k0], h) Q := t_iload_n k_231_4 rfl
theorem k_231_5 : lk 231 5 = some (.iaload, 6, 0, 0, .null) := by decide +kernel
theorem x_231_5 : Tr sc d 231 (5, [l0, l1, l2, l3, l4, l5], [.int i1, .ref k0], h) Q = (iOk sc h k0 i1 ∧ Tr sc d 231 (6, [l0, l1, l2, l3, l4, l5], [.int (iRd sc h k0 i1)], h) Q) := t_iald k_231_5
theorem k_231_6 : lk 231 6 = some (.iconst 1, 7, 0, 0, .int 1) := by decide +kernel
theorem x_231_6 : Tr sc d 231 (6, [l0, l1, l2, l3, l4, l5], [.int i0], h) Q = Tr sc d 231 (7, [l0, l1, l2, l3, l4, l5], [.int 1, .int i0], h) Q := t_go k_231_6 rfl
theorem k_231_7 : lk 231 7 = some (.isub, 8, 0, 0, .null) := by decide +kernel
theorem x_231_7 : Tr sc d 231 (7, [l0, l1, l2, l3, l4, l5], [.int i1, .int i0], h) Q = Tr sc d 231 (8, [l0, l1, l2, l3, l4, l5], [.int (i0 - i1)], h) Q := t_go k_231_7 rfl
theorem k_231_8 : lk 231 8 = some (.istore 5, 10, 5, 0, .null) := by decide +kernel
theorem x_231_8 : Tr sc d 231 (8, [l0, l1, l2, l3, l4, l5], [.int i0], h) Q = Tr sc d 231 (10, [l0, l1, l2, l3, cl2 l4, some (.int i0)], [], h) Q := t_istore k_231_8 (Nat.le_of_ble_eq_true rfl)
theorem k_231_10 : lk 231 10 = some (.iload 5, 12, 5, 0, .null) := by decide +kernel
theorem x_231_10 : Tr sc d 231 (10, [l0, l1, l2, l3, l4, some (.int x)], [], h) Q = Tr sc d 231 (12, [l0, l1, l2, l3, l4, some (.int x)], [.int x], h) Q := t_iload k_231_10 rfl
theorem k_231_12 : lk 231 12 = some (.iload_n 2, 13, 2, 0, .null) := by decide +kernel
theorem x_231_12 : Tr sc d 231 (12, [l0, l1, some (.int x), l3, l4, l5], [.int i0], h) Q = Tr sc d 231 (13, [l0, l1, some (.int x), l3, l4, l5], [.int x, .int i0], h) Q := t_iload_n k_231_12 rfl
theorem k_231_13 : lk 231 13 = some (.imul, 14, 0, 0, .null) := by decide +kernel
theorem x_231_13 : Tr sc d 231 (13, [l0, l1, l2, l3, l4, l5], [.int i1, .int i0], h) Q = Tr sc d 231 (14, [l0, l1, l2, l3, l4, l5], [.int (i0 * i1)], h) Q := t_go k_231_13 rfl
theorem k_231_14 : lk 231 14 = some (.iload 4, 16, 4, 0, .null) := by decide +kernel
theorem x_231_14 : Tr sc d 231 (14, [l0, l1, l2, l3, some (.int x), l5], [.int i0], h) Q = Tr sc d 231 (16, [l0, l1, l2, l3, some (.int x), l5], [.int x, .int i0], h) Q := t_iload k_231_14 rfl
theorem k_231_16 : lk 231 16 = some (.aload_n 0, 17, 0, 0, .null) := by decide +kernel
theorem x_231_16 : Tr sc d 231 (16, [some (.ref xk), l1, l2, l3, l4, l5], [.int i1, .int i0], h) Q = Tr sc d 231 (17, [some (.ref xk), l1, l2, l3, l4, l5], [.ref xk, .int i1, .int i0], h) Q := t_aload_n k_231_16 rfl
theorem k_231_17 : lk 231 17 = some (.getfield 113, 20, 10, 55, .null) := by decide +kernel
theorem x_231_17 : Tr sc d 231 (17, [l0, l1, l2, l3, l4, l5], [.ref k2, .int i1, .int i0], h) Q = (okp h k2 10 = true ∧ ∃ q, hR h k2 55 = some q ∧ Tr sc d 231 (20, [l0, l1, l2, l3, l4, l5], [.ref q, .int i1, .int i0], h) Q) := t_getr k_231_17
theorem k_231_20 : lk 231 20 = some (.iconst 0, 21, 0, 0, .int 0) := by decide +kernel
theorem x_231_20 : Tr sc d 231 (20, [l0, l1, l2, l3, l4, l5], [.ref k2, .int i1, .int i0], h) Q = Tr sc d 231 (21, [l0, l1, l2, l3, l4, l5], [.int 0, .ref k2, .int i1, .int i0], h) Q := t_go k_231_20 rfl
theorem k_231_21 : lk 231 21 = some (.iaload, 22, 0, 0, .null) := by decide +kernel
theorem x_231_21 : Tr sc d 231 (21, [l0, l1, l2, l3, l4, l5], [.int i3, .ref k2, .int i1, .int i0], h) Q = (iOk sc h k2 i3 ∧ Tr sc d 231 (22, [l0, l1, l2, l3, l4, l5], [.int (iRd sc h k2 i3), .int i1, .int i0], h) Q) := t_iald k_231_21
theorem k_231_22 : lk 231 22 = some (.imul, 23, 0, 0, .null) := by decide +kernel
theorem x_231_22 : Tr sc d 231 (22, [l0, l1, l2, l3, l4, l5], [.int i2, .int i1, .int i0], h) Q = Tr sc d 231 (23, [l0, l1, l2, l3, l4, l5], [.int (i1 * i2), .int i0], h) Q := t_go k_231_22 rfl
theorem k_231_23 : lk 231 23 = some (.iload 4, 25, 4, 0, .null) := by decide +kernel
theorem x_231_23 : Tr sc d 231 (23, [l0, l1, l2, l3, some (.int x), l5], [.int i1, .int i0], h) Q = Tr sc d 231 (25, [l0, l1, l2, l3, some (.int x), l5], [.int x, .int i1, .int i0], h) Q := t_iload k_231_23 rfl
theorem k_231_25 : lk 231 25 = some (.aload_n 0, 26, 0, 0, .null) := by decide +kernel
theorem x_231_25 : Tr sc d 231 (25, [some (.ref xk), l1, l2, l3, l4, l5], [.int i2, .int i1, .int i0], h) Q = Tr sc d 231 (26, [some (.ref xk), l1, l2, l3, l4, l5], [.ref xk, .int i2, .int i1, .int i0], h) Q := t_aload_n k_231_25 rfl
theorem k_231_26 : lk 231 26 = some (.getfield 113, 29, 10, 55, .null) := by decide +kernel
theorem x_231_26 : Tr sc d 231 (26, [l0, l1, l2, l3, l4, l5], [.ref k3, .int i2, .int i1, .int i0], h) Q = (okp h k3 10 = true ∧ ∃ q, hR h k3 55 = some q ∧ Tr sc d 231 (29, [l0, l1, l2, l3, l4, l5], [.ref q, .int i2, .int i1, .int i0], h) Q) := t_getr k_231_26
theorem k_231_29 : lk 231 29 = some (.iconst 1, 30, 0, 0, .int 1) := by decide +kernel
theorem x_231_29 : Tr sc d 231 (29, [l0, l1, l2, l3, l4, l5], [.ref k3, .int i2, .int i1, .int i0], h) Q = Tr sc d 231 (30, [l0, l1, l2, l3, l4, l5], [.int 1, .ref k3, .int i2, .int i1, .int i0], h) Q := t_go k_231_29 rfl
theorem k_231_30 : lk 231 30 = some (.iaload, 31, 0, 0, .null) := by decide +kernel
theorem x_231_30 : Tr sc d 231 (30, [l0, l1, l2, l3, l4, l5], [.int i4, .ref k3, .int i2, .int i1, .int i0], h) Q = (iOk sc h k3 i4 ∧ Tr sc d 231 (31, [l0, l1, l2, l3, l4, l5], [.int (iRd sc h k3 i4), .int i2, .int i1, .int i0], h) Q) := t_iald k_231_30
theorem k_231_31 : lk 231 31 = some (.imul, 32, 0, 0, .null) := by decide +kernel
theorem x_231_31 : Tr sc d 231 (31, [l0, l1, l2, l3, l4, l5], [.int i3, .int i2, .int i1, .int i0], h) Q = Tr sc d 231 (32, [l0, l1, l2, l3, l4, l5], [.int (i2 * i3), .int i1, .int i0], h) Q := t_go k_231_31 rfl
theorem k_231_32 : lk 231 32 = some (.invokestatic 144, 35, 157, 3, .null) := by decide +kernel
theorem x_231_32 : Tr sc (d + 1) 231 (32, [l0, l1, l2, l3, l4, l5], [.int i2, .int i1, .int i0], h) Q = Tr sc d 157 (ent0 157 [.int i0, .int i1, .int i2] h) (fun z => Tr sc (d + 1) 231 (35, [l0, l1, l2, l3, l4, l5], z.1.toList ++ [], z.2) Q) := t_cs (as := [.int i0, .int i1, .int i2]) (r := []) k_231_32 (by decide) rfl rfl (Nat.le_of_ble_eq_true rfl) (Nat.le_of_ble_eq_true rfl)
theorem k_231_35 : lk 231 35 = some (.ifCond .eq 35, 38, 70, 0, .null) := by decide +kernel
theorem x_231_35 : Tr sc d 231 (35, [l0, l1, l2, l3, l4, l5], [.int i0], h) Q = if i0 = 0 then Tr sc d 231 (70, [l0, l1, l2, l3, l4, l5], [], h) Q else Tr sc d 231 (38, [l0, l1, l2, l3, l4, l5], [], h) Q := t_if k_231_35 rfl
theorem k_231_38 : lk 231 38 = some (.iload 5, 40, 5, 0, .null) := by decide +kernel
theorem x_231_38 : Tr sc d 231 (38, [l0, l1, l2, l3, l4, some (.int x)], [], h) Q = Tr sc d 231 (40, [l0, l1, l2, l3, l4, some (.int x)], [.int x], h) Q := t_iload k_231_38 rfl
theorem k_231_40 : lk 231 40 = some (.iload_n 3, 41, 3, 0, .null) := by decide +kernel
theorem x_231_40 : Tr sc d 231 (40, [l0, l1, l2, some (.int x), l4, l5], [.int i0], h) Q = Tr sc d 231 (41, [l0, l1, l2, some (.int x), l4, l5], [.int x, .int i0], h) Q := t_iload_n k_231_40 rfl
theorem k_231_41 : lk 231 41 = some (.imul, 42, 0, 0, .null) := by decide +kernel
theorem x_231_41 : Tr sc d 231 (41, [l0, l1, l2, l3, l4, l5], [.int i1, .int i0], h) Q = Tr sc d 231 (42, [l0, l1, l2, l3, l4, l5], [.int (i0 * i1)], h) Q := t_go k_231_41 rfl
theorem k_231_42 : lk 231 42 = some (.iload 4, 44, 4, 0, .null) := by decide +kernel
theorem x_231_42 : Tr sc d 231 (42, [l0, l1, l2, l3, some (.int x), l5], [.int i0], h) Q = Tr sc d 231 (44, [l0, l1, l2, l3, some (.int x), l5], [.int x, .int i0], h) Q := t_iload k_231_42 rfl
theorem k_231_44 : lk 231 44 = some (.aload_n 0, 45, 0, 0, .null) := by decide +kernel
theorem x_231_44 : Tr sc d 231 (44, [some (.ref xk), l1, l2, l3, l4, l5], [.int i1, .int i0], h) Q = Tr sc d 231 (45, [some (.ref xk), l1, l2, l3, l4, l5], [.ref xk, .int i1, .int i0], h) Q := t_aload_n k_231_44 rfl
theorem k_231_45 : lk 231 45 = some (.getfield 113, 48, 10, 55, .null) := by decide +kernel
theorem x_231_45 : Tr sc d 231 (45, [l0, l1, l2, l3, l4, l5], [.ref k2, .int i1, .int i0], h) Q = (okp h k2 10 = true ∧ ∃ q, hR h k2 55 = some q ∧ Tr sc d 231 (48, [l0, l1, l2, l3, l4, l5], [.ref q, .int i1, .int i0], h) Q) := t_getr k_231_45
theorem k_231_48 : lk 231 48 = some (.iconst 2, 49, 0, 0, .int 2) := by decide +kernel
theorem x_231_48 : Tr sc d 231 (48, [l0, l1, l2, l3, l4, l5], [.ref k2, .int i1, .int i0], h) Q = Tr sc d 231 (49, [l0, l1, l2, l3, l4, l5], [.int 2, .ref k2, .int i1, .int i0], h) Q := t_go k_231_48 rfl
theorem k_231_49 : lk 231 49 = some (.iaload, 50, 0, 0, .null) := by decide +kernel
theorem x_231_49 : Tr sc d 231 (49, [l0, l1, l2, l3, l4, l5], [.int i3, .ref k2, .int i1, .int i0], h) Q = (iOk sc h k2 i3 ∧ Tr sc d 231 (50, [l0, l1, l2, l3, l4, l5], [.int (iRd sc h k2 i3), .int i1, .int i0], h) Q) := t_iald k_231_49
theorem k_231_50 : lk 231 50 = some (.imul, 51, 0, 0, .null) := by decide +kernel
theorem x_231_50 : Tr sc d 231 (50, [l0, l1, l2, l3, l4, l5], [.int i2, .int i1, .int i0], h) Q = Tr sc d 231 (51, [l0, l1, l2, l3, l4, l5], [.int (i1 * i2), .int i0], h) Q := t_go k_231_50 rfl
theorem k_231_51 : lk 231 51 = some (.iload 4, 53, 4, 0, .null) := by decide +kernel
theorem x_231_51 : Tr sc d 231 (51, [l0, l1, l2, l3, some (.int x), l5], [.int i1, .int i0], h) Q = Tr sc d 231 (53, [l0, l1, l2, l3, some (.int x), l5], [.int x, .int i1, .int i0], h) Q := t_iload k_231_51 rfl
theorem k_231_53 : lk 231 53 = some (.aload_n 0, 54, 0, 0, .null) := by decide +kernel
theorem x_231_53 : Tr sc d 231 (53, [some (.ref xk), l1, l2, l3, l4, l5], [.int i2, .int i1, .int i0], h) Q = Tr sc d 231 (54, [some (.ref xk), l1, l2, l3, l4, l5], [.ref xk, .int i2, .int i1, .int i0], h) Q := t_aload_n k_231_53 rfl
theorem k_231_54 : lk 231 54 = some (.getfield 113, 57, 10, 55, .null) := by decide +kernel
theorem x_231_54 : Tr sc d 231 (54, [l0, l1, l2, l3, l4, l5], [.ref k3, .int i2, .int i1, .int i0], h) Q = (okp h k3 10 = true ∧ ∃ q, hR h k3 55 = some q ∧ Tr sc d 231 (57, [l0, l1, l2, l3, l4, l5], [.ref q, .int i2, .int i1, .int i0], h) Q) := t_getr k_231_54
theorem k_231_57 : lk 231 57 = some (.iconst 3, 58, 0, 0, .int 3) := by decide +kernel
theorem x_231_57 : Tr sc d 231 (57, [l0, l1, l2, l3, l4, l5], [.ref k3, .int i2, .int i1, .int i0], h) Q = Tr sc d 231 (58, [l0, l1, l2, l3, l4, l5], [.int 3, .ref k3, .int i2, .int i1, .int i0], h) Q := t_go k_231_57 rfl
theorem k_231_58 : lk 231 58 = some (.iaload, 59, 0, 0, .null) := by decide +kernel
theorem x_231_58 : Tr sc d 231 (58, [l0, l1, l2, l3, l4, l5], [.int i4, .ref k3, .int i2, .int i1, .int i0], h) Q = (iOk sc h k3 i4 ∧ Tr sc d 231 (59, [l0, l1, l2, l3, l4, l5], [.int (iRd sc h k3 i4), .int i2, .int i1, .int i0], h) Q) := t_iald k_231_58
theorem k_231_59 : lk 231 59 = some (.imul, 60, 0, 0, .null) := by decide +kernel
theorem x_231_59 : Tr sc d 231 (59, [l0, l1, l2, l3, l4, l5], [.int i3, .int i2, .int i1, .int i0], h) Q = Tr sc d 231 (60, [l0, l1, l2, l3, l4, l5], [.int (i2 * i3), .int i1, .int i0], h) Q := t_go k_231_59 rfl
theorem k_231_60 : lk 231 60 = some (.invokestatic 144, 63, 157, 3, .null) := by decide +kernel
theorem x_231_60 : Tr sc (d + 1) 231 (60, [l0, l1, l2, l3, l4, l5], [.int i2, .int i1, .int i0], h) Q = Tr sc d 157 (ent0 157 [.int i0, .int i1, .int i2] h) (fun z => Tr sc (d + 1) 231 (63, [l0, l1, l2, l3, l4, l5], z.1.toList ++ [], z.2) Q) := t_cs (as := [.int i0, .int i1, .int i2]) (r := []) k_231_60 (by decide) rfl rfl (Nat.le_of_ble_eq_true rfl) (Nat.le_of_ble_eq_true rfl)
theorem k_231_63 : lk 231 63 = some (.ifCond .eq 7, 66, 70, 0, .null) := by decide +kernel
theorem x_231_63 : Tr sc d 231 (63, [l0, l1, l2, l3, l4, l5], [.int i0], h) Q = if i0 = 0 then Tr sc d 231 (70, [l0, l1, l2, l3, l4, l5], [], h) Q else Tr sc d 231 (66, [l0, l1, l2, l3, l4, l5], [], h) Q := t_if k_231_63 rfl
theorem k_231_66 : lk 231 66 = some (.iconst 1, 67, 0, 0, .int 1) := by decide +kernel
theorem x_231_66 : Tr sc d 231 (66, [l0, l1, l2, l3, l4, l5], [], h) Q = Tr sc d 231 (67, [l0, l1, l2, l3, l4, l5], [.int 1], h) Q := t_go k_231_66 rfl
theorem k_231_67 : lk 231 67 = some (.goto 4, 70, 71, 0, .null) := by decide +kernel
theorem x_231_67 : Tr sc d 231 (67, [l0, l1, l2, l3, l4, l5], [.int i0], h) Q = Tr sc d 231 (71, [l0, l1, l2, l3, l4, l5], [.int i0], h) Q := t_go k_231_67 rfl
theorem k_231_70 : lk 231 70 = some (.iconst 0, 71, 0, 0, .int 0) := by decide +kernel
theorem x_231_70 : Tr sc d 231 (70, [l0, l1, l2, l3, l4, l5], [], h) Q = Tr sc d 231 (71, [l0, l1, l2, l3, l4, l5], [.int 0], h) Q := t_go k_231_70 rfl
theorem k_231_71 : lk 231 71 = some (.ireturn, 72, 0, 0, .null) := by decide +kernel
theorem x_231_71 : Tr sc d 231 (71, [l0, l1, l2, l3, l4, l5], [.int i0], h) Q = (vp_nar .boolean i0 = i0 ∧ Q (some (.int i0), h)) := t_zret k_231_71 r_231
theorem e_231 : Tr sc d 231 (ent0 231 [.ref k0, .int i1, .int i2, .int i3, .int i4] h) Q = Tr sc d 231 (0, [some (.ref k0), some (.int i1), some (.int i2), some (.int i3), some (.int i4), none], [], h) Q := by
  have e : mL 231 = 6 := by decide +kernel
  unfold ent0
  rw [e]
  rfl
theorem r_232 : mR 232 = some .int := by decide +kernel
theorem k_232_0 : lk 232 0 = some (.bipush (-9), 2, 0, 0, .int (-9)) := by decide +kernel
theorem x_232_0 : Tr sc d 232 (0, [l0, l1, l2, l3, l4], [], h) Q = Tr sc d 232 (2, [l0, l1, l2, l3, l4], [.int (-9)], h) Q := t_go k_232_0 rfl
theorem k_232_2 : lk 232 2 = some (.istore_n 3, 3, 3, 0, .null) := by decide +kernel
theorem x_232_2 : Tr sc d 232 (2, [l0, l1, l2, l3, l4], [.int i0], h) Q = Tr sc d 232 (3, [l0, l1, cl2 l2, some (.int i0), l4], [], h) Q := t_istore_n k_232_2 (Nat.le_of_ble_eq_true rfl)
theorem k_232_3 : lk 232 3 = some (.iconst 0, 4, 0, 0, .int 0) := by decide +kernel
theorem x_232_3 : Tr sc d 232 (3, [l0, l1, l2, l3, l4], [], h) Q = Tr sc d 232 (4, [l0, l1, l2, l3, l4], [.int 0], h) Q := t_go k_232_3 rfl
theorem k_232_4 : lk 232 4 = some (.istore 4, 6, 4, 0, .null) := by decide +kernel
theorem x_232_4 : Tr sc d 232 (4, [l0, l1, l2, l3, l4], [.int i0], h) Q = Tr sc d 232 (6, [l0, l1, l2, cl2 l3, some (.int i0)], [], h) Q := t_istore k_232_4 (Nat.le_of_ble_eq_true rfl)
theorem k_232_6 : lk 232 6 = some (.iload 4, 8, 4, 0, .null) := by decide +kernel
theorem x_232_6 : Tr sc d 232 (6, [l0, l1, l2, l3, some (.int x)], [], h) Q = Tr sc d 232 (8, [l0, l1, l2, l3, some (.int x)], [.int x], h) Q := t_iload k_232_6 rfl
theorem k_232_8 : lk 232 8 = some (.aload_n 0, 9, 0, 0, .null) := by decide +kernel
theorem x_232_8 : Tr sc d 232 (8, [some (.ref xk), l1, l2, l3, l4], [.int i0], h) Q = Tr sc d 232 (9, [some (.ref xk), l1, l2, l3, l4], [.ref xk, .int i0], h) Q := t_aload_n k_232_8 rfl
theorem k_232_9 : lk 232 9 = some (.getfield 346, 12, 10, 50, .int 0) := by decide +kernel
theorem x_232_9 : Tr sc d 232 (9, [l0, l1, l2, l3, l4], [.ref k1, .int i0], h) Q = (okp h k1 10 = true ∧ Tr sc d 232 (12, [l0, l1, l2, l3, l4], [.int (hI h k1 50), .int i0], h) Q) := t_gd k_232_9 rfl
theorem k_232_12 : lk 232 12 = some (.if_icmp .ge 38, 15, 50, 0, .null) := by decide +kernel
theorem x_232_12 : Tr sc d 232 (12, [l0, l1, l2, l3, l4], [.int i1, .int i0], h) Q = if i1 ≤ i0 then Tr sc d 232 (50, [l0, l1, l2, l3, l4], [], h) Q else Tr sc d 232 (15, [l0, l1, l2, l3, l4], [], h) Q := t_if k_232_12 rfl
theorem k_232_15 : lk 232 15 = some (.aload_n 0, 16, 0, 0, .null) := by decide +kernel
theorem x_232_15 : Tr sc d 232 (15, [some (.ref xk), l1, l2, l3, l4], [], h) Q = Tr sc d 232 (16, [some (.ref xk), l1, l2, l3, l4], [.ref xk], h) Q := t_aload_n k_232_15 rfl
theorem k_232_16 : lk 232 16 = some (.getfield 101, 19, 10, 51, .null) := by decide +kernel
theorem x_232_16 : Tr sc d 232 (16, [l0, l1, l2, l3, l4], [.ref k0], h) Q = (okp h k0 10 = true ∧ ∃ q, hR h k0 51 = some q ∧ Tr sc d 232 (19, [l0, l1, l2, l3, l4], [.ref q], h) Q) := t_getr k_232_16
theorem k_232_19 : lk 232 19 = some (.iload 4, 21, 4, 0, .null) := by decide +kernel
theorem x_232_19 : Tr sc d 232 (19, [l0, l1, l2, l3, some (.int x)], [.ref k0], h) Q = Tr sc d 232 (21, [l0, l1, l2, l3, some (.int x)], [.int x, .ref k0], h) Q := t_iload k_232_19 rfl
theorem k_232_21 : lk 232 21 = some (.iaload, 22, 0, 0, .null) := by decide +kernel
theorem x_232_21 : Tr sc d 232 (21, [l0, l1, l2, l3, l4], [.int i1, .ref k0], h) Q = (iOk sc h k0 i1 ∧ Tr sc d 232 (22, [l0, l1, l2, l3, l4], [.int (iRd sc h k0 i1)], h) Q) := t_iald k_232_21
theorem k_232_22 : lk 232 22 = some (.iload_n 1, 23, 1, 0, .null) := by decide +kernel
theorem x_232_22 : Tr sc d 232 (22, [l0, some (.int x), l2, l3, l4], [.int i0], h) Q = Tr sc d 232 (23, [l0, some (.int x), l2, l3, l4], [.int x, .int i0], h) Q := t_iload_n k_232_22 rfl
theorem k_232_23 : lk 232 23 = some (.if_icmp .ne 19, 26, 42, 0, .null) := by decide +kernel
theorem x_232_23 : Tr sc d 232 (23, [l0, l1, l2, l3, l4], [.int i1, .int i0], h) Q = if i0 = i1 then Tr sc d 232 (26, [l0, l1, l2, l3, l4], [], h) Q else Tr sc d 232 (42, [l0, l1, l2, l3, l4], [], h) Q := t_if k_232_23 rfl
theorem k_232_26 : lk 232 26 = some (.aload_n 0, 27, 0, 0, .null) := by decide +kernel
theorem x_232_26 : Tr sc d 232 (26, [some (.ref xk), l1, l2, l3, l4], [], h) Q = Tr sc d 232 (27, [some (.ref xk), l1, l2, l3, l4], [.ref xk], h) Q := t_aload_n k_232_26 rfl
theorem k_232_27 : lk 232 27 = some (.getfield 104, 30, 10, 52, .null) := by decide +kernel
theorem x_232_27 : Tr sc d 232 (27, [l0, l1, l2, l3, l4], [.ref k0], h) Q = (okp h k0 10 = true ∧ ∃ q, hR h k0 52 = some q ∧ Tr sc d 232 (30, [l0, l1, l2, l3, l4], [.ref q], h) Q) := t_getr k_232_27
theorem k_232_30 : lk 232 30 = some (.iload 4, 32, 4, 0, .null) := by decide +kernel
theorem x_232_30 : Tr sc d 232 (30, [l0, l1, l2, l3, some (.int x)], [.ref k0], h) Q = Tr sc d 232 (32, [l0, l1, l2, l3, some (.int x)], [.int x, .ref k0], h) Q := t_iload k_232_30 rfl
theorem k_232_32 : lk 232 32 = some (.iaload, 33, 0, 0, .null) := by decide +kernel
theorem x_232_32 : Tr sc d 232 (32, [l0, l1, l2, l3, l4], [.int i1, .ref k0], h) Q = (iOk sc h k0 i1 ∧ Tr sc d 232 (33, [l0, l1, l2, l3, l4], [.int (iRd sc h k0 i1)], h) Q) := t_iald k_232_32
theorem k_232_33 : lk 232 33 = some (.iload_n 2, 34, 2, 0, .null) := by decide +kernel
theorem x_232_33 : Tr sc d 232 (33, [l0, l1, some (.int x), l3, l4], [.int i0], h) Q = Tr sc d 232 (34, [l0, l1, some (.int x), l3, l4], [.int x, .int i0], h) Q := t_iload_n k_232_33 rfl
theorem k_232_34 : lk 232 34 = some (.if_icmp .ne 8, 37, 42, 0, .null) := by decide +kernel
theorem x_232_34 : Tr sc d 232 (34, [l0, l1, l2, l3, l4], [.int i1, .int i0], h) Q = if i0 = i1 then Tr sc d 232 (37, [l0, l1, l2, l3, l4], [], h) Q else Tr sc d 232 (42, [l0, l1, l2, l3, l4], [], h) Q := t_if k_232_34 rfl
theorem k_232_37 : lk 232 37 = some (.iload 4, 39, 4, 0, .null) := by decide +kernel
theorem x_232_37 : Tr sc d 232 (37, [l0, l1, l2, l3, some (.int x)], [], h) Q = Tr sc d 232 (39, [l0, l1, l2, l3, some (.int x)], [.int x], h) Q := t_iload k_232_37 rfl
theorem k_232_39 : lk 232 39 = some (.goto 4, 42, 43, 0, .null) := by decide +kernel
theorem x_232_39 : Tr sc d 232 (39, [l0, l1, l2, l3, l4], [.int i0], h) Q = Tr sc d 232 (43, [l0, l1, l2, l3, l4], [.int i0], h) Q := t_go k_232_39 rfl
theorem k_232_42 : lk 232 42 = some (.iload_n 3, 43, 3, 0, .null) := by decide +kernel
theorem x_232_42 : Tr sc d 232 (42, [l0, l1, l2, some (.int x), l4], [], h) Q = Tr sc d 232 (43, [l0, l1, l2, some (.int x), l4], [.int x], h) Q := t_iload_n k_232_42 rfl
theorem k_232_43 : lk 232 43 = some (.istore_n 3, 44, 3, 0, .null) := by decide +kernel
theorem x_232_43 : Tr sc d 232 (43, [l0, l1, l2, l3, l4], [.int i0], h) Q = Tr sc d 232 (44, [l0, l1, cl2 l2, some (.int i0), l4], [], h) Q := t_istore_n k_232_43 (Nat.le_of_ble_eq_true rfl)
theorem k_232_44 : lk 232 44 = some (.iinc 4 1, 47, 4, 0, .int 1) := by decide +kernel
theorem x_232_44 : Tr sc d 232 (44, [l0, l1, l2, l3, some (.int x)], [], h) Q = Tr sc d 232 (47, [l0, l1, l2, cl2 l3, some (.int (x + 1))], [], h) Q := t_inc k_232_44 rfl (Nat.le_of_ble_eq_true rfl)
theorem k_232_47 : lk 232 47 = some (.goto (-41), 50, 6, 0, .null) := by decide +kernel
theorem x_232_47 : Tr sc d 232 (47, [l0, l1, l2, l3, l4], [], h) Q = Tr sc d 232 (6, [l0, l1, l2, l3, l4], [], h) Q := t_go k_232_47 rfl
theorem k_232_50 : lk 232 50 = some (.iload_n 3, 51, 3, 0, .null) := by decide +kernel
theorem x_232_50 : Tr sc d 232 (50, [l0, l1, l2, some (.int x), l4], [], h) Q = Tr sc d 232 (51, [l0, l1, l2, some (.int x), l4], [.int x], h) Q := t_iload_n k_232_50 rfl
theorem k_232_51 : lk 232 51 = some (.ireturn, 52, 0, 0, .null) := by decide +kernel
theorem x_232_51 : Tr sc d 232 (51, [l0, l1, l2, l3, l4], [.int i0], h) Q = Q (some (.int i0), h) := t_ret k_232_51 (by rw [r_232]; rfl)
theorem e_232 : Tr sc d 232 (ent0 232 [.ref k0, .int i1, .int i2] h) Q = Tr sc d 232 (0, [some (.ref k0), some (.int i1), some (.int i2), none, none], [], h) Q := by
  have e : mL 232 = 5 := by decide +kernel
  unfold ent0
  rw [e]
  rfl
theorem r_233 : mR 233 = some .int := by decide +kernel
theorem k_233_0 : lk 233 0 = some (.iload_n 2, 1, 2, 0, .null) := by decide +kernel
theorem x_233_0 : Tr sc d 233 (0, [l0, l1, some (.int x), l3, l4, l5, l6, l7, l8, l9, l10], [], h) Q = Tr sc d 233 (1, [l0, l1, some (.int x), l3, l4, l5, l6, l7, l8, l9, l10], [.int x], h) Q := t_iload_n k_233_0 rfl
theorem k_233_1 : lk 233 1 = some (.sipush (-200), 4, 0, 0, .int (-200)) := by decide +kernel
theorem x_233_1 : Tr sc d 233 (1, [l0, l1, l2, l3, l4, l5, l6, l7, l8, l9, l10], [.int i0], h) Q = Tr sc d 233 (4, [l0, l1, l2, l3, l4, l5, l6, l7, l8, l9, l10], [.int (-200), .int i0], h) Q := t_go k_233_1 rfl
theorem k_233_4 : lk 233 4 = some (.sipush 200, 7, 0, 0, .int 200) := by decide +kernel
theorem x_233_4 : Tr sc d 233 (4, [l0, l1, l2, l3, l4, l5, l6, l7, l8, l9, l10], [.int i1, .int i0], h) Q = Tr sc d 233 (7, [l0, l1, l2, l3, l4, l5, l6, l7, l8, l9, l10], [.int 200, .int i1, .int i0], h) Q := t_go k_233_4 rfl
theorem k_233_7 : lk 233 7 = some (.invokestatic 144, 10, 157, 3, .null) := by decide +kernel
theorem x_233_7 : Tr sc (d + 1) 233 (7, [l0, l1, l2, l3, l4, l5, l6, l7, l8, l9, l10], [.int i2, .int i1, .int i0], h) Q = Tr sc d 157 (ent0 157 [.int i0, .int i1, .int i2] h) (fun z => Tr sc (d + 1) 233 (10, [l0, l1, l2, l3, l4, l5, l6, l7, l8, l9, l10], z.1.toList ++ [], z.2) Q) := t_cs (as := [.int i0, .int i1, .int i2]) (r := []) k_233_7 (by decide) rfl rfl (Nat.le_of_ble_eq_true rfl) (Nat.le_of_ble_eq_true rfl)
theorem k_233_10 : lk 233 10 = some (.ifCond .eq 27, 13, 37, 0, .null) := by decide +kernel
theorem x_233_10 : Tr sc d 233 (10, [l0, l1, l2, l3, l4, l5, l6, l7, l8, l9, l10], [.int i0], h) Q = if i0 = 0 then Tr sc d 233 (37, [l0, l1, l2, l3, l4, l5, l6, l7, l8, l9, l10], [], h) Q else Tr sc d 233 (13, [l0, l1, l2, l3, l4, l5, l6, l7, l8, l9, l10], [], h) Q := t_if k_233_10 rfl
theorem k_233_13 : lk 233 13 = some (.iload_n 3, 14, 3, 0, .null) := by decide +kernel
theorem x_233_13 : Tr sc d 233 (13, [l0, l1, l2, some (.int x), l4, l5, l6, l7, l8, l9, l10], [], h) Q = Tr sc d 233 (14, [l0, l1, l2, some (.int x), l4, l5, l6, l7, l8, l9, l10], [.int x], h) Q := t_iload_n k_233_13 rfl
theorem k_233_14 : lk 233 14 = some (.sipush (-200), 17, 0, 0, .int (-200)) := by decide +kernel
theorem x_233_14 : Tr sc d 233 (14, [l0, l1, l2, l3, l4, l5, l6, l7, l8, l9, l10], [.int i0], h) Q = Tr sc d 233 (17, [l0, l1, l2, l3, l4, l5, l6, l7, l8, l9, l10], [.int (-200), .int i0], h) Q := t_go k_233_14 rfl
theorem k_233_17 : lk 233 17 = some (.sipush 200, 20, 0, 0, .int 200) := by decide +kernel
theorem x_233_17 : Tr sc d 233 (17, [l0, l1, l2, l3, l4, l5, l6, l7, l8, l9, l10], [.int i1, .int i0], h) Q = Tr sc d 233 (20, [l0, l1, l2, l3, l4, l5, l6, l7, l8, l9, l10], [.int 200, .int i1, .int i0], h) Q := t_go k_233_17 rfl
theorem k_233_20 : lk 233 20 = some (.invokestatic 144, 23, 157, 3, .null) := by decide +kernel
theorem x_233_20 : Tr sc (d + 1) 233 (20, [l0, l1, l2, l3, l4, l5, l6, l7, l8, l9, l10], [.int i2, .int i1, .int i0], h) Q = Tr sc d 157 (ent0 157 [.int i0, .int i1, .int i2] h) (fun z => Tr sc (d + 1) 233 (23, [l0, l1, l2, l3, l4, l5, l6, l7, l8, l9, l10], z.1.toList ++ [], z.2) Q) := t_cs (as := [.int i0, .int i1, .int i2]) (r := []) k_233_20 (by decide) rfl rfl (Nat.le_of_ble_eq_true rfl) (Nat.le_of_ble_eq_true rfl)
theorem k_233_23 : lk 233 23 = some (.ifCond .eq 14, 26, 37, 0, .null) := by decide +kernel
theorem x_233_23 : Tr sc d 233 (23, [l0, l1, l2, l3, l4, l5, l6, l7, l8, l9, l10], [.int i0], h) Q = if i0 = 0 then Tr sc d 233 (37, [l0, l1, l2, l3, l4, l5, l6, l7, l8, l9, l10], [], h) Q else Tr sc d 233 (26, [l0, l1, l2, l3, l4, l5, l6, l7, l8, l9, l10], [], h) Q := t_if k_233_23 rfl
theorem k_233_26 : lk 233 26 = some (.iload 4, 28, 4, 0, .null) := by decide +kernel
theorem x_233_26 : Tr sc d 233 (26, [l0, l1, l2, l3, some (.int x), l5, l6, l7, l8, l9, l10], [], h) Q = Tr sc d 233 (28, [l0, l1, l2, l3, some (.int x), l5, l6, l7, l8, l9, l10], [.int x], h) Q := t_iload k_233_26 rfl
theorem k_233_28 : lk 233 28 = some (.iconst 1, 29, 0, 0, .int 1) := by decide +kernel
theorem x_233_28 : Tr sc d 233 (28, [l0, l1, l2, l3, l4, l5, l6, l7, l8, l9, l10], [.int i0], h) Q = Tr sc d 233 (29, [l0, l1, l2, l3, l4, l5, l6, l7, l8, l9, l10], [.int 1, .int i0], h) Q := t_go k_233_28 rfl
theorem k_233_29 : lk 233 29 = some (.bipush 12, 31, 0, 0, .int 12) := by decide +kernel
theorem x_233_29 : Tr sc d 233 (29, [l0, l1, l2, l3, l4, l5, l6, l7, l8, l9, l10], [.int i1, .int i0], h) Q = Tr sc d 233 (31, [l0, l1, l2, l3, l4, l5, l6, l7, l8, l9, l10], [.int 12, .int i1, .int i0], h) Q := t_go k_233_29 rfl
theorem k_233_31 : lk 233 31 = some (.invokestatic 144, 34, 157, 3, .null) := by decide +kernel
theorem x_233_31 : Tr sc (d + 1) 233 (31, [l0, l1, l2, l3, l4, l5, l6, l7, l8, l9, l10], [.int i2, .int i1, .int i0], h) Q = Tr sc d 157 (ent0 157 [.int i0, .int i1, .int i2] h) (fun z => Tr sc (d + 1) 233 (34, [l0, l1, l2, l3, l4, l5, l6, l7, l8, l9, l10], z.1.toList ++ [], z.2) Q) := t_cs (as := [.int i0, .int i1, .int i2]) (r := []) k_233_31 (by decide) rfl rfl (Nat.le_of_ble_eq_true rfl) (Nat.le_of_ble_eq_true rfl)
theorem k_233_34 : lk 233 34 = some (.ifCond .ne 5, 37, 39, 0, .null) := by decide +kernel
theorem x_233_34 : Tr sc d 233 (34, [l0, l1, l2, l3, l4, l5, l6, l7, l8, l9, l10], [.int i0], h) Q = if i0 = 0 then Tr sc d 233 (37, [l0, l1, l2, l3, l4, l5, l6, l7, l8, l9, l10], [], h) Q else Tr sc d 233 (39, [l0, l1, l2, l3, l4, l5, l6, l7, l8, l9, l10], [], h) Q := t_if k_233_34 rfl
theorem k_233_37 : lk 233 37 = some (.iconst (-1), 38, 0, 0, .int (-1)) := by decide +kernel
theorem x_233_37 : Tr sc d 233 (37, [l0, l1, l2, l3, l4, l5, l6, l7, l8, l9, l10], [], h) Q = Tr sc d 233 (38, [l0, l1, l2, l3, l4, l5, l6, l7, l8, l9, l10], [.int (-1)], h) Q := t_go k_233_37 rfl
theorem k_233_38 : lk 233 38 = some (.ireturn, 39, 0, 0, .null) := by decide +kernel
theorem x_233_38 : Tr sc d 233 (38, [l0, l1, l2, l3, l4, l5, l6, l7, l8, l9, l10], [.int i0], h) Q = Q (some (.int i0), h) := t_ret k_233_38 (by rw [r_233]; rfl)
theorem k_233_39 : lk 233 39 = some (.aload_n 0, 40, 0, 0, .null) := by decide +kernel
theorem x_233_39 : Tr sc d 233 (39, [some (.ref xk), l1, l2, l3, l4, l5, l6, l7, l8, l9, l10], [], h) Q = Tr sc d 233 (40, [some (.ref xk), l1, l2, l3, l4, l5, l6, l7, l8, l9, l10], [.ref xk], h) Q := t_aload_n k_233_39 rfl
theorem k_233_40 : lk 233 40 = some (.iload_n 1, 41, 1, 0, .null) := by decide +kernel
theorem x_233_40 : Tr sc d 233 (40, [l0, some (.int x), l2, l3, l4, l5, l6, l7, l8, l9, l10], [.ref k0], h) Q = Tr sc d 233 (41, [l0, some (.int x), l2, l3, l4, l5, l6, l7, l8, l9, l10], [.int x, .ref k0], h) Q := t_iload_n k_233_40 rfl
theorem k_233_41 : lk 233 41 = some (.invokevirtual 220, 44, 177, 1, .null) := by decide +kernel
theorem x_233_41 : Tr sc (d + 1) 233 (41, [l0, l1, l2, l3, l4, l5, l6, l7, l8, l9, l10], [.int i1, .ref k0], h) Q = (okp h k0 10 = true ∧ Tr sc d 177 (ent0 177 [.ref k0, .int i1] h) (fun z => Tr sc (d + 1) 233 (44, [l0, l1, l2, l3, l4, l5, l6, l7, l8, l9, l10], z.1.toList ++ [], z.2) Q)) := t_cv (as := [.int i1]) (r := []) k_233_41 rfl rfl (Nat.le_of_ble_eq_true rfl) (Nat.le_of_ble_eq_true rfl) (Nat.le_of_ble_eq_true rfl)
theorem k_233_44 : lk 233 44 = some (.istore 5, 46, 5, 0, .null) := by decide +kernel
theorem x_233_44 : Tr sc d 233 (44, [l0, l1, l2, l3, l4, l5, l6, l7, l8, l9, l10], [.int i0], h) Q = Tr sc d 233 (46, [l0, l1, l2, l3, cl2 l4, some (.int i0), l6, l7, l8, l9, l10], [], h) Q := t_istore k_233_44 (Nat.le_of_ble_eq_true rfl)
theorem k_233_46 : lk 233 46 = some (.iload 5, 48, 5, 0, .null) := by decide +kernel
theorem x_233_46 : Tr sc d 233 (46, [l0, l1, l2, l3, l4, some (.int x), l6, l7, l8, l9, l10], [], h) Q = Tr sc d 233 (48, [l0, l1, l2, l3, l4, some (.int x), l6, l7, l8, l9, l10], [.int x], h) Q := t_iload k_233_46 rfl
theorem k_233_48 : lk 233 48 = some (.ifCond .ge 6, 51, 54, 0, .null) := by decide +kernel
theorem x_233_48 : Tr sc d 233 (48, [l0, l1, l2, l3, l4, l5, l6, l7, l8, l9, l10], [.int i0], h) Q = if 0 ≤ i0 then Tr sc d 233 (54, [l0, l1, l2, l3, l4, l5, l6, l7, l8, l9, l10], [], h) Q else Tr sc d 233 (51, [l0, l1, l2, l3, l4, l5, l6, l7, l8, l9, l10], [], h) Q := t_if k_233_48 rfl
theorem k_233_51 : lk 233 51 = some (.iload 5, 53, 5, 0, .null) := by decide +kernel
theorem x_233_51 : Tr sc d 233 (51, [l0, l1, l2, l3, l4, some (.int x), l6, l7, l8, l9, l10], [], h) Q = Tr sc d 233 (53, [l0, l1, l2, l3, l4, some (.int x), l6, l7, l8, l9, l10], [.int x], h) Q := t_iload k_233_51 rfl
theorem k_233_53 : lk 233 53 = some (.ireturn, 54, 0, 0, .null) := by decide +kernel
theorem x_233_53 : Tr sc d 233 (53, [l0, l1, l2, l3, l4, l5, l6, l7, l8, l9, l10], [.int i0], h) Q = Q (some (.int i0), h) := t_ret k_233_53 (by rw [r_233]; rfl)
theorem k_233_54 : lk 233 54 = some (.aload_n 0, 55, 0, 0, .null) := by decide +kernel
theorem x_233_54 : Tr sc d 233 (54, [some (.ref xk), l1, l2, l3, l4, l5, l6, l7, l8, l9, l10], [], h) Q = Tr sc d 233 (55, [some (.ref xk), l1, l2, l3, l4, l5, l6, l7, l8, l9, l10], [.ref xk], h) Q := t_aload_n k_233_54 rfl
theorem k_233_55 : lk 233 55 = some (.iload_n 1, 56, 1, 0, .null) := by decide +kernel
theorem x_233_55 : Tr sc d 233 (55, [l0, some (.int x), l2, l3, l4, l5, l6, l7, l8, l9, l10], [.ref k0], h) Q = Tr sc d 233 (56, [l0, some (.int x), l2, l3, l4, l5, l6, l7, l8, l9, l10], [.int x, .ref k0], h) Q := t_iload_n k_233_55 rfl
theorem k_233_56 : lk 233 56 = some (.invokevirtual 223, 59, 194, 1, .null) := by decide +kernel
theorem x_233_56 : Tr sc (d + 1) 233 (56, [l0, l1, l2, l3, l4, l5, l6, l7, l8, l9, l10], [.int i1, .ref k0], h) Q = (okp h k0 10 = true ∧ Tr sc d 194 (ent0 194 [.ref k0, .int i1] h) (fun z => Tr sc (d + 1) 233 (59, [l0, l1, l2, l3, l4, l5, l6, l7, l8, l9, l10], z.1.toList ++ [], z.2) Q)) := t_cv (as := [.int i1]) (r := []) k_233_56 rfl rfl (Nat.le_of_ble_eq_true rfl) (Nat.le_of_ble_eq_true rfl) (Nat.le_of_ble_eq_true rfl)
theorem k_233_59 : lk 233 59 = some (.ifCond .ne 9, 62, 68, 0, .null) := by decide +kernel
theorem x_233_59 : Tr sc d 233 (59, [l0, l1, l2, l3, l4, l5, l6, l7, l8, l9, l10], [.int i0], h) Q = if i0 = 0 then Tr sc d 233 (62, [l0, l1, l2, l3, l4, l5, l6, l7, l8, l9, l10], [], h) Q else Tr sc d 233 (68, [l0, l1, l2, l3, l4, l5, l6, l7, l8, l9, l10], [], h) Q := t_if k_233_59 rfl
theorem k_233_62 : lk 233 62 = some (.aload_n 0, 63, 0, 0, .null) := by decide +kernel
theorem x_233_62 : Tr sc d 233 (62, [some (.ref xk), l1, l2, l3, l4, l5, l6, l7, l8, l9, l10], [], h) Q = Tr sc d 233 (63, [some (.ref xk), l1, l2, l3, l4, l5, l6, l7, l8, l9, l10], [.ref xk], h) Q := t_aload_n k_233_62 rfl
theorem k_233_63 : lk 233 63 = some (.iconst 3, 64, 0, 0, .int 3) := by decide +kernel
theorem x_233_63 : Tr sc d 233 (63, [l0, l1, l2, l3, l4, l5, l6, l7, l8, l9, l10], [.ref k0], h) Q = Tr sc d 233 (64, [l0, l1, l2, l3, l4, l5, l6, l7, l8, l9, l10], [.int 3, .ref k0], h) Q := t_go k_233_63 rfl
theorem k_233_64 : lk 233 64 = some (.invokevirtual 152, 67, 158, 1, .null) := by decide +kernel
theorem x_233_64 : Tr sc (d + 1) 233 (64, [l0, l1, l2, l3, l4, l5, l6, l7, l8, l9, l10], [.int i1, .ref k0], h) Q = (okp h k0 10 = true ∧ Tr sc d 158 (ent0 158 [.ref k0, .int i1] h) (fun z => Tr sc (d + 1) 233 (67, [l0, l1, l2, l3, l4, l5, l6, l7, l8, l9, l10], z.1.toList ++ [], z.2) Q)) := t_cv (as := [.int i1]) (r := []) k_233_64 rfl rfl (Nat.le_of_ble_eq_true rfl) (Nat.le_of_ble_eq_true rfl) (Nat.le_of_ble_eq_true rfl)
theorem k_233_67 : lk 233 67 = some (.ireturn, 68, 0, 0, .null) := by decide +kernel
theorem x_233_67 : Tr sc d 233 (67, [l0, l1, l2, l3, l4, l5, l6, l7, l8, l9, l10], [.int i0], h) Q = Q (some (.int i0), h) := t_ret k_233_67 (by rw [r_233]; rfl)
theorem k_233_68 : lk 233 68 = some (.aload_n 0, 69, 0, 0, .null) := by decide +kernel
theorem x_233_68 : Tr sc d 233 (68, [some (.ref xk), l1, l2, l3, l4, l5, l6, l7, l8, l9, l10], [], h) Q = Tr sc d 233 (69, [some (.ref xk), l1, l2, l3, l4, l5, l6, l7, l8, l9, l10], [.ref xk], h) Q := t_aload_n k_233_68 rfl
theorem k_233_69 : lk 233 69 = some (.iload_n 1, 70, 1, 0, .null) := by decide +kernel
theorem x_233_69 : Tr sc d 233 (69, [l0, some (.int x), l2, l3, l4, l5, l6, l7, l8, l9, l10], [.ref k0], h) Q = Tr sc d 233 (70, [l0, some (.int x), l2, l3, l4, l5, l6, l7, l8, l9, l10], [.int x, .ref k0], h) Q := t_iload_n k_233_69 rfl
theorem k_233_70 : lk 233 70 = some (.invokevirtual 349, 73, 230, 1, .null) := by decide +kernel
theorem x_233_70 : Tr sc (d + 1) 233 (70, [l0, l1, l2, l3, l4, l5, l6, l7, l8, l9, l10], [.int i1, .ref k0], h) Q = (okp h k0 10 = true ∧ Tr sc d 230 (ent0 230 [.ref k0, .int i1] h) (fun z => Tr sc (d + 1) 233 (73, [l0, l1, l2, l3, l4, l5, l6, l7, l8, l9, l10], z.1.toList ++ [], z.2) Q)) := t_cv (as := [.int i1]) (r := []) k_233_70 rfl rfl (Nat.le_of_ble_eq_true rfl) (Nat.le_of_ble_eq_true rfl) (Nat.le_of_ble_eq_true rfl)
theorem k_233_73 : lk 233 73 = some (.aload_n 0, 74, 0, 0, .null) := by decide +kernel
theorem x_233_73 : Tr sc d 233 (73, [some (.ref xk), l1, l2, l3, l4, l5, l6, l7, l8, l9, l10], [], h) Q = Tr sc d 233 (74, [some (.ref xk), l1, l2, l3, l4, l5, l6, l7, l8, l9, l10], [.ref xk], h) Q := t_aload_n k_233_73 rfl
theorem k_233_74 : lk 233 74 = some (.iconst 0, 75, 0, 0, .int 0) := by decide +kernel
theorem x_233_74 : Tr sc d 233 (74, [l0, l1, l2, l3, l4, l5, l6, l7, l8, l9, l10], [.ref k0], h) Q = Tr sc d 233 (75, [l0, l1, l2, l3, l4, l5, l6, l7, l8, l9, l10], [.int 0, .ref k0], h) Q := t_go k_233_74 rfl
theorem k_233_75 : lk 233 75 = some (.putfield 346, 78, 10, 50, .int 0) := by decide +kernel
theorem x_233_75 : Tr sc d 233 (75, [l0, l1, l2, l3, l4, l5, l6, l7, l8, l9, l10], [.int i1, .ref k0], h) Q = (okp h k0 10 = true ∧ Tr sc d 233 (78, [l0, l1, l2, l3, l4, l5, l6, l7, l8, l9, l10], [], (sI h k0 50 i1)) Q) := t_gd k_233_75 rfl
theorem k_233_78 : lk 233 78 = some (.aload_n 0, 79, 0, 0, .null) := by decide +kernel
theorem x_233_78 : Tr sc d 233 (78, [some (.ref xk), l1, l2, l3, l4, l5, l6, l7, l8, l9, l10], [], h) Q = Tr sc d 233 (79, [some (.ref xk), l1, l2, l3, l4, l5, l6, l7, l8, l9, l10], [.ref xk], h) Q := t_aload_n k_233_78 rfl
theorem k_233_79 : lk 233 79 = some (.iload_n 1, 80, 1, 0, .null) := by decide +kernel
theorem x_233_79 : Tr sc d 233 (79, [l0, some (.int x), l2, l3, l4, l5, l6, l7, l8, l9, l10], [.ref k0], h) Q = Tr sc d 233 (80, [l0, some (.int x), l2, l3, l4, l5, l6, l7, l8, l9, l10], [.int x, .ref k0], h) Q := t_iload_n k_233_79 rfl
theorem k_233_80 : lk 233 80 = some (.iload_n 2, 81, 2, 0, .null) := by decide +kernel
theorem x_233_80 : Tr sc d 233 (80, [l0, l1, some (.int x), l3, l4, l5, l6, l7, l8, l9, l10], [.int i1, .ref k0], h) Q = Tr sc d 233 (81, [l0, l1, some (.int x), l3, l4, l5, l6, l7, l8, l9, l10], [.int x, .int i1, .ref k0], h) Q := t_iload_n k_233_80 rfl
theorem k_233_81 : lk 233 81 = some (.iload_n 3, 82, 3, 0, .null) := by decide +kernel
theorem x_233_81 : Tr sc d 233 (81, [l0, l1, l2, some (.int x), l4, l5, l6, l7, l8, l9, l10], [.int i2, .int i1, .ref k0], h) Q = Tr sc d 233 (82, [l0, l1, l2, some (.int x), l4, l5, l6, l7, l8, l9, l10], [.int x, .int i2, .int i1, .ref k0], h) Q := t_iload_n k_233_81 rfl
theorem k_233_82 : lk 233 82 = some (.iload 4, 84, 4, 0, .null) := by decide +kernel
theorem x_233_82 : Tr sc d 233 (82, [l0, l1, l2, l3, some (.int x), l5, l6, l7, l8, l9, l10], [.int i3, .int i2, .int i1, .ref k0], h) Q = Tr sc d 233 (84, [l0, l1, l2, l3, some (.int x), l5, l6, l7, l8, l9, l10], [.int x, .int i3, .int i2, .int i1, .ref k0], h) Q := t_iload k_233_82 rfl
theorem k_233_84 : lk 233 84 = some (.invokevirtual 352, 87, 231, 4, .null) := by decide +kernel
theorem x_233_84 : Tr sc (d + 1) 233 (84, [l0, l1, l2, l3, l4, l5, l6, l7, l8, l9, l10], [.int i4, .int i3, .int i2, .int i1, .ref k0], h) Q = (okp h k0 10 = true ∧ Tr sc d 231 (ent0 231 [.ref k0, .int i1, .int i2, .int i3, .int i4] h) (fun z => Tr sc (d + 1) 233 (87, [l0, l1, l2, l3, l4, l5, l6, l7, l8, l9, l10], z.1.toList ++ [], z.2) Q)) := t_cv (as := [.int i1, .int i2, .int i3, .int i4]) (r := []) k_233_84 rfl rfl (Nat.le_of_ble_eq_true rfl) (Nat.le_of_ble_eq_true rfl) (Nat.le_of_ble_eq_true rfl)
theorem k_233_87 : lk 233 87 = some (.ifCond .eq 22, 90, 109, 0, .null) := by decide +kernel
theorem x_233_87 : Tr sc d 233 (87, [l0, l1, l2, l3, l4, l5, l6, l7, l8, l9, l10], [.int i0], h) Q = if i0 = 0 then Tr sc d 233 (109, [l0, l1, l2, l3, l4, l5, l6, l7, l8, l9, l10], [], h) Q else Tr sc d 233 (90, [l0, l1, l2, l3, l4, l5, l6, l7, l8, l9, l10], [], h) Q := t_if k_233_87 rfl
theorem k_233_90 : lk 233 90 = some (.aload_n 0, 91, 0, 0, .null) := by decide +kernel
theorem x_233_90 : Tr sc d 233 (90, [some (.ref xk), l1, l2, l3, l4, l5, l6, l7, l8, l9, l10], [], h) Q = Tr sc d 233 (91, [some (.ref xk), l1, l2, l3, l4, l5, l6, l7, l8, l9, l10], [.ref xk], h) Q := t_aload_n k_233_90 rfl
theorem k_233_91 : lk 233 91 = some (.getfield 101, 94, 10, 51, .null) := by decide +kernel
theorem x_233_91 : Tr sc d 233 (91, [l0, l1, l2, l3, l4, l5, l6, l7, l8, l9, l10], [.ref k0], h) Q = (okp h k0 10 = true ∧ ∃ q, hR h k0 51 = some q ∧ Tr sc d 233 (94, [l0, l1, l2, l3, l4, l5, l6, l7, l8, l9, l10], [.ref q], h) Q) := t_getr k_233_91
theorem k_233_94 : lk 233 94 = some (.iconst 0, 95, 0, 0, .int 0) := by decide +kernel
theorem x_233_94 : Tr sc d 233 (94, [l0, l1, l2, l3, l4, l5, l6, l7, l8, l9, l10], [.ref k0], h) Q = Tr sc d 233 (95, [l0, l1, l2, l3, l4, l5, l6, l7, l8, l9, l10], [.int 0, .ref k0], h) Q := t_go k_233_94 rfl
theorem k_233_95 : lk 233 95 = some (.iload_n 2, 96, 2, 0, .null) := by decide +kernel
theorem x_233_95 : Tr sc d 233 (95, [l0, l1, some (.int x), l3, l4, l5, l6, l7, l8, l9, l10], [.int i1, .ref k0], h) Q = Tr sc d 233 (96, [l0, l1, some (.int x), l3, l4, l5, l6, l7, l8, l9, l10], [.int x, .int i1, .ref k0], h) Q := t_iload_n k_233_95 rfl
theorem k_233_96 : lk 233 96 = some (.iastore, 97, 0, 0, .null) := by decide +kernel
theorem x_233_96 : Tr sc d 233 (96, [l0, l1, l2, l3, l4, l5, l6, l7, l8, l9, l10], [.int i2, .int i1, .ref k0], h) Q = ((okp h k0 11 && inb i1 (LN k0)) = true ∧ Tr sc d 233 (97, [l0, l1, l2, l3, l4, l5, l6, l7, l8, l9, l10], [], (sI h k0 i1.toNatClampNeg i2)) Q) := t_gd k_233_96 rfl
theorem k_233_97 : lk 233 97 = some (.aload_n 0, 98, 0, 0, .null) := by decide +kernel
theorem x_233_97 : Tr sc d 233 (97, [some (.ref xk), l1, l2, l3, l4, l5, l6, l7, l8, l9, l10], [], h) Q = Tr sc d 233 (98, [some (.ref xk), l1, l2, l3, l4, l5, l6, l7, l8, l9, l10], [.ref xk], h) Q := t_aload_n k_233_97 rfl
theorem k_233_98 : lk 233 98 = some (.getfield 104, 101, 10, 52, .null) := by decide +kernel
theorem x_233_98 : Tr sc d 233 (98, [l0, l1, l2, l3, l4, l5, l6, l7, l8, l9, l10], [.ref k0], h) Q = (okp h k0 10 = true ∧ ∃ q, hR h k0 52 = some q ∧ Tr sc d 233 (101, [l0, l1, l2, l3, l4, l5, l6, l7, l8, l9, l10], [.ref q], h) Q) := t_getr k_233_98
theorem k_233_101 : lk 233 101 = some (.iconst 0, 102, 0, 0, .int 0) := by decide +kernel
theorem x_233_101 : Tr sc d 233 (101, [l0, l1, l2, l3, l4, l5, l6, l7, l8, l9, l10], [.ref k0], h) Q = Tr sc d 233 (102, [l0, l1, l2, l3, l4, l5, l6, l7, l8, l9, l10], [.int 0, .ref k0], h) Q := t_go k_233_101 rfl
theorem k_233_102 : lk 233 102 = some (.iload_n 3, 103, 3, 0, .null) := by decide +kernel
theorem x_233_102 : Tr sc d 233 (102, [l0, l1, l2, some (.int x), l4, l5, l6, l7, l8, l9, l10], [.int i1, .ref k0], h) Q = Tr sc d 233 (103, [l0, l1, l2, some (.int x), l4, l5, l6, l7, l8, l9, l10], [.int x, .int i1, .ref k0], h) Q := t_iload_n k_233_102 rfl
theorem k_233_103 : lk 233 103 = some (.iastore, 104, 0, 0, .null) := by decide +kernel
theorem x_233_103 : Tr sc d 233 (103, [l0, l1, l2, l3, l4, l5, l6, l7, l8, l9, l10], [.int i2, .int i1, .ref k0], h) Q = ((okp h k0 11 && inb i1 (LN k0)) = true ∧ Tr sc d 233 (104, [l0, l1, l2, l3, l4, l5, l6, l7, l8, l9, l10], [], (sI h k0 i1.toNatClampNeg i2)) Q) := t_gd k_233_103 rfl
theorem k_233_104 : lk 233 104 = some (.aload_n 0, 105, 0, 0, .null) := by decide +kernel
theorem x_233_104 : Tr sc d 233 (104, [some (.ref xk), l1, l2, l3, l4, l5, l6, l7, l8, l9, l10], [], h) Q = Tr sc d 233 (105, [some (.ref xk), l1, l2, l3, l4, l5, l6, l7, l8, l9, l10], [.ref xk], h) Q := t_aload_n k_233_104 rfl
theorem k_233_105 : lk 233 105 = some (.iconst 1, 106, 0, 0, .int 1) := by decide +kernel
theorem x_233_105 : Tr sc d 233 (105, [l0, l1, l2, l3, l4, l5, l6, l7, l8, l9, l10], [.ref k0], h) Q = Tr sc d 233 (106, [l0, l1, l2, l3, l4, l5, l6, l7, l8, l9, l10], [.int 1, .ref k0], h) Q := t_go k_233_105 rfl
theorem k_233_106 : lk 233 106 = some (.putfield 346, 109, 10, 50, .int 0) := by decide +kernel
theorem x_233_106 : Tr sc d 233 (106, [l0, l1, l2, l3, l4, l5, l6, l7, l8, l9, l10], [.int i1, .ref k0], h) Q = (okp h k0 10 = true ∧ Tr sc d 233 (109, [l0, l1, l2, l3, l4, l5, l6, l7, l8, l9, l10], [], (sI h k0 50 i1)) Q) := t_gd k_233_106 rfl
theorem k_233_109 : lk 233 109 = some (.iconst 0, 110, 0, 0, .int 0) := by decide +kernel
theorem x_233_109 : Tr sc d 233 (109, [l0, l1, l2, l3, l4, l5, l6, l7, l8, l9, l10], [], h) Q = Tr sc d 233 (110, [l0, l1, l2, l3, l4, l5, l6, l7, l8, l9, l10], [.int 0], h) Q := t_go k_233_109 rfl
theorem k_233_110 : lk 233 110 = some (.istore 6, 112, 6, 0, .null) := by decide +kernel
theorem x_233_110 : Tr sc d 233 (110, [l0, l1, l2, l3, l4, l5, l6, l7, l8, l9, l10], [.int i0], h) Q = Tr sc d 233 (112, [l0, l1, l2, l3, l4, cl2 l5, some (.int i0), l7, l8, l9, l10], [], h) Q := t_istore k_233_110 (Nat.le_of_ble_eq_true rfl)
theorem k_233_112 : lk 233 112 = some (.iload 6, 114, 6, 0, .null) := by decide +kernel
theorem x_233_112 : Tr sc d 233 (112, [l0, l1, l2, l3, l4, l5, some (.int x), l7, l8, l9, l10], [], h) Q = Tr sc d 233 (114, [l0, l1, l2, l3, l4, l5, some (.int x), l7, l8, l9, l10], [.int x], h) Q := t_iload k_233_112 rfl
theorem k_233_114 : lk 233 114 = some (.aload_n 0, 115, 0, 0, .null) := by decide +kernel
theorem x_233_114 : Tr sc d 233 (114, [some (.ref xk), l1, l2, l3, l4, l5, l6, l7, l8, l9, l10], [.int i0], h) Q = Tr sc d 233 (115, [some (.ref xk), l1, l2, l3, l4, l5, l6, l7, l8, l9, l10], [.ref xk, .int i0], h) Q := t_aload_n k_233_114 rfl
theorem k_233_115 : lk 233 115 = some (.getfield 346, 118, 10, 50, .int 0) := by decide +kernel
theorem x_233_115 : Tr sc d 233 (115, [l0, l1, l2, l3, l4, l5, l6, l7, l8, l9, l10], [.ref k1, .int i0], h) Q = (okp h k1 10 = true ∧ Tr sc d 233 (118, [l0, l1, l2, l3, l4, l5, l6, l7, l8, l9, l10], [.int (hI h k1 50), .int i0], h) Q) := t_gd k_233_115 rfl
theorem k_233_118 : lk 233 118 = some (.if_icmp .ge 202, 121, 320, 0, .null) := by decide +kernel
theorem x_233_118 : Tr sc d 233 (118, [l0, l1, l2, l3, l4, l5, l6, l7, l8, l9, l10], [.int i1, .int i0], h) Q = if i1 ≤ i0 then Tr sc d 233 (320, [l0, l1, l2, l3, l4, l5, l6, l7, l8, l9, l10], [], h) Q else Tr sc d 233 (121, [l0, l1, l2, l3, l4, l5, l6, l7, l8, l9, l10], [], h) Q := t_if k_233_118 rfl
theorem k_233_121 : lk 233 121 = some (.aload_n 0, 122, 0, 0, .null) := by decide +kernel
theorem x_233_121 : Tr sc d 233 (121, [some (.ref xk), l1, l2, l3, l4, l5, l6, l7, l8, l9, l10], [], h) Q = Tr sc d 233 (122, [some (.ref xk), l1, l2, l3, l4, l5, l6, l7, l8, l9, l10], [.ref xk], h) Q := t_aload_n k_233_121 rfl
theorem k_233_122 : lk 233 122 = some (.getfield 107, 125, 10, 53, .null) := by decide +kernel
theorem x_233_122 : Tr sc d 233 (122, [l0, l1, l2, l3, l4, l5, l6, l7, l8, l9, l10], [.ref k0], h) Q = (okp h k0 10 = true ∧ ∃ q, hR h k0 53 = some q ∧ Tr sc d 233 (125, [l0, l1, l2, l3, l4, l5, l6, l7, l8, l9, l10], [.ref q], h) Q) := t_getr k_233_122
theorem k_233_125 : lk 233 125 = some (.iload 6, 127, 6, 0, .null) := by decide +kernel
theorem x_233_125 : Tr sc d 233 (125, [l0, l1, l2, l3, l4, l5, some (.int x), l7, l8, l9, l10], [.ref k0], h) Q = Tr sc d 233 (127, [l0, l1, l2, l3, l4, l5, some (.int x), l7, l8, l9, l10], [.int x, .ref k0], h) Q := t_iload k_233_125 rfl
theorem k_233_127 : lk 233 127 = some (.iconst 1, 128, 0, 0, .int 1) := by decide +kernel
theorem x_233_127 : Tr sc d 233 (127, [l0, l1, l2, l3, l4, l5, l6, l7, l8, l9, l10], [.int i1, .ref k0], h) Q = Tr sc d 233 (128, [l0, l1, l2, l3, l4, l5, l6, l7, l8, l9, l10], [.int 1, .int i1, .ref k0], h) Q := t_go k_233_127 rfl
theorem k_233_128 : lk 233 128 = some (.bastore, 129, 0, 0, .null) := by decide +kernel
theorem x_233_128 : Tr sc d 233 (128, [l0, l1, l2, l3, l4, l5, l6, l7, l8, l9, l10], [.int i2, .int i1, .ref k0], h) Q = ((okp h k0 13 && inb i1 (LN k0)) = true ∧ Tr sc d 233 (129, [l0, l1, l2, l3, l4, l5, l6, l7, l8, l9, l10], [], (sI h k0 i1.toNatClampNeg (vp_nar .boolean i2))) Q) := t_gd k_233_128 rfl
theorem k_233_129 : lk 233 129 = some (.iconst 0, 130, 0, 0, .int 0) := by decide +kernel
theorem x_233_129 : Tr sc d 233 (129, [l0, l1, l2, l3, l4, l5, l6, l7, l8, l9, l10], [], h) Q = Tr sc d 233 (130, [l0, l1, l2, l3, l4, l5, l6, l7, l8, l9, l10], [.int 0], h) Q := t_go k_233_129 rfl
theorem k_233_130 : lk 233 130 = some (.istore 7, 132, 7, 0, .null) := by decide +kernel
theorem x_233_130 : Tr sc d 233 (130, [l0, l1, l2, l3, l4, l5, l6, l7, l8, l9, l10], [.int i0], h) Q = Tr sc d 233 (132, [l0, l1, l2, l3, l4, l5, cl2 l6, some (.int i0), l8, l9, l10], [], h) Q := t_istore k_233_130 (Nat.le_of_ble_eq_true rfl)
theorem k_233_132 : lk 233 132 = some (.iload 7, 134, 7, 0, .null) := by decide +kernel
theorem x_233_132 : Tr sc d 233 (132, [l0, l1, l2, l3, l4, l5, l6, some (.int x), l8, l9, l10], [], h) Q = Tr sc d 233 (134, [l0, l1, l2, l3, l4, l5, l6, some (.int x), l8, l9, l10], [.int x], h) Q := t_iload k_233_132 rfl
theorem k_233_134 : lk 233 134 = some (.aload_n 0, 135, 0, 0, .null) := by decide +kernel
theorem x_233_134 : Tr sc d 233 (134, [some (.ref xk), l1, l2, l3, l4, l5, l6, l7, l8, l9, l10], [.int i0], h) Q = Tr sc d 233 (135, [some (.ref xk), l1, l2, l3, l4, l5, l6, l7, l8, l9, l10], [.ref xk, .int i0], h) Q := t_aload_n k_233_134 rfl
theorem k_233_135 : lk 233 135 = some (.getfield 41, 138, 10, 18, .null) := by decide +kernel
theorem x_233_135 : Tr sc d 233 (135, [l0, l1, l2, l3, l4, l5, l6, l7, l8, l9, l10], [.ref k1, .int i0], h) Q = (okp h k1 10 = true ∧ ∃ q, hR h k1 18 = some q ∧ Tr sc d 233 (138, [l0, l1, l2, l3, l4, l5, l6, l7, l8, l9, l10], [.ref q, .int i0], h) Q) := t_getr k_233_135
theorem k_233_138 : lk 233 138 = some (.iload_n 1, 139, 1, 0, .null) := by decide +kernel
theorem x_233_138 : Tr sc d 233 (138, [l0, some (.int x), l2, l3, l4, l5, l6, l7, l8, l9, l10], [.ref k1, .int i0], h) Q = Tr sc d 233 (139, [l0, some (.int x), l2, l3, l4, l5, l6, l7, l8, l9, l10], [.int x, .ref k1, .int i0], h) Q := t_iload_n k_233_138 rfl
theorem k_233_139 : lk 233 139 = some (.iaload, 140, 0, 0, .null) := by decide +kernel
theorem x_233_139 : Tr sc d 233 (139, [l0, l1, l2, l3, l4, l5, l6, l7, l8, l9, l10], [.int i2, .ref k1, .int i0], h) Q = (iOk sc h k1 i2 ∧ Tr sc d 233 (140, [l0, l1, l2, l3, l4, l5, l6, l7, l8, l9, l10], [.int (iRd sc h k1 i2), .int i0], h) Q) := t_iald k_233_139
theorem k_233_140 : lk 233 140 = some (.if_icmp .ge 174, 143, 314, 0, .null) := by decide +kernel
theorem x_233_140 : Tr sc d 233 (140, [l0, l1, l2, l3, l4, l5, l6, l7, l8, l9, l10], [.int i1, .int i0], h) Q = if i1 ≤ i0 then Tr sc d 233 (314, [l0, l1, l2, l3, l4, l5, l6, l7, l8, l9, l10], [], h) Q else Tr sc d 233 (143, [l0, l1, l2, l3, l4, l5, l6, l7, l8, l9, l10], [], h) Q := t_if k_233_140 rfl
theorem k_233_143 : lk 233 143 = some (.aload_n 0, 144, 0, 0, .null) := by decide +kernel
theorem x_233_143 : Tr sc d 233 (143, [some (.ref xk), l1, l2, l3, l4, l5, l6, l7, l8, l9, l10], [], h) Q = Tr sc d 233 (144, [some (.ref xk), l1, l2, l3, l4, l5, l6, l7, l8, l9, l10], [.ref xk], h) Q := t_aload_n k_233_143 rfl
theorem k_233_144 : lk 233 144 = some (.getfield 38, 147, 10, 17, .null) := by decide +kernel
theorem x_233_144 : Tr sc d 233 (144, [l0, l1, l2, l3, l4, l5, l6, l7, l8, l9, l10], [.ref k0], h) Q = (okp h k0 10 = true ∧ ∃ q, hR h k0 17 = some q ∧ Tr sc d 233 (147, [l0, l1, l2, l3, l4, l5, l6, l7, l8, l9, l10], [.ref q], h) Q) := t_getr k_233_144
theorem k_233_147 : lk 233 147 = some (.iload_n 1, 148, 1, 0, .null) := by decide +kernel
theorem x_233_147 : Tr sc d 233 (147, [l0, some (.int x), l2, l3, l4, l5, l6, l7, l8, l9, l10], [.ref k0], h) Q = Tr sc d 233 (148, [l0, some (.int x), l2, l3, l4, l5, l6, l7, l8, l9, l10], [.int x, .ref k0], h) Q := t_iload_n k_233_147 rfl
theorem k_233_148 : lk 233 148 = some (.iaload, 149, 0, 0, .null) := by decide +kernel
theorem x_233_148 : Tr sc d 233 (148, [l0, l1, l2, l3, l4, l5, l6, l7, l8, l9, l10], [.int i1, .ref k0], h) Q = (iOk sc h k0 i1 ∧ Tr sc d 233 (149, [l0, l1, l2, l3, l4, l5, l6, l7, l8, l9, l10], [.int (iRd sc h k0 i1)], h) Q) := t_iald k_233_148
theorem k_233_149 : lk 233 149 = some (.aload_n 0, 150, 0, 0, .null) := by decide +kernel
theorem x_233_149 : Tr sc d 233 (149, [some (.ref xk), l1, l2, l3, l4, l5, l6, l7, l8, l9, l10], [.int i0], h) Q = Tr sc d 233 (150, [some (.ref xk), l1, l2, l3, l4, l5, l6, l7, l8, l9, l10], [.ref xk, .int i0], h) Q := t_aload_n k_233_149 rfl
theorem k_233_150 : lk 233 150 = some (.getfield 101, 153, 10, 51, .null) := by decide +kernel
theorem x_233_150 : Tr sc d 233 (150, [l0, l1, l2, l3, l4, l5, l6, l7, l8, l9, l10], [.ref k1, .int i0], h) Q = (okp h k1 10 = true ∧ ∃ q, hR h k1 51 = some q ∧ Tr sc d 233 (153, [l0, l1, l2, l3, l4, l5, l6, l7, l8, l9, l10], [.ref q, .int i0], h) Q) := t_getr k_233_150
theorem k_233_153 : lk 233 153 = some (.iload 6, 155, 6, 0, .null) := by decide +kernel
theorem x_233_153 : Tr sc d 233 (153, [l0, l1, l2, l3, l4, l5, some (.int x), l7, l8, l9, l10], [.ref k1, .int i0], h) Q = Tr sc d 233 (155, [l0, l1, l2, l3, l4, l5, some (.int x), l7, l8, l9, l10], [.int x, .ref k1, .int i0], h) Q := t_iload k_233_153 rfl
theorem k_233_155 : lk 233 155 = some (.iaload, 156, 0, 0, .null) := by decide +kernel
theorem x_233_155 : Tr sc d 233 (155, [l0, l1, l2, l3, l4, l5, l6, l7, l8, l9, l10], [.int i2, .ref k1, .int i0], h) Q = (iOk sc h k1 i2 ∧ Tr sc d 233 (156, [l0, l1, l2, l3, l4, l5, l6, l7, l8, l9, l10], [.int (iRd sc h k1 i2), .int i0], h) Q) := t_iald k_233_155
theorem k_233_156 : lk 233 156 = some (.imul, 157, 0, 0, .null) := by decide +kernel
theorem x_233_156 : Tr sc d 233 (156, [l0, l1, l2, l3, l4, l5, l6, l7, l8, l9, l10], [.int i1, .int i0], h) Q = Tr sc d 233 (157, [l0, l1, l2, l3, l4, l5, l6, l7, l8, l9, l10], [.int (i0 * i1)], h) Q := t_go k_233_156 rfl
theorem k_233_157 : lk 233 157 = some (.iload 4, 159, 4, 0, .null) := by decide +kernel
theorem x_233_157 : Tr sc d 233 (157, [l0, l1, l2, l3, some (.int x), l5, l6, l7, l8, l9, l10], [.int i0], h) Q = Tr sc d 233 (159, [l0, l1, l2, l3, some (.int x), l5, l6, l7, l8, l9, l10], [.int x, .int i0], h) Q := t_iload k_233_157 rfl
theorem k_233_159 : lk 233 159 = some (.aload_n 0, 160, 0, 0, .null) := by decide +kernel
theorem x_233_159 : Tr sc d 233 (159, [some (.ref xk), l1, l2, l3, l4, l5, l6, l7, l8, l9, l10], [.int i1, .int i0], h) Q = Tr sc d 233 (160, [some (.ref xk), l1, l2, l3, l4, l5, l6, l7, l8, l9, l10], [.ref xk, .int i1, .int i0], h) Q := t_aload_n k_233_159 rfl
theorem k_233_160 : lk 233 160 = some (.getfield 47, 163, 10, 20, .null) := by decide +kernel
theorem x_233_160 : Tr sc d 233 (160, [l0, l1, l2, l3, l4, l5, l6, l7, l8, l9, l10], [.ref k2, .int i1, .int i0], h) Q = (okp h k2 10 = true ∧ ∃ q, hR h k2 20 = some q ∧ Tr sc d 233 (163, [l0, l1, l2, l3, l4, l5, l6, l7, l8, l9, l10], [.ref q, .int i1, .int i0], h) Q) := t_getr k_233_160
theorem k_233_163 : lk 233 163 = some (.bipush 6, 165, 0, 0, .int 6) := by decide +kernel
theorem x_233_163 : Tr sc d 233 (163, [l0, l1, l2, l3, l4, l5, l6, l7, l8, l9, l10], [.ref k2, .int i1, .int i0], h) Q = Tr sc d 233 (165, [l0, l1, l2, l3, l4, l5, l6, l7, l8, l9, l10], [.int 6, .ref k2, .int i1, .int i0], h) Q := t_go k_233_163 rfl
theorem k_233_165 : lk 233 165 = some (.iload_n 1, 166, 1, 0, .null) := by decide +kernel
theorem x_233_165 : Tr sc d 233 (165, [l0, some (.int x), l2, l3, l4, l5, l6, l7, l8, l9, l10], [.int i3, .ref k2, .int i1, .int i0], h) Q = Tr sc d 233 (166, [l0, some (.int x), l2, l3, l4, l5, l6, l7, l8, l9, l10], [.int x, .int i3, .ref k2, .int i1, .int i0], h) Q := t_iload_n k_233_165 rfl
theorem k_233_166 : lk 233 166 = some (.imul, 167, 0, 0, .null) := by decide +kernel
theorem x_233_166 : Tr sc d 233 (166, [l0, l1, l2, l3, l4, l5, l6, l7, l8, l9, l10], [.int i4, .int i3, .ref k2, .int i1, .int i0], h) Q = Tr sc d 233 (167, [l0, l1, l2, l3, l4, l5, l6, l7, l8, l9, l10], [.int (i3 * i4), .ref k2, .int i1, .int i0], h) Q := t_go k_233_166 rfl
theorem k_233_167 : lk 233 167 = some (.iload 7, 169, 7, 0, .null) := by decide +kernel
theorem x_233_167 : Tr sc d 233 (167, [l0, l1, l2, l3, l4, l5, l6, some (.int x), l8, l9, l10], [.int i3, .ref k2, .int i1, .int i0], h) Q = Tr sc d 233 (169, [l0, l1, l2, l3, l4, l5, l6, some (.int x), l8, l9, l10], [.int x, .int i3, .ref k2, .int i1, .int i0], h) Q := t_iload k_233_167 rfl
theorem k_233_169 : lk 233 169 = some (.iadd, 170, 0, 0, .null) := by decide +kernel
theorem x_233_169 : Tr sc d 233 (169, [l0, l1, l2, l3, l4, l5, l6, l7, l8, l9, l10], [.int i4, .int i3, .ref k2, .int i1, .int i0], h) Q = Tr sc d 233 (170, [l0, l1, l2, l3, l4, l5, l6, l7, l8, l9, l10], [.int (i3 + i4), .ref k2, .int i1, .int i0], h) Q := t_go k_233_169 rfl
theorem k_233_170 : lk 233 170 = some (.iaload, 171, 0, 0, .null) := by decide +kernel
theorem x_233_170 : Tr sc d 233 (170, [l0, l1, l2, l3, l4, l5, l6, l7, l8, l9, l10], [.int i3, .ref k2, .int i1, .int i0], h) Q = (iOk sc h k2 i3 ∧ Tr sc d 233 (171, [l0, l1, l2, l3, l4, l5, l6, l7, l8, l9, l10], [.int (iRd sc h k2 i3), .int i1, .int i0], h) Q) := t_iald k_233_170
theorem k_233_171 : lk 233 171 = some (.imul, 172, 0, 0, .null) := by decide +kernel
theorem x_233_171 : Tr sc d 233 (171, [l0, l1, l2, l3, l4, l5, l6, l7, l8, l9, l10], [.int i2, .int i1, .int i0], h) Q = Tr sc d 233 (172, [l0, l1, l2, l3, l4, l5, l6, l7, l8, l9, l10], [.int (i1 * i2), .int i0], h) Q := t_go k_233_171 rfl
theorem k_233_172 : lk 233 172 = some (.isub, 173, 0, 0, .null) := by decide +kernel
theorem x_233_172 : Tr sc d 233 (172, [l0, l1, l2, l3, l4, l5, l6, l7, l8, l9, l10], [.int i1, .int i0], h) Q = Tr sc d 233 (173, [l0, l1, l2, l3, l4, l5, l6, l7, l8, l9, l10], [.int (i0 - i1)], h) Q := t_go k_233_172 rfl
theorem k_233_173 : lk 233 173 = some (.istore 8, 175, 8, 0, .null) := by decide +kernel
theorem x_233_173 : Tr sc d 233 (173, [l0, l1, l2, l3, l4, l5, l6, l7, l8, l9, l10], [.int i0], h) Q = Tr sc d 233 (175, [l0, l1, l2, l3, l4, l5, l6, cl2 l7, some (.int i0), l9, l10], [], h) Q := t_istore k_233_173 (Nat.le_of_ble_eq_true rfl)
theorem k_233_175 : lk 233 175 = some (.aload_n 0, 176, 0, 0, .null) := by decide +kernel
theorem x_233_175 : Tr sc d 233 (175, [some (.ref xk), l1, l2, l3, l4, l5, l6, l7, l8, l9, l10], [], h) Q = Tr sc d 233 (176, [some (.ref xk), l1, l2, l3, l4, l5, l6, l7, l8, l9, l10], [.ref xk], h) Q := t_aload_n k_233_175 rfl
theorem k_233_176 : lk 233 176 = some (.getfield 38, 179, 10, 17, .null) := by decide +kernel
theorem x_233_176 : Tr sc d 233 (176, [l0, l1, l2, l3, l4, l5, l6, l7, l8, l9, l10], [.ref k0], h) Q = (okp h k0 10 = true ∧ ∃ q, hR h k0 17 = some q ∧ Tr sc d 233 (179, [l0, l1, l2, l3, l4, l5, l6, l7, l8, l9, l10], [.ref q], h) Q) := t_getr k_233_176
theorem k_233_179 : lk 233 179 = some (.iload_n 1, 180, 1, 0, .null) := by decide +kernel
theorem x_233_179 : Tr sc d 233 (179, [l0, some (.int x), l2, l3, l4, l5, l6, l7, l8, l9, l10], [.ref k0], h) Q = Tr sc d 233 (180, [l0, some (.int x), l2, l3, l4, l5, l6, l7, l8, l9, l10], [.int x, .ref k0], h) Q := t_iload_n k_233_179 rfl
theorem k_233_180 : lk 233 180 = some (.iaload, 181, 0, 0, .null) := by decide +kernel
theorem x_233_180 : Tr sc d 233 (180, [l0, l1, l2, l3, l4, l5, l6, l7, l8, l9, l10], [.int i1, .ref k0], h) Q = (iOk sc h k0 i1 ∧ Tr sc d 233 (181, [l0, l1, l2, l3, l4, l5, l6, l7, l8, l9, l10], [.int (iRd sc h k0 i1)], h) Q) := t_iald k_233_180
theorem k_233_181 : lk 233 181 = some (.aload_n 0, 182, 0, 0, .null) := by decide +kernel
theorem x_233_181 : Tr sc d 233 (181, [some (.ref xk), l1, l2, l3, l4, l5, l6, l7, l8, l9, l10], [.int i0], h) Q = Tr sc d 233 (182, [some (.ref xk), l1, l2, l3, l4, l5, l6, l7, l8, l9, l10], [.ref xk, .int i0], h) Q := t_aload_n k_233_181 rfl
theorem k_233_182 : lk 233 182 = some (.getfield 104, 185, 10, 52, .null) := by decide +kernel
theorem x_233_182 : Tr sc d 233 (182, [l0, l1, l2, l3, l4, l5, l6, l7, l8, l9, l10], [.ref k1, .int i0], h) Q = (okp h k1 10 = true ∧ ∃ q, hR h k1 52 = some q ∧ Tr sc d 233 (185, [l0, l1, l2, l3, l4, l5, l6, l7, l8, l9, l10], [.ref q, .int i0], h) Q) := t_getr k_233_182
theorem k_233_185 : lk 233 185 = some (.iload 6, 187, 6, 0, .null) := by decide +kernel
theorem x_233_185 : Tr sc d 233 (185, [l0, l1, l2, l3, l4, l5, some (.int x), l7, l8, l9, l10], [.ref k1, .int i0], h) Q = Tr sc d 233 (187, [l0, l1, l2, l3, l4, l5, some (.int x), l7, l8, l9, l10], [.int x, .ref k1, .int i0], h) Q := t_iload k_233_185 rfl
theorem k_233_187 : lk 233 187 = some (.iaload, 188, 0, 0, .null) := by decide +kernel
theorem x_233_187 : Tr sc d 233 (187, [l0, l1, l2, l3, l4, l5, l6, l7, l8, l9, l10], [.int i2, .ref k1, .int i0], h) Q = (iOk sc h k1 i2 ∧ Tr sc d 233 (188, [l0, l1, l2, l3, l4, l5, l6, l7, l8, l9, l10], [.int (iRd sc h k1 i2), .int i0], h) Q) := t_iald k_233_187
theorem k_233_188 : lk 233 188 = some (.imul, 189, 0, 0, .null) := by decide +kernel
theorem x_233_188 : Tr sc d 233 (188, [l0, l1, l2, l3, l4, l5, l6, l7, l8, l9, l10], [.int i1, .int i0], h) Q = Tr sc d 233 (189, [l0, l1, l2, l3, l4, l5, l6, l7, l8, l9, l10], [.int (i0 * i1)], h) Q := t_go k_233_188 rfl
theorem k_233_189 : lk 233 189 = some (.iload 4, 191, 4, 0, .null) := by decide +kernel
theorem x_233_189 : Tr sc d 233 (189, [l0, l1, l2, l3, some (.int x), l5, l6, l7, l8, l9, l10], [.int i0], h) Q = Tr sc d 233 (191, [l0, l1, l2, l3, some (.int x), l5, l6, l7, l8, l9, l10], [.int x, .int i0], h) Q := t_iload k_233_189 rfl
theorem k_233_191 : lk 233 191 = some (.aload_n 0, 192, 0, 0, .null) := by decide +kernel
theorem x_233_191 : Tr sc d 233 (191, [some (.ref xk), l1, l2, l3, l4, l5, l6, l7, l8, l9, l10], [.int i1, .int i0], h) Q = Tr sc d 233 (192, [some (.ref xk), l1, l2, l3, l4, l5, l6, l7, l8, l9, l10], [.ref xk, .int i1, .int i0], h) Q := t_aload_n k_233_191 rfl
theorem k_233_192 : lk 233 192 = some (.getfield 50, 195, 10, 21, .null) := by decide +kernel
theorem x_233_192 : Tr sc d 233 (192, [l0, l1, l2, l3, l4, l5, l6, l7, l8, l9, l10], [.ref k2, .int i1, .int i0], h) Q = (okp h k2 10 = true ∧ ∃ q, hR h k2 21 = some q ∧ Tr sc d 233 (195, [l0, l1, l2, l3, l4, l5, l6, l7, l8, l9, l10], [.ref q, .int i1, .int i0], h) Q) := t_getr k_233_192
theorem k_233_195 : lk 233 195 = some (.bipush 6, 197, 0, 0, .int 6) := by decide +kernel
theorem x_233_195 : Tr sc d 233 (195, [l0, l1, l2, l3, l4, l5, l6, l7, l8, l9, l10], [.ref k2, .int i1, .int i0], h) Q = Tr sc d 233 (197, [l0, l1, l2, l3, l4, l5, l6, l7, l8, l9, l10], [.int 6, .ref k2, .int i1, .int i0], h) Q := t_go k_233_195 rfl
theorem k_233_197 : lk 233 197 = some (.iload_n 1, 198, 1, 0, .null) := by decide +kernel
theorem x_233_197 : Tr sc d 233 (197, [l0, some (.int x), l2, l3, l4, l5, l6, l7, l8, l9, l10], [.int i3, .ref k2, .int i1, .int i0], h) Q = Tr sc d 233 (198, [l0, some (.int x), l2, l3, l4, l5, l6, l7, l8, l9, l10], [.int x, .int i3, .ref k2, .int i1, .int i0], h) Q := t_iload_n k_233_197 rfl
theorem k_233_198 : lk 233 198 = some (.imul, 199, 0, 0, .null) := by decide +kernel
theorem x_233_198 : Tr sc d 233 (198, [l0, l1, l2, l3, l4, l5, l6, l7, l8, l9, l10], [.int i4, .int i3, .ref k2, .int i1, .int i0], h) Q = Tr sc d 233 (199, [l0, l1, l2, l3, l4, l5, l6, l7, l8, l9, l10], [.int (i3 * i4), .ref k2, .int i1, .int i0], h) Q := t_go k_233_198 rfl
theorem k_233_199 : lk 233 199 = some (.iload 7, 201, 7, 0, .null) := by decide +kernel
theorem x_233_199 : Tr sc d 233 (199, [l0, l1, l2, l3, l4, l5, l6, some (.int x), l8, l9, l10], [.int i3, .ref k2, .int i1, .int i0], h) Q = Tr sc d 233 (201, [l0, l1, l2, l3, l4, l5, l6, some (.int x), l8, l9, l10], [.int x, .int i3, .ref k2, .int i1, .int i0], h) Q := t_iload k_233_199 rfl
theorem k_233_201 : lk 233 201 = some (.iadd, 202, 0, 0, .null) := by decide +kernel
theorem x_233_201 : Tr sc d 233 (201, [l0, l1, l2, l3, l4, l5, l6, l7, l8, l9, l10], [.int i4, .int i3, .ref k2, .int i1, .int i0], h) Q = Tr sc d 233 (202, [l0, l1, l2, l3, l4, l5, l6, l7, l8, l9, l10], [.int (i3 + i4), .ref k2, .int i1, .int i0], h) Q := t_go k_233_201 rfl
theorem k_233_202 : lk 233 202 = some (.iaload, 203, 0, 0, .null) := by decide +kernel
theorem x_233_202 : Tr sc d 233 (202, [l0, l1, l2, l3, l4, l5, l6, l7, l8, l9, l10], [.int i3, .ref k2, .int i1, .int i0], h) Q = (iOk sc h k2 i3 ∧ Tr sc d 233 (203, [l0, l1, l2, l3, l4, l5, l6, l7, l8, l9, l10], [.int (iRd sc h k2 i3), .int i1, .int i0], h) Q) := t_iald k_233_202
theorem k_233_203 : lk 233 203 = some (.imul, 204, 0, 0, .null) := by decide +kernel
theorem x_233_203 : Tr sc d 233 (203, [l0, l1, l2, l3, l4, l5, l6, l7, l8, l9, l10], [.int i2, .int i1, .int i0], h) Q = Tr sc d 233 (204, [l0, l1, l2, l3, l4, l5, l6, l7, l8, l9, l10], [.int (i1 * i2), .int i0], h) Q := t_go k_233_203 rfl
theorem k_233_204 : lk 233 204 = some (.isub, 205, 0, 0, .null) := by decide +kernel
theorem x_233_204 : Tr sc d 233 (204, [l0, l1, l2, l3, l4, l5, l6, l7, l8, l9, l10], [.int i1, .int i0], h) Q = Tr sc d 233 (205, [l0, l1, l2, l3, l4, l5, l6, l7, l8, l9, l10], [.int (i0 - i1)], h) Q := t_go k_233_204 rfl
theorem k_233_205 : lk 233 205 = some (.istore 9, 207, 9, 0, .null) := by decide +kernel
theorem x_233_205 : Tr sc d 233 (205, [l0, l1, l2, l3, l4, l5, l6, l7, l8, l9, l10], [.int i0], h) Q = Tr sc d 233 (207, [l0, l1, l2, l3, l4, l5, l6, l7, cl2 l8, some (.int i0), l10], [], h) Q := t_istore k_233_205 (Nat.le_of_ble_eq_true rfl)
theorem k_233_207 : lk 233 207 = some (.aload_n 0, 208, 0, 0, .null) := by decide +kernel
theorem x_233_207 : Tr sc d 233 (207, [some (.ref xk), l1, l2, l3, l4, l5, l6, l7, l8, l9, l10], [], h) Q = Tr sc d 233 (208, [some (.ref xk), l1, l2, l3, l4, l5, l6, l7, l8, l9, l10], [.ref xk], h) Q := t_aload_n k_233_207 rfl
theorem k_233_208 : lk 233 208 = some (.iload_n 1, 209, 1, 0, .null) := by decide +kernel
theorem x_233_208 : Tr sc d 233 (208, [l0, some (.int x), l2, l3, l4, l5, l6, l7, l8, l9, l10], [.ref k0], h) Q = Tr sc d 233 (209, [l0, some (.int x), l2, l3, l4, l5, l6, l7, l8, l9, l10], [.int x, .ref k0], h) Q := t_iload_n k_233_208 rfl
theorem k_233_209 : lk 233 209 = some (.iload 8, 211, 8, 0, .null) := by decide +kernel
theorem x_233_209 : Tr sc d 233 (209, [l0, l1, l2, l3, l4, l5, l6, l7, some (.int x), l9, l10], [.int i1, .ref k0], h) Q = Tr sc d 233 (211, [l0, l1, l2, l3, l4, l5, l6, l7, some (.int x), l9, l10], [.int x, .int i1, .ref k0], h) Q := t_iload k_233_209 rfl
theorem k_233_211 : lk 233 211 = some (.iload 9, 213, 9, 0, .null) := by decide +kernel
theorem x_233_211 : Tr sc d 233 (211, [l0, l1, l2, l3, l4, l5, l6, l7, l8, some (.int x), l10], [.int i2, .int i1, .ref k0], h) Q = Tr sc d 233 (213, [l0, l1, l2, l3, l4, l5, l6, l7, l8, some (.int x), l10], [.int x, .int i2, .int i1, .ref k0], h) Q := t_iload k_233_211 rfl
theorem k_233_213 : lk 233 213 = some (.iload 4, 215, 4, 0, .null) := by decide +kernel
theorem x_233_213 : Tr sc d 233 (213, [l0, l1, l2, l3, some (.int x), l5, l6, l7, l8, l9, l10], [.int i3, .int i2, .int i1, .ref k0], h) Q = Tr sc d 233 (215, [l0, l1, l2, l3, some (.int x), l5, l6, l7, l8, l9, l10], [.int x, .int i3, .int i2, .int i1, .ref k0], h) Q := t_iload k_233_213 rfl
theorem k_233_215 : lk 233 215 = some (.invokevirtual 352, 218, 231, 4, .null) := by decide +kernel
theorem x_233_215 : Tr sc (d + 1) 233 (215, [l0, l1, l2, l3, l4, l5, l6, l7, l8, l9, l10], [.int i4, .int i3, .int i2, .int i1, .ref k0], h) Q = (okp h k0 10 = true ∧ Tr sc d 231 (ent0 231 [.ref k0, .int i1, .int i2, .int i3, .int i4] h) (fun z => Tr sc (d + 1) 233 (218, [l0, l1, l2, l3, l4, l5, l6, l7, l8, l9, l10], z.1.toList ++ [], z.2) Q)) := t_cv (as := [.int i1, .int i2, .int i3, .int i4]) (r := []) k_233_215 rfl rfl (Nat.le_of_ble_eq_true rfl) (Nat.le_of_ble_eq_true rfl) (Nat.le_of_ble_eq_true rfl)
theorem k_233_218 : lk 233 218 = some (.ifCond .eq 14, 221, 232, 0, .null) := by decide +kernel
theorem x_233_218 : Tr sc d 233 (218, [l0, l1, l2, l3, l4, l5, l6, l7, l8, l9, l10], [.int i0], h) Q = if i0 = 0 then Tr sc d 233 (232, [l0, l1, l2, l3, l4, l5, l6, l7, l8, l9, l10], [], h) Q else Tr sc d 233 (221, [l0, l1, l2, l3, l4, l5, l6, l7, l8, l9, l10], [], h) Q := t_if k_233_218 rfl
theorem k_233_221 : lk 233 221 = some (.aload_n 0, 222, 0, 0, .null) := by decide +kernel
theorem x_233_221 : Tr sc d 233 (221, [some (.ref xk), l1, l2, l3, l4, l5, l6, l7, l8, l9, l10], [], h) Q = Tr sc d 233 (222, [some (.ref xk), l1, l2, l3, l4, l5, l6, l7, l8, l9, l10], [.ref xk], h) Q := t_aload_n k_233_221 rfl
theorem k_233_222 : lk 233 222 = some (.iload 8, 224, 8, 0, .null) := by decide +kernel
theorem x_233_222 : Tr sc d 233 (222, [l0, l1, l2, l3, l4, l5, l6, l7, some (.int x), l9, l10], [.ref k0], h) Q = Tr sc d 233 (224, [l0, l1, l2, l3, l4, l5, l6, l7, some (.int x), l9, l10], [.int x, .ref k0], h) Q := t_iload k_233_222 rfl
theorem k_233_224 : lk 233 224 = some (.iload 9, 226, 9, 0, .null) := by decide +kernel
theorem x_233_224 : Tr sc d 233 (224, [l0, l1, l2, l3, l4, l5, l6, l7, l8, some (.int x), l10], [.int i1, .ref k0], h) Q = Tr sc d 233 (226, [l0, l1, l2, l3, l4, l5, l6, l7, l8, some (.int x), l10], [.int x, .int i1, .ref k0], h) Q := t_iload k_233_224 rfl
theorem k_233_226 : lk 233 226 = some (.invokevirtual 356, 229, 232, 2, .null) := by decide +kernel
theorem x_233_226 : Tr sc (d + 1) 233 (226, [l0, l1, l2, l3, l4, l5, l6, l7, l8, l9, l10], [.int i2, .int i1, .ref k0], h) Q = (okp h k0 10 = true ∧ Tr sc d 232 (ent0 232 [.ref k0, .int i1, .int i2] h) (fun z => Tr sc (d + 1) 233 (229, [l0, l1, l2, l3, l4, l5, l6, l7, l8, l9, l10], z.1.toList ++ [], z.2) Q)) := t_cv (as := [.int i1, .int i2]) (r := []) k_233_226 rfl rfl (Nat.le_of_ble_eq_true rfl) (Nat.le_of_ble_eq_true rfl) (Nat.le_of_ble_eq_true rfl)
theorem k_233_229 : lk 233 229 = some (.goto 4, 232, 233, 0, .null) := by decide +kernel
theorem x_233_229 : Tr sc d 233 (229, [l0, l1, l2, l3, l4, l5, l6, l7, l8, l9, l10], [.int i0], h) Q = Tr sc d 233 (233, [l0, l1, l2, l3, l4, l5, l6, l7, l8, l9, l10], [.int i0], h) Q := t_go k_233_229 rfl
theorem k_233_232 : lk 233 232 = some (.iconst (-1), 233, 0, 0, .int (-1)) := by decide +kernel
theorem x_233_232 : Tr sc d 233 (232, [l0, l1, l2, l3, l4, l5, l6, l7, l8, l9, l10], [], h) Q = Tr sc d 233 (233, [l0, l1, l2, l3, l4, l5, l6, l7, l8, l9, l10], [.int (-1)], h) Q := t_go k_233_232 rfl
theorem k_233_233 : lk 233 233 = some (.istore 10, 235, 10, 0, .null) := by decide +kernel
theorem x_233_233 : Tr sc d 233 (233, [l0, l1, l2, l3, l4, l5, l6, l7, l8, l9, l10], [.int i0], h) Q = Tr sc d 233 (235, [l0, l1, l2, l3, l4, l5, l6, l7, l8, cl2 l9, some (.int i0)], [], h) Q := t_istore k_233_233 (Nat.le_of_ble_eq_true rfl)
theorem k_233_235 : lk 233 235 = some (.iload 10, 237, 10, 0, .null) := by decide +kernel
theorem x_233_235 : Tr sc d 233 (235, [l0, l1, l2, l3, l4, l5, l6, l7, l8, l9, some (.int x)], [], h) Q = Tr sc d 233 (237, [l0, l1, l2, l3, l4, l5, l6, l7, l8, l9, some (.int x)], [.int x], h) Q := t_iload k_233_235 rfl
theorem k_233_237 : lk 233 237 = some (.bipush (-9), 239, 0, 0, .int (-9)) := by decide +kernel
theorem x_233_237 : Tr sc d 233 (237, [l0, l1, l2, l3, l4, l5, l6, l7, l8, l9, l10], [.int i0], h) Q = Tr sc d 233 (239, [l0, l1, l2, l3, l4, l5, l6, l7, l8, l9, l10], [.int (-9), .int i0], h) Q := t_go k_233_237 rfl
theorem k_233_239 : lk 233 239 = some (.if_icmp .ne 54, 242, 293, 0, .null) := by decide +kernel
theorem x_233_239 : Tr sc d 233 (239, [l0, l1, l2, l3, l4, l5, l6, l7, l8, l9, l10], [.int i1, .int i0], h) Q = if i0 = i1 then Tr sc d 233 (242, [l0, l1, l2, l3, l4, l5, l6, l7, l8, l9, l10], [], h) Q else Tr sc d 233 (293, [l0, l1, l2, l3, l4, l5, l6, l7, l8, l9, l10], [], h) Q := t_if k_233_239 rfl
theorem k_233_242 : lk 233 242 = some (.aload_n 0, 243, 0, 0, .null) := by decide +kernel
theorem x_233_242 : Tr sc d 233 (242, [some (.ref xk), l1, l2, l3, l4, l5, l6, l7, l8, l9, l10], [], h) Q = Tr sc d 233 (243, [some (.ref xk), l1, l2, l3, l4, l5, l6, l7, l8, l9, l10], [.ref xk], h) Q := t_aload_n k_233_242 rfl
theorem k_233_243 : lk 233 243 = some (.getfield 346, 246, 10, 50, .int 0) := by decide +kernel
theorem x_233_243 : Tr sc d 233 (243, [l0, l1, l2, l3, l4, l5, l6, l7, l8, l9, l10], [.ref k0], h) Q = (okp h k0 10 = true ∧ Tr sc d 233 (246, [l0, l1, l2, l3, l4, l5, l6, l7, l8, l9, l10], [.int (hI h k0 50)], h) Q) := t_gd k_233_243 rfl
theorem k_233_246 : lk 233 246 = some (.sipush 2000, 249, 0, 0, .int 2000) := by decide +kernel
theorem x_233_246 : Tr sc d 233 (246, [l0, l1, l2, l3, l4, l5, l6, l7, l8, l9, l10], [.int i0], h) Q = Tr sc d 233 (249, [l0, l1, l2, l3, l4, l5, l6, l7, l8, l9, l10], [.int 2000, .int i0], h) Q := t_go k_233_246 rfl
theorem k_233_249 : lk 233 249 = some (.if_icmp .ne 6, 252, 255, 0, .null) := by decide +kernel
theorem x_233_249 : Tr sc d 233 (249, [l0, l1, l2, l3, l4, l5, l6, l7, l8, l9, l10], [.int i1, .int i0], h) Q = if i0 = i1 then Tr sc d 233 (252, [l0, l1, l2, l3, l4, l5, l6, l7, l8, l9, l10], [], h) Q else Tr sc d 233 (255, [l0, l1, l2, l3, l4, l5, l6, l7, l8, l9, l10], [], h) Q := t_if k_233_249 rfl
theorem k_233_252 : lk 233 252 = some (.bipush (-6), 254, 0, 0, .int (-6)) := by decide +kernel
theorem x_233_252 : Tr sc d 233 (252, [l0, l1, l2, l3, l4, l5, l6, l7, l8, l9, l10], [], h) Q = Tr sc d 233 (254, [l0, l1, l2, l3, l4, l5, l6, l7, l8, l9, l10], [.int (-6)], h) Q := t_go k_233_252 rfl
theorem k_233_254 : lk 233 254 = some (.ireturn, 255, 0, 0, .null) := by decide +kernel
theorem x_233_254 : Tr sc d 233 (254, [l0, l1, l2, l3, l4, l5, l6, l7, l8, l9, l10], [.int i0], h) Q = Q (some (.int i0), h) := t_ret k_233_254 (by rw [r_233]; rfl)
theorem k_233_255 : lk 233 255 = some (.aload_n 0, 256, 0, 0, .null) := by decide +kernel
theorem x_233_255 : Tr sc d 233 (255, [some (.ref xk), l1, l2, l3, l4, l5, l6, l7, l8, l9, l10], [], h) Q = Tr sc d 233 (256, [some (.ref xk), l1, l2, l3, l4, l5, l6, l7, l8, l9, l10], [.ref xk], h) Q := t_aload_n k_233_255 rfl
theorem k_233_256 : lk 233 256 = some (.getfield 346, 259, 10, 50, .int 0) := by decide +kernel
theorem x_233_256 : Tr sc d 233 (256, [l0, l1, l2, l3, l4, l5, l6, l7, l8, l9, l10], [.ref k0], h) Q = (okp h k0 10 = true ∧ Tr sc d 233 (259, [l0, l1, l2, l3, l4, l5, l6, l7, l8, l9, l10], [.int (hI h k0 50)], h) Q) := t_gd k_233_256 rfl
theorem k_233_259 : lk 233 259 = some (.istore 10, 261, 10, 0, .null) := by decide +kernel
theorem x_233_259 : Tr sc d 233 (259, [l0, l1, l2, l3, l4, l5, l6, l7, l8, l9, l10], [.int i0], h) Q = Tr sc d 233 (261, [l0, l1, l2, l3, l4, l5, l6, l7, l8, cl2 l9, some (.int i0)], [], h) Q := t_istore k_233_259 (Nat.le_of_ble_eq_true rfl)
theorem k_233_261 : lk 233 261 = some (.aload_n 0, 262, 0, 0, .null) := by decide +kernel
theorem x_233_261 : Tr sc d 233 (261, [some (.ref xk), l1, l2, l3, l4, l5, l6, l7, l8, l9, l10], [], h) Q = Tr sc d 233 (262, [some (.ref xk), l1, l2, l3, l4, l5, l6, l7, l8, l9, l10], [.ref xk], h) Q := t_aload_n k_233_261 rfl
theorem k_233_262 : lk 233 262 = some (.getfield 101, 265, 10, 51, .null) := by decide +kernel
theorem x_233_262 : Tr sc d 233 (262, [l0, l1, l2, l3, l4, l5, l6, l7, l8, l9, l10], [.ref k0], h) Q = (okp h k0 10 = true ∧ ∃ q, hR h k0 51 = some q ∧ Tr sc d 233 (265, [l0, l1, l2, l3, l4, l5, l6, l7, l8, l9, l10], [.ref q], h) Q) := t_getr k_233_262
theorem k_233_265 : lk 233 265 = some (.aload_n 0, 266, 0, 0, .null) := by decide +kernel
theorem x_233_265 : Tr sc d 233 (265, [some (.ref xk), l1, l2, l3, l4, l5, l6, l7, l8, l9, l10], [.ref k0], h) Q = Tr sc d 233 (266, [some (.ref xk), l1, l2, l3, l4, l5, l6, l7, l8, l9, l10], [.ref xk, .ref k0], h) Q := t_aload_n k_233_265 rfl
theorem k_233_266 : lk 233 266 = some (.getfield 346, 269, 10, 50, .int 0) := by decide +kernel
theorem x_233_266 : Tr sc d 233 (266, [l0, l1, l2, l3, l4, l5, l6, l7, l8, l9, l10], [.ref k1, .ref k0], h) Q = (okp h k1 10 = true ∧ Tr sc d 233 (269, [l0, l1, l2, l3, l4, l5, l6, l7, l8, l9, l10], [.int (hI h k1 50), .ref k0], h) Q) := t_gd k_233_266 rfl
theorem k_233_269 : lk 233 269 = some (.iload 8, 271, 8, 0, .null) := by decide +kernel
theorem x_233_269 : Tr sc d 233 (269, [l0, l1, l2, l3, l4, l5, l6, l7, some (.int x), l9, l10], [.int i1, .ref k0], h) Q = Tr sc d 233 (271, [l0, l1, l2, l3, l4, l5, l6, l7, some (.int x), l9, l10], [.int x, .int i1, .ref k0], h) Q := t_iload k_233_269 rfl
theorem k_233_271 : lk 233 271 = some (.iastore, 272, 0, 0, .null) := by decide +kernel
theorem x_233_271 : Tr sc d 233 (271, [l0, l1, l2, l3, l4, l5, l6, l7, l8, l9, l10], [.int i2, .int i1, .ref k0], h) Q = ((okp h k0 11 && inb i1 (LN k0)) = true ∧ Tr sc d 233 (272, [l0, l1, l2, l3, l4, l5, l6, l7, l8, l9, l10], [], (sI h k0 i1.toNatClampNeg i2)) Q) := t_gd k_233_271 rfl
theorem k_233_272 : lk 233 272 = some (.aload_n 0, 273, 0, 0, .null) := by decide +kernel
theorem x_233_272 : Tr sc d 233 (272, [some (.ref xk), l1, l2, l3, l4, l5, l6, l7, l8, l9, l10], [], h) Q = Tr sc d 233 (273, [some (.ref xk), l1, l2, l3, l4, l5, l6, l7, l8, l9, l10], [.ref xk], h) Q := t_aload_n k_233_272 rfl
theorem k_233_273 : lk 233 273 = some (.getfield 104, 276, 10, 52, .null) := by decide +kernel
theorem x_233_273 : Tr sc d 233 (273, [l0, l1, l2, l3, l4, l5, l6, l7, l8, l9, l10], [.ref k0], h) Q = (okp h k0 10 = true ∧ ∃ q, hR h k0 52 = some q ∧ Tr sc d 233 (276, [l0, l1, l2, l3, l4, l5, l6, l7, l8, l9, l10], [.ref q], h) Q) := t_getr k_233_273
theorem k_233_276 : lk 233 276 = some (.aload_n 0, 277, 0, 0, .null) := by decide +kernel
theorem x_233_276 : Tr sc d 233 (276, [some (.ref xk), l1, l2, l3, l4, l5, l6, l7, l8, l9, l10], [.ref k0], h) Q = Tr sc d 233 (277, [some (.ref xk), l1, l2, l3, l4, l5, l6, l7, l8, l9, l10], [.ref xk, .ref k0], h) Q := t_aload_n k_233_276 rfl
theorem k_233_277 : lk 233 277 = some (.getfield 346, 280, 10, 50, .int 0) := by decide +kernel
theorem x_233_277 : Tr sc d 233 (277, [l0, l1, l2, l3, l4, l5, l6, l7, l8, l9, l10], [.ref k1, .ref k0], h) Q = (okp h k1 10 = true ∧ Tr sc d 233 (280, [l0, l1, l2, l3, l4, l5, l6, l7, l8, l9, l10], [.int (hI h k1 50), .ref k0], h) Q) := t_gd k_233_277 rfl
theorem k_233_280 : lk 233 280 = some (.iload 9, 282, 9, 0, .null) := by decide +kernel
theorem x_233_280 : Tr sc d 233 (280, [l0, l1, l2, l3, l4, l5, l6, l7, l8, some (.int x), l10], [.int i1, .ref k0], h) Q = Tr sc d 233 (282, [l0, l1, l2, l3, l4, l5, l6, l7, l8, some (.int x), l10], [.int x, .int i1, .ref k0], h) Q := t_iload k_233_280 rfl
theorem k_233_282 : lk 233 282 = some (.iastore, 283, 0, 0, .null) := by decide +kernel
theorem x_233_282 : Tr sc d 233 (282, [l0, l1, l2, l3, l4, l5, l6, l7, l8, l9, l10], [.int i2, .int i1, .ref k0], h) Q = ((okp h k0 11 && inb i1 (LN k0)) = true ∧ Tr sc d 233 (283, [l0, l1, l2, l3, l4, l5, l6, l7, l8, l9, l10], [], (sI h k0 i1.toNatClampNeg i2)) Q) := t_gd k_233_282 rfl
theorem k_233_283 : lk 233 283 = some (.aload_n 0, 284, 0, 0, .null) := by decide +kernel
theorem x_233_283 : Tr sc d 233 (283, [some (.ref xk), l1, l2, l3, l4, l5, l6, l7, l8, l9, l10], [], h) Q = Tr sc d 233 (284, [some (.ref xk), l1, l2, l3, l4, l5, l6, l7, l8, l9, l10], [.ref xk], h) Q := t_aload_n k_233_283 rfl
theorem k_233_284 : lk 233 284 = some (.dup, 285, 0, 0, .null) := by decide +kernel
theorem x_233_284 : Tr sc d 233 (284, [l0, l1, l2, l3, l4, l5, l6, l7, l8, l9, l10], [.ref k0], h) Q = Tr sc d 233 (285, [l0, l1, l2, l3, l4, l5, l6, l7, l8, l9, l10], [.ref k0, .ref k0], h) Q := t_go k_233_284 rfl
theorem k_233_285 : lk 233 285 = some (.getfield 346, 288, 10, 50, .int 0) := by decide +kernel
theorem x_233_285 : Tr sc d 233 (285, [l0, l1, l2, l3, l4, l5, l6, l7, l8, l9, l10], [.ref k1, .ref k0], h) Q = (okp h k1 10 = true ∧ Tr sc d 233 (288, [l0, l1, l2, l3, l4, l5, l6, l7, l8, l9, l10], [.int (hI h k1 50), .ref k0], h) Q) := t_gd k_233_285 rfl
theorem k_233_288 : lk 233 288 = some (.iconst 1, 289, 0, 0, .int 1) := by decide +kernel
theorem x_233_288 : Tr sc d 233 (288, [l0, l1, l2, l3, l4, l5, l6, l7, l8, l9, l10], [.int i1, .ref k0], h) Q = Tr sc d 233 (289, [l0, l1, l2, l3, l4, l5, l6, l7, l8, l9, l10], [.int 1, .int i1, .ref k0], h) Q := t_go k_233_288 rfl
theorem k_233_289 : lk 233 289 = some (.iadd, 290, 0, 0, .null) := by decide +kernel
theorem x_233_289 : Tr sc d 233 (289, [l0, l1, l2, l3, l4, l5, l6, l7, l8, l9, l10], [.int i2, .int i1, .ref k0], h) Q = Tr sc d 233 (290, [l0, l1, l2, l3, l4, l5, l6, l7, l8, l9, l10], [.int (i1 + i2), .ref k0], h) Q := t_go k_233_289 rfl
theorem k_233_290 : lk 233 290 = some (.putfield 346, 293, 10, 50, .int 0) := by decide +kernel
theorem x_233_290 : Tr sc d 233 (290, [l0, l1, l2, l3, l4, l5, l6, l7, l8, l9, l10], [.int i1, .ref k0], h) Q = (okp h k0 10 = true ∧ Tr sc d 233 (293, [l0, l1, l2, l3, l4, l5, l6, l7, l8, l9, l10], [], (sI h k0 50 i1)) Q) := t_gd k_233_290 rfl
theorem k_233_293 : lk 233 293 = some (.aload_n 0, 294, 0, 0, .null) := by decide +kernel
theorem x_233_293 : Tr sc d 233 (293, [some (.ref xk), l1, l2, l3, l4, l5, l6, l7, l8, l9, l10], [], h) Q = Tr sc d 233 (294, [some (.ref xk), l1, l2, l3, l4, l5, l6, l7, l8, l9, l10], [.ref xk], h) Q := t_aload_n k_233_293 rfl
theorem k_233_294 : lk 233 294 = some (.getfield 110, 297, 10, 54, .null) := by decide +kernel
theorem x_233_294 : Tr sc d 233 (294, [l0, l1, l2, l3, l4, l5, l6, l7, l8, l9, l10], [.ref k0], h) Q = (okp h k0 10 = true ∧ ∃ q, hR h k0 54 = some q ∧ Tr sc d 233 (297, [l0, l1, l2, l3, l4, l5, l6, l7, l8, l9, l10], [.ref q], h) Q) := t_getr k_233_294
theorem k_233_297 : lk 233 297 = some (.bipush 6, 299, 0, 0, .int 6) := by decide +kernel
theorem x_233_297 : Tr sc d 233 (297, [l0, l1, l2, l3, l4, l5, l6, l7, l8, l9, l10], [.ref k0], h) Q = Tr sc d 233 (299, [l0, l1, l2, l3, l4, l5, l6, l7, l8, l9, l10], [.int 6, .ref k0], h) Q := t_go k_233_297 rfl
theorem k_233_299 : lk 233 299 = some (.iload 6, 301, 6, 0, .null) := by decide +kernel
theorem x_233_299 : Tr sc d 233 (299, [l0, l1, l2, l3, l4, l5, some (.int x), l7, l8, l9, l10], [.int i1, .ref k0], h) Q = Tr sc d 233 (301, [l0, l1, l2, l3, l4, l5, some (.int x), l7, l8, l9, l10], [.int x, .int i1, .ref k0], h) Q := t_iload k_233_299 rfl
theorem k_233_301 : lk 233 301 = some (.imul, 302, 0, 0, .null) := by decide +kernel
theorem x_233_301 : Tr sc d 233 (301, [l0, l1, l2, l3, l4, l5, l6, l7, l8, l9, l10], [.int i2, .int i1, .ref k0], h) Q = Tr sc d 233 (302, [l0, l1, l2, l3, l4, l5, l6, l7, l8, l9, l10], [.int (i1 * i2), .ref k0], h) Q := t_go k_233_301 rfl
theorem k_233_302 : lk 233 302 = some (.iload 7, 304, 7, 0, .null) := by decide +kernel
theorem x_233_302 : Tr sc d 233 (302, [l0, l1, l2, l3, l4, l5, l6, some (.int x), l8, l9, l10], [.int i1, .ref k0], h) Q = Tr sc d 233 (304, [l0, l1, l2, l3, l4, l5, l6, some (.int x), l8, l9, l10], [.int x, .int i1, .ref k0], h) Q := t_iload k_233_302 rfl
theorem k_233_304 : lk 233 304 = some (.iadd, 305, 0, 0, .null) := by decide +kernel
theorem x_233_304 : Tr sc d 233 (304, [l0, l1, l2, l3, l4, l5, l6, l7, l8, l9, l10], [.int i2, .int i1, .ref k0], h) Q = Tr sc d 233 (305, [l0, l1, l2, l3, l4, l5, l6, l7, l8, l9, l10], [.int (i1 + i2), .ref k0], h) Q := t_go k_233_304 rfl
theorem k_233_305 : lk 233 305 = some (.iload 10, 307, 10, 0, .null) := by decide +kernel
theorem x_233_305 : Tr sc d 233 (305, [l0, l1, l2, l3, l4, l5, l6, l7, l8, l9, some (.int x)], [.int i1, .ref k0], h) Q = Tr sc d 233 (307, [l0, l1, l2, l3, l4, l5, l6, l7, l8, l9, some (.int x)], [.int x, .int i1, .ref k0], h) Q := t_iload k_233_305 rfl
theorem k_233_307 : lk 233 307 = some (.iastore, 308, 0, 0, .null) := by decide +kernel
theorem x_233_307 : Tr sc d 233 (307, [l0, l1, l2, l3, l4, l5, l6, l7, l8, l9, l10], [.int i2, .int i1, .ref k0], h) Q = ((okp h k0 11 && inb i1 (LN k0)) = true ∧ Tr sc d 233 (308, [l0, l1, l2, l3, l4, l5, l6, l7, l8, l9, l10], [], (sI h k0 i1.toNatClampNeg i2)) Q) := t_gd k_233_307 rfl
theorem k_233_308 : lk 233 308 = some (.iinc 7 1, 311, 7, 0, .int 1) := by decide +kernel
theorem x_233_308 : Tr sc d 233 (308, [l0, l1, l2, l3, l4, l5, l6, some (.int x), l8, l9, l10], [], h) Q = Tr sc d 233 (311, [l0, l1, l2, l3, l4, l5, cl2 l6, some (.int (x + 1)), l8, l9, l10], [], h) Q := t_inc k_233_308 rfl (Nat.le_of_ble_eq_true rfl)
theorem k_233_311 : lk 233 311 = some (.goto (-179), 314, 132, 0, .null) := by decide +kernel
theorem x_233_311 : Tr sc d 233 (311, [l0, l1, l2, l3, l4, l5, l6, l7, l8, l9, l10], [], h) Q = Tr sc d 233 (132, [l0, l1, l2, l3, l4, l5, l6, l7, l8, l9, l10], [], h) Q := t_go k_233_311 rfl
theorem k_233_314 : lk 233 314 = some (.iinc 6 1, 317, 6, 0, .int 1) := by decide +kernel
theorem x_233_314 : Tr sc d 233 (314, [l0, l1, l2, l3, l4, l5, some (.int x), l7, l8, l9, l10], [], h) Q = Tr sc d 233 (317, [l0, l1, l2, l3, l4, cl2 l5, some (.int (x + 1)), l7, l8, l9, l10], [], h) Q := t_inc k_233_314 rfl (Nat.le_of_ble_eq_true rfl)
theorem k_233_317 : lk 233 317 = some (.goto (-205), 320, 112, 0, .null) := by decide +kernel
theorem x_233_317 : Tr sc d 233 (317, [l0, l1, l2, l3, l4, l5, l6, l7, l8, l9, l10], [], h) Q = Tr sc d 233 (112, [l0, l1, l2, l3, l4, l5, l6, l7, l8, l9, l10], [], h) Q := t_go k_233_317 rfl
theorem k_233_320 : lk 233 320 = some (.iconst 1, 321, 0, 0, .int 1) := by decide +kernel
theorem x_233_320 : Tr sc d 233 (320, [l0, l1, l2, l3, l4, l5, l6, l7, l8, l9, l10], [], h) Q = Tr sc d 233 (321, [l0, l1, l2, l3, l4, l5, l6, l7, l8, l9, l10], [.int 1], h) Q := t_go k_233_320 rfl
theorem k_233_321 : lk 233 321 = some (.istore 6, 323, 6, 0, .null) := by decide +kernel
theorem x_233_321 : Tr sc d 233 (321, [l0, l1, l2, l3, l4, l5, l6, l7, l8, l9, l10], [.int i0], h) Q = Tr sc d 233 (323, [l0, l1, l2, l3, l4, cl2 l5, some (.int i0), l7, l8, l9, l10], [], h) Q := t_istore k_233_321 (Nat.le_of_ble_eq_true rfl)
theorem k_233_323 : lk 233 323 = some (.iload 6, 325, 6, 0, .null) := by decide +kernel
theorem x_233_323 : Tr sc d 233 (323, [l0, l1, l2, l3, l4, l5, some (.int x), l7, l8, l9, l10], [], h) Q = Tr sc d 233 (325, [l0, l1, l2, l3, l4, l5, some (.int x), l7, l8, l9, l10], [.int x], h) Q := t_iload k_233_323 rfl
theorem k_233_325 : lk 233 325 = some (.ifCond .eq 58, 328, 383, 0, .null) := by decide +kernel
theorem x_233_325 : Tr sc d 233 (325, [l0, l1, l2, l3, l4, l5, l6, l7, l8, l9, l10], [.int i0], h) Q = if i0 = 0 then Tr sc d 233 (383, [l0, l1, l2, l3, l4, l5, l6, l7, l8, l9, l10], [], h) Q else Tr sc d 233 (328, [l0, l1, l2, l3, l4, l5, l6, l7, l8, l9, l10], [], h) Q := t_if k_233_325 rfl
theorem k_233_328 : lk 233 328 = some (.iconst 0, 329, 0, 0, .int 0) := by decide +kernel
theorem x_233_328 : Tr sc d 233 (328, [l0, l1, l2, l3, l4, l5, l6, l7, l8, l9, l10], [], h) Q = Tr sc d 233 (329, [l0, l1, l2, l3, l4, l5, l6, l7, l8, l9, l10], [.int 0], h) Q := t_go k_233_328 rfl
theorem k_233_329 : lk 233 329 = some (.istore 6, 331, 6, 0, .null) := by decide +kernel
theorem x_233_329 : Tr sc d 233 (329, [l0, l1, l2, l3, l4, l5, l6, l7, l8, l9, l10], [.int i0], h) Q = Tr sc d 233 (331, [l0, l1, l2, l3, l4, cl2 l5, some (.int i0), l7, l8, l9, l10], [], h) Q := t_istore k_233_329 (Nat.le_of_ble_eq_true rfl)
theorem k_233_331 : lk 233 331 = some (.iconst 0, 332, 0, 0, .int 0) := by decide +kernel
theorem x_233_331 : Tr sc d 233 (331, [l0, l1, l2, l3, l4, l5, l6, l7, l8, l9, l10], [], h) Q = Tr sc d 233 (332, [l0, l1, l2, l3, l4, l5, l6, l7, l8, l9, l10], [.int 0], h) Q := t_go k_233_331 rfl
theorem k_233_332 : lk 233 332 = some (.istore 7, 334, 7, 0, .null) := by decide +kernel
theorem x_233_332 : Tr sc d 233 (332, [l0, l1, l2, l3, l4, l5, l6, l7, l8, l9, l10], [.int i0], h) Q = Tr sc d 233 (334, [l0, l1, l2, l3, l4, l5, cl2 l6, some (.int i0), l8, l9, l10], [], h) Q := t_istore k_233_332 (Nat.le_of_ble_eq_true rfl)
theorem k_233_334 : lk 233 334 = some (.iload 7, 336, 7, 0, .null) := by decide +kernel
theorem x_233_334 : Tr sc d 233 (334, [l0, l1, l2, l3, l4, l5, l6, some (.int x), l8, l9, l10], [], h) Q = Tr sc d 233 (336, [l0, l1, l2, l3, l4, l5, l6, some (.int x), l8, l9, l10], [.int x], h) Q := t_iload k_233_334 rfl
theorem k_233_336 : lk 233 336 = some (.aload_n 0, 337, 0, 0, .null) := by decide +kernel
theorem x_233_336 : Tr sc d 233 (336, [some (.ref xk), l1, l2, l3, l4, l5, l6, l7, l8, l9, l10], [.int i0], h) Q = Tr sc d 233 (337, [some (.ref xk), l1, l2, l3, l4, l5, l6, l7, l8, l9, l10], [.ref xk, .int i0], h) Q := t_aload_n k_233_336 rfl
theorem k_233_337 : lk 233 337 = some (.getfield 346, 340, 10, 50, .int 0) := by decide +kernel
theorem x_233_337 : Tr sc d 233 (337, [l0, l1, l2, l3, l4, l5, l6, l7, l8, l9, l10], [.ref k1, .int i0], h) Q = (okp h k1 10 = true ∧ Tr sc d 233 (340, [l0, l1, l2, l3, l4, l5, l6, l7, l8, l9, l10], [.int (hI h k1 50), .int i0], h) Q) := t_gd k_233_337 rfl
theorem k_233_340 : lk 233 340 = some (.if_icmp .ge 40, 343, 380, 0, .null) := by decide +kernel
theorem x_233_340 : Tr sc d 233 (340, [l0, l1, l2, l3, l4, l5, l6, l7, l8, l9, l10], [.int i1, .int i0], h) Q = if i1 ≤ i0 then Tr sc d 233 (380, [l0, l1, l2, l3, l4, l5, l6, l7, l8, l9, l10], [], h) Q else Tr sc d 233 (343, [l0, l1, l2, l3, l4, l5, l6, l7, l8, l9, l10], [], h) Q := t_if k_233_340 rfl
theorem k_233_343 : lk 233 343 = some (.aload_n 0, 344, 0, 0, .null) := by decide +kernel
theorem x_233_343 : Tr sc d 233 (343, [some (.ref xk), l1, l2, l3, l4, l5, l6, l7, l8, l9, l10], [], h) Q = Tr sc d 233 (344, [some (.ref xk), l1, l2, l3, l4, l5, l6, l7, l8, l9, l10], [.ref xk], h) Q := t_aload_n k_233_343 rfl
theorem k_233_344 : lk 233 344 = some (.getfield 107, 347, 10, 53, .null) := by decide +kernel
theorem x_233_344 : Tr sc d 233 (344, [l0, l1, l2, l3, l4, l5, l6, l7, l8, l9, l10], [.ref k0], h) Q = (okp h k0 10 = true ∧ ∃ q, hR h k0 53 = some q ∧ Tr sc d 233 (347, [l0, l1, l2, l3, l4, l5, l6, l7, l8, l9, l10], [.ref q], h) Q) := t_getr k_233_344
theorem k_233_347 : lk 233 347 = some (.iload 7, 349, 7, 0, .null) := by decide +kernel
theorem x_233_347 : Tr sc d 233 (347, [l0, l1, l2, l3, l4, l5, l6, some (.int x), l8, l9, l10], [.ref k0], h) Q = Tr sc d 233 (349, [l0, l1, l2, l3, l4, l5, l6, some (.int x), l8, l9, l10], [.int x, .ref k0], h) Q := t_iload k_233_347 rfl
theorem k_233_349 : lk 233 349 = some (.baload, 350, 0, 0, .null) := by decide +kernel
theorem x_233_349 : Tr sc d 233 (349, [l0, l1, l2, l3, l4, l5, l6, l7, l8, l9, l10], [.int i1, .ref k0], h) Q = ((okp h k0 13 && inb i1 (LN k0)) = true ∧ Tr sc d 233 (350, [l0, l1, l2, l3, l4, l5, l6, l7, l8, l9, l10], [.int (hI h k0 i1.toNatClampNeg)], h) Q) := t_gd k_233_349 rfl
theorem k_233_350 : lk 233 350 = some (.ifCond .eq 24, 353, 374, 0, .null) := by decide +kernel
theorem x_233_350 : Tr sc d 233 (350, [l0, l1, l2, l3, l4, l5, l6, l7, l8, l9, l10], [.int i0], h) Q = if i0 = 0 then Tr sc d 233 (374, [l0, l1, l2, l3, l4, l5, l6, l7, l8, l9, l10], [], h) Q else Tr sc d 233 (353, [l0, l1, l2, l3, l4, l5, l6, l7, l8, l9, l10], [], h) Q := t_if k_233_350 rfl
theorem k_233_353 : lk 233 353 = some (.aload_n 0, 354, 0, 0, .null) := by decide +kernel
theorem x_233_353 : Tr sc d 233 (353, [some (.ref xk), l1, l2, l3, l4, l5, l6, l7, l8, l9, l10], [], h) Q = Tr sc d 233 (354, [some (.ref xk), l1, l2, l3, l4, l5, l6, l7, l8, l9, l10], [.ref xk], h) Q := t_aload_n k_233_353 rfl
theorem k_233_354 : lk 233 354 = some (.iload_n 1, 355, 1, 0, .null) := by decide +kernel
theorem x_233_354 : Tr sc d 233 (354, [l0, some (.int x), l2, l3, l4, l5, l6, l7, l8, l9, l10], [.ref k0], h) Q = Tr sc d 233 (355, [l0, some (.int x), l2, l3, l4, l5, l6, l7, l8, l9, l10], [.int x, .ref k0], h) Q := t_iload_n k_233_354 rfl
theorem k_233_355 : lk 233 355 = some (.iload 7, 357, 7, 0, .null) := by decide +kernel
theorem x_233_355 : Tr sc d 233 (355, [l0, l1, l2, l3, l4, l5, l6, some (.int x), l8, l9, l10], [.int i1, .ref k0], h) Q = Tr sc d 233 (357, [l0, l1, l2, l3, l4, l5, l6, some (.int x), l8, l9, l10], [.int x, .int i1, .ref k0], h) Q := t_iload k_233_355 rfl
theorem k_233_357 : lk 233 357 = some (.invokevirtual 359, 360, 234, 2, .null) := by decide +kernel
theorem x_233_357 : Tr sc (d + 1) 233 (357, [l0, l1, l2, l3, l4, l5, l6, l7, l8, l9, l10], [.int i2, .int i1, .ref k0], h) Q = (okp h k0 10 = true ∧ Tr sc d 234 (ent0 234 [.ref k0, .int i1, .int i2] h) (fun z => Tr sc (d + 1) 233 (360, [l0, l1, l2, l3, l4, l5, l6, l7, l8, l9, l10], z.1.toList ++ [], z.2) Q)) := t_cv (as := [.int i1, .int i2]) (r := []) k_233_357 rfl rfl (Nat.le_of_ble_eq_true rfl) (Nat.le_of_ble_eq_true rfl) (Nat.le_of_ble_eq_true rfl)
theorem k_233_360 : lk 233 360 = some (.ifCond .ne 14, 363, 374, 0, .null) := by decide +kernel
theorem x_233_360 : Tr sc d 233 (360, [l0, l1, l2, l3, l4, l5, l6, l7, l8, l9, l10], [.int i0], h) Q = if i0 = 0 then Tr sc d 233 (363, [l0, l1, l2, l3, l4, l5, l6, l7, l8, l9, l10], [], h) Q else Tr sc d 233 (374, [l0, l1, l2, l3, l4, l5, l6, l7, l8, l9, l10], [], h) Q := t_if k_233_360 rfl
theorem k_233_363 : lk 233 363 = some (.aload_n 0, 364, 0, 0, .null) := by decide +kernel
theorem x_233_363 : Tr sc d 233 (363, [some (.ref xk), l1, l2, l3, l4, l5, l6, l7, l8, l9, l10], [], h) Q = Tr sc d 233 (364, [some (.ref xk), l1, l2, l3, l4, l5, l6, l7, l8, l9, l10], [.ref xk], h) Q := t_aload_n k_233_363 rfl
theorem k_233_364 : lk 233 364 = some (.getfield 107, 367, 10, 53, .null) := by decide +kernel
theorem x_233_364 : Tr sc d 233 (364, [l0, l1, l2, l3, l4, l5, l6, l7, l8, l9, l10], [.ref k0], h) Q = (okp h k0 10 = true ∧ ∃ q, hR h k0 53 = some q ∧ Tr sc d 233 (367, [l0, l1, l2, l3, l4, l5, l6, l7, l8, l9, l10], [.ref q], h) Q) := t_getr k_233_364
theorem k_233_367 : lk 233 367 = some (.iload 7, 369, 7, 0, .null) := by decide +kernel
theorem x_233_367 : Tr sc d 233 (367, [l0, l1, l2, l3, l4, l5, l6, some (.int x), l8, l9, l10], [.ref k0], h) Q = Tr sc d 233 (369, [l0, l1, l2, l3, l4, l5, l6, some (.int x), l8, l9, l10], [.int x, .ref k0], h) Q := t_iload k_233_367 rfl
theorem k_233_369 : lk 233 369 = some (.iconst 0, 370, 0, 0, .int 0) := by decide +kernel
theorem x_233_369 : Tr sc d 233 (369, [l0, l1, l2, l3, l4, l5, l6, l7, l8, l9, l10], [.int i1, .ref k0], h) Q = Tr sc d 233 (370, [l0, l1, l2, l3, l4, l5, l6, l7, l8, l9, l10], [.int 0, .int i1, .ref k0], h) Q := t_go k_233_369 rfl
theorem k_233_370 : lk 233 370 = some (.bastore, 371, 0, 0, .null) := by decide +kernel
theorem x_233_370 : Tr sc d 233 (370, [l0, l1, l2, l3, l4, l5, l6, l7, l8, l9, l10], [.int i2, .int i1, .ref k0], h) Q = ((okp h k0 13 && inb i1 (LN k0)) = true ∧ Tr sc d 233 (371, [l0, l1, l2, l3, l4, l5, l6, l7, l8, l9, l10], [], (sI h k0 i1.toNatClampNeg (vp_nar .boolean i2))) Q) := t_gd k_233_370 rfl
theorem k_233_371 : lk 233 371 = some (.iconst 1, 372, 0, 0, .int 1) := by decide +kernel
theorem x_233_371 : Tr sc d 233 (371, [l0, l1, l2, l3, l4, l5, l6, l7, l8, l9, l10], [], h) Q = Tr sc d 233 (372, [l0, l1, l2, l3, l4, l5, l6, l7, l8, l9, l10], [.int 1], h) Q := t_go k_233_371 rfl
theorem k_233_372 : lk 233 372 = some (.istore 6, 374, 6, 0, .null) := by decide +kernel
theorem x_233_372 : Tr sc d 233 (372, [l0, l1, l2, l3, l4, l5, l6, l7, l8, l9, l10], [.int i0], h) Q = Tr sc d 233 (374, [l0, l1, l2, l3, l4, cl2 l5, some (.int i0), l7, l8, l9, l10], [], h) Q := t_istore k_233_372 (Nat.le_of_ble_eq_true rfl)
theorem k_233_374 : lk 233 374 = some (.iinc 7 1, 377, 7, 0, .int 1) := by decide +kernel
theorem x_233_374 : Tr sc d 233 (374, [l0, l1, l2, l3, l4, l5, l6, some (.int x), l8, l9, l10], [], h) Q = Tr sc d 233 (377, [l0, l1, l2, l3, l4, l5, cl2 l6, some (.int (x + 1)), l8, l9, l10], [], h) Q := t_inc k_233_374 rfl (Nat.le_of_ble_eq_true rfl)
theorem k_233_377 : lk 233 377 = some (.goto (-43), 380, 334, 0, .null) := by decide +kernel
theorem x_233_377 : Tr sc d 233 (377, [l0, l1, l2, l3, l4, l5, l6, l7, l8, l9, l10], [], h) Q = Tr sc d 233 (334, [l0, l1, l2, l3, l4, l5, l6, l7, l8, l9, l10], [], h) Q := t_go k_233_377 rfl
theorem k_233_380 : lk 233 380 = some (.goto (-57), 383, 323, 0, .null) := by decide +kernel
theorem x_233_380 : Tr sc d 233 (380, [l0, l1, l2, l3, l4, l5, l6, l7, l8, l9, l10], [], h) Q = Tr sc d 233 (323, [l0, l1, l2, l3, l4, l5, l6, l7, l8, l9, l10], [], h) Q := t_go k_233_380 rfl
theorem k_233_383 : lk 233 383 = some (.iconst 0, 384, 0, 0, .int 0) := by decide +kernel
theorem x_233_383 : Tr sc d 233 (383, [l0, l1, l2, l3, l4, l5, l6, l7, l8, l9, l10], [], h) Q = Tr sc d 233 (384, [l0, l1, l2, l3, l4, l5, l6, l7, l8, l9, l10], [.int 0], h) Q := t_go k_233_383 rfl
theorem k_233_384 : lk 233 384 = some (.istore 7, 386, 7, 0, .null) := by decide +kernel
theorem x_233_384 : Tr sc d 233 (384, [l0, l1, l2, l3, l4, l5, l6, l7, l8, l9, l10], [.int i0], h) Q = Tr sc d 233 (386, [l0, l1, l2, l3, l4, l5, cl2 l6, some (.int i0), l8, l9, l10], [], h) Q := t_istore k_233_384 (Nat.le_of_ble_eq_true rfl)
theorem k_233_386 : lk 233 386 = some (.iconst 0, 387, 0, 0, .int 0) := by decide +kernel
theorem x_233_386 : Tr sc d 233 (386, [l0, l1, l2, l3, l4, l5, l6, l7, l8, l9, l10], [], h) Q = Tr sc d 233 (387, [l0, l1, l2, l3, l4, l5, l6, l7, l8, l9, l10], [.int 0], h) Q := t_go k_233_386 rfl
theorem k_233_387 : lk 233 387 = some (.istore 8, 389, 8, 0, .null) := by decide +kernel
theorem x_233_387 : Tr sc d 233 (387, [l0, l1, l2, l3, l4, l5, l6, l7, l8, l9, l10], [.int i0], h) Q = Tr sc d 233 (389, [l0, l1, l2, l3, l4, l5, l6, cl2 l7, some (.int i0), l9, l10], [], h) Q := t_istore k_233_387 (Nat.le_of_ble_eq_true rfl)
theorem k_233_389 : lk 233 389 = some (.iload 8, 391, 8, 0, .null) := by decide +kernel
theorem x_233_389 : Tr sc d 233 (389, [l0, l1, l2, l3, l4, l5, l6, l7, some (.int x), l9, l10], [], h) Q = Tr sc d 233 (391, [l0, l1, l2, l3, l4, l5, l6, l7, some (.int x), l9, l10], [.int x], h) Q := t_iload k_233_389 rfl
theorem k_233_391 : lk 233 391 = some (.aload_n 0, 392, 0, 0, .null) := by decide +kernel
theorem x_233_391 : Tr sc d 233 (391, [some (.ref xk), l1, l2, l3, l4, l5, l6, l7, l8, l9, l10], [.int i0], h) Q = Tr sc d 233 (392, [some (.ref xk), l1, l2, l3, l4, l5, l6, l7, l8, l9, l10], [.ref xk, .int i0], h) Q := t_aload_n k_233_391 rfl
theorem k_233_392 : lk 233 392 = some (.getfield 346, 395, 10, 50, .int 0) := by decide +kernel
theorem x_233_392 : Tr sc d 233 (392, [l0, l1, l2, l3, l4, l5, l6, l7, l8, l9, l10], [.ref k1, .int i0], h) Q = (okp h k1 10 = true ∧ Tr sc d 233 (395, [l0, l1, l2, l3, l4, l5, l6, l7, l8, l9, l10], [.int (hI h k1 50), .int i0], h) Q) := t_gd k_233_392 rfl
theorem k_233_395 : lk 233 395 = some (.if_icmp .ge 29, 398, 424, 0, .null) := by decide +kernel
theorem x_233_395 : Tr sc d 233 (395, [l0, l1, l2, l3, l4, l5, l6, l7, l8, l9, l10], [.int i1, .int i0], h) Q = if i1 ≤ i0 then Tr sc d 233 (424, [l0, l1, l2, l3, l4, l5, l6, l7, l8, l9, l10], [], h) Q else Tr sc d 233 (398, [l0, l1, l2, l3, l4, l5, l6, l7, l8, l9, l10], [], h) Q := t_if k_233_395 rfl
theorem k_233_398 : lk 233 398 = some (.iload 7, 400, 7, 0, .null) := by decide +kernel
theorem x_233_398 : Tr sc d 233 (398, [l0, l1, l2, l3, l4, l5, l6, some (.int x), l8, l9, l10], [], h) Q = Tr sc d 233 (400, [l0, l1, l2, l3, l4, l5, l6, some (.int x), l8, l9, l10], [.int x], h) Q := t_iload k_233_398 rfl
theorem k_233_400 : lk 233 400 = some (.aload_n 0, 401, 0, 0, .null) := by decide +kernel
theorem x_233_400 : Tr sc d 233 (400, [some (.ref xk), l1, l2, l3, l4, l5, l6, l7, l8, l9, l10], [.int i0], h) Q = Tr sc d 233 (401, [some (.ref xk), l1, l2, l3, l4, l5, l6, l7, l8, l9, l10], [.ref xk, .int i0], h) Q := t_aload_n k_233_400 rfl
theorem k_233_401 : lk 233 401 = some (.getfield 107, 404, 10, 53, .null) := by decide +kernel
theorem x_233_401 : Tr sc d 233 (401, [l0, l1, l2, l3, l4, l5, l6, l7, l8, l9, l10], [.ref k1, .int i0], h) Q = (okp h k1 10 = true ∧ ∃ q, hR h k1 53 = some q ∧ Tr sc d 233 (404, [l0, l1, l2, l3, l4, l5, l6, l7, l8, l9, l10], [.ref q, .int i0], h) Q) := t_getr k_233_401
theorem k_233_404 : lk 233 404 = some (.iload 8, 406, 8, 0, .null) := by decide +kernel
theorem x_233_404 : Tr sc d 233 (404, [l0, l1, l2, l3, l4, l5, l6, l7, some (.int x), l9, l10], [.ref k1, .int i0], h) Q = Tr sc d 233 (406, [l0, l1, l2, l3, l4, l5, l6, l7, some (.int x), l9, l10], [.int x, .ref k1, .int i0], h) Q := t_iload k_233_404 rfl
theorem k_233_406 : lk 233 406 = some (.baload, 407, 0, 0, .null) := by decide +kernel
theorem x_233_406 : Tr sc d 233 (406, [l0, l1, l2, l3, l4, l5, l6, l7, l8, l9, l10], [.int i2, .ref k1, .int i0], h) Q = ((okp h k1 13 && inb i2 (LN k1)) = true ∧ Tr sc d 233 (407, [l0, l1, l2, l3, l4, l5, l6, l7, l8, l9, l10], [.int (hI h k1 i2.toNatClampNeg), .int i0], h) Q) := t_gd k_233_406 rfl
theorem k_233_407 : lk 233 407 = some (.ifCond .eq 7, 410, 414, 0, .null) := by decide +kernel
theorem x_233_407 : Tr sc d 233 (407, [l0, l1, l2, l3, l4, l5, l6, l7, l8, l9, l10], [.int i1, .int i0], h) Q = if i1 = 0 then Tr sc d 233 (414, [l0, l1, l2, l3, l4, l5, l6, l7, l8, l9, l10], [.int i0], h) Q else Tr sc d 233 (410, [l0, l1, l2, l3, l4, l5, l6, l7, l8, l9, l10], [.int i0], h) Q := t_if k_233_407 rfl
theorem k_233_410 : lk 233 410 = some (.iconst 1, 411, 0, 0, .int 1) := by decide +kernel
theorem x_233_410 : Tr sc d 233 (410, [l0, l1, l2, l3, l4, l5, l6, l7, l8, l9, l10], [.int i0], h) Q = Tr sc d 233 (411, [l0, l1, l2, l3, l4, l5, l6, l7, l8, l9, l10], [.int 1, .int i0], h) Q := t_go k_233_410 rfl
theorem k_233_411 : lk 233 411 = some (.goto 4, 414, 415, 0, .null) := by decide +kernel
theorem x_233_411 : Tr sc d 233 (411, [l0, l1, l2, l3, l4, l5, l6, l7, l8, l9, l10], [.int i1, .int i0], h) Q = Tr sc d 233 (415, [l0, l1, l2, l3, l4, l5, l6, l7, l8, l9, l10], [.int i1, .int i0], h) Q := t_go k_233_411 rfl
theorem k_233_414 : lk 233 414 = some (.iconst 0, 415, 0, 0, .int 0) := by decide +kernel
theorem x_233_414 : Tr sc d 233 (414, [l0, l1, l2, l3, l4, l5, l6, l7, l8, l9, l10], [.int i0], h) Q = Tr sc d 233 (415, [l0, l1, l2, l3, l4, l5, l6, l7, l8, l9, l10], [.int 0, .int i0], h) Q := t_go k_233_414 rfl
theorem k_233_415 : lk 233 415 = some (.iadd, 416, 0, 0, .null) := by decide +kernel
theorem x_233_415 : Tr sc d 233 (415, [l0, l1, l2, l3, l4, l5, l6, l7, l8, l9, l10], [.int i1, .int i0], h) Q = Tr sc d 233 (416, [l0, l1, l2, l3, l4, l5, l6, l7, l8, l9, l10], [.int (i0 + i1)], h) Q := t_go k_233_415 rfl
theorem k_233_416 : lk 233 416 = some (.istore 7, 418, 7, 0, .null) := by decide +kernel
theorem x_233_416 : Tr sc d 233 (416, [l0, l1, l2, l3, l4, l5, l6, l7, l8, l9, l10], [.int i0], h) Q = Tr sc d 233 (418, [l0, l1, l2, l3, l4, l5, cl2 l6, some (.int i0), l8, l9, l10], [], h) Q := t_istore k_233_416 (Nat.le_of_ble_eq_true rfl)
theorem k_233_418 : lk 233 418 = some (.iinc 8 1, 421, 8, 0, .int 1) := by decide +kernel
theorem x_233_418 : Tr sc d 233 (418, [l0, l1, l2, l3, l4, l5, l6, l7, some (.int x), l9, l10], [], h) Q = Tr sc d 233 (421, [l0, l1, l2, l3, l4, l5, l6, cl2 l7, some (.int (x + 1)), l9, l10], [], h) Q := t_inc k_233_418 rfl (Nat.le_of_ble_eq_true rfl)
theorem k_233_421 : lk 233 421 = some (.goto (-32), 424, 389, 0, .null) := by decide +kernel
theorem x_233_421 : Tr sc d 233 (421, [l0, l1, l2, l3, l4, l5, l6, l7, l8, l9, l10], [], h) Q = Tr sc d 233 (389, [l0, l1, l2, l3, l4, l5, l6, l7, l8, l9, l10], [], h) Q := t_go k_233_421 rfl
theorem k_233_424 : lk 233 424 = some (.aload_n 0, 425, 0, 0, .null) := by decide +kernel
theorem x_233_424 : Tr sc d 233 (424, [some (.ref xk), l1, l2, l3, l4, l5, l6, l7, l8, l9, l10], [], h) Q = Tr sc d 233 (425, [some (.ref xk), l1, l2, l3, l4, l5, l6, l7, l8, l9, l10], [.ref xk], h) Q := t_aload_n k_233_424 rfl
theorem k_233_425 : lk 233 425 = some (.iload 7, 427, 7, 0, .null) := by decide +kernel
theorem x_233_425 : Tr sc d 233 (425, [l0, l1, l2, l3, l4, l5, l6, some (.int x), l8, l9, l10], [.ref k0], h) Q = Tr sc d 233 (427, [l0, l1, l2, l3, l4, l5, l6, some (.int x), l8, l9, l10], [.int x, .ref k0], h) Q := t_iload k_233_425 rfl
theorem k_233_427 : lk 233 427 = some (.iload 7, 429, 7, 0, .null) := by decide +kernel
theorem x_233_427 : Tr sc d 233 (427, [l0, l1, l2, l3, l4, l5, l6, some (.int x), l8, l9, l10], [.int i1, .ref k0], h) Q = Tr sc d 233 (429, [l0, l1, l2, l3, l4, l5, l6, some (.int x), l8, l9, l10], [.int x, .int i1, .ref k0], h) Q := t_iload k_233_427 rfl
theorem k_233_429 : lk 233 429 = some (.ifCond .le 7, 432, 436, 0, .null) := by decide +kernel
theorem x_233_429 : Tr sc d 233 (429, [l0, l1, l2, l3, l4, l5, l6, l7, l8, l9, l10], [.int i2, .int i1, .ref k0], h) Q = if i2 ≤ 0 then Tr sc d 233 (436, [l0, l1, l2, l3, l4, l5, l6, l7, l8, l9, l10], [.int i1, .ref k0], h) Q else Tr sc d 233 (432, [l0, l1, l2, l3, l4, l5, l6, l7, l8, l9, l10], [.int i1, .ref k0], h) Q := t_if k_233_429 rfl
theorem k_233_432 : lk 233 432 = some (.iconst 1, 433, 0, 0, .int 1) := by decide +kernel
theorem x_233_432 : Tr sc d 233 (432, [l0, l1, l2, l3, l4, l5, l6, l7, l8, l9, l10], [.int i1, .ref k0], h) Q = Tr sc d 233 (433, [l0, l1, l2, l3, l4, l5, l6, l7, l8, l9, l10], [.int 1, .int i1, .ref k0], h) Q := t_go k_233_432 rfl
theorem k_233_433 : lk 233 433 = some (.goto 4, 436, 437, 0, .null) := by decide +kernel
theorem x_233_433 : Tr sc d 233 (433, [l0, l1, l2, l3, l4, l5, l6, l7, l8, l9, l10], [.int i2, .int i1, .ref k0], h) Q = Tr sc d 233 (437, [l0, l1, l2, l3, l4, l5, l6, l7, l8, l9, l10], [.int i2, .int i1, .ref k0], h) Q := t_go k_233_433 rfl
theorem k_233_436 : lk 233 436 = some (.iconst 0, 437, 0, 0, .int 0) := by decide +kernel
theorem x_233_436 : Tr sc d 233 (436, [l0, l1, l2, l3, l4, l5, l6, l7, l8, l9, l10], [.int i1, .ref k0], h) Q = Tr sc d 233 (437, [l0, l1, l2, l3, l4, l5, l6, l7, l8, l9, l10], [.int 0, .int i1, .ref k0], h) Q := t_go k_233_436 rfl
theorem k_233_437 : lk 233 437 = some (.invokevirtual 162, 440, 159, 2, .null) := by decide +kernel
theorem x_233_437 : Tr sc (d + 1) 233 (437, [l0, l1, l2, l3, l4, l5, l6, l7, l8, l9, l10], [.int i2, .int i1, .ref k0], h) Q = (okp h k0 10 = true ∧ Tr sc d 159 (ent0 159 [.ref k0, .int i1, .int i2] h) (fun z => Tr sc (d + 1) 233 (440, [l0, l1, l2, l3, l4, l5, l6, l7, l8, l9, l10], z.1.toList ++ [], z.2) Q)) := t_cv (as := [.int i1, .int i2]) (r := []) k_233_437 rfl rfl (Nat.le_of_ble_eq_true rfl) (Nat.le_of_ble_eq_true rfl) (Nat.le_of_ble_eq_true rfl)
theorem k_233_440 : lk 233 440 = some (.ireturn, 441, 0, 0, .null) := by decide +kernel
theorem x_233_440 : Tr sc d 233 (440, [l0, l1, l2, l3, l4, l5, l6, l7, l8, l9, l10], [.int i0], h) Q = Q (some (.int i0), h) := t_ret k_233_440 (by rw [r_233]; rfl)
theorem e_233 : Tr sc d 233 (ent0 233 [.ref k0, .int i1, .int i2, .int i3, .int i4] h) Q = Tr sc d 233 (0, [some (.ref k0), some (.int i1), some (.int i2), some (.int i3), some (.int i4), none, none, none, none, none, none], [], h) Q := by
  have e : mL 233 = 11 := by decide +kernel
  unfold ent0
  rw [e]
  rfl
theorem r_234 : mR 234 = some .boolean := by decide +kernel
theorem k_234_0 : lk 234 0 = some (.iconst 0, 1, 0, 0, .int 0) := by decide +kernel
theorem x_234_0 : Tr sc d 234 (0, [l0, l1, l2, l3, l4, l5], [], h) Q = Tr sc d 234 (1, [l0, l1, l2, l3, l4, l5], [.int 0], h) Q := t_go k_234_0 rfl
theorem k_234_1 : lk 234 1 = some (.istore_n 3, 2, 3, 0, .null) := by decide +kernel
theorem x_234_1 : Tr sc d 234 (1, [l0, l1, l2, l3, l4, l5], [.int i0], h) Q = Tr sc d 234 (2, [l0, l1, cl2 l2, some (.int i0), l4, l5], [], h) Q := t_istore_n k_234_1 (Nat.le_of_ble_eq_true rfl)
theorem k_234_2 : lk 234 2 = some (.iconst 0, 3, 0, 0, .int 0) := by decide +kernel
theorem x_234_2 : Tr sc d 234 (2, [l0, l1, l2, l3, l4, l5], [], h) Q = Tr sc d 234 (3, [l0, l1, l2, l3, l4, l5], [.int 0], h) Q := t_go k_234_2 rfl
theorem k_234_3 : lk 234 3 = some (.istore 4, 5, 4, 0, .null) := by decide +kernel
theorem x_234_3 : Tr sc d 234 (3, [l0, l1, l2, l3, l4, l5], [.int i0], h) Q = Tr sc d 234 (5, [l0, l1, l2, cl2 l3, some (.int i0), l5], [], h) Q := t_istore k_234_3 (Nat.le_of_ble_eq_true rfl)
theorem k_234_5 : lk 234 5 = some (.iload 4, 7, 4, 0, .null) := by decide +kernel
theorem x_234_5 : Tr sc d 234 (5, [l0, l1, l2, l3, some (.int x), l5], [], h) Q = Tr sc d 234 (7, [l0, l1, l2, l3, some (.int x), l5], [.int x], h) Q := t_iload k_234_5 rfl
theorem k_234_7 : lk 234 7 = some (.aload_n 0, 8, 0, 0, .null) := by decide +kernel
theorem x_234_7 : Tr sc d 234 (7, [some (.ref xk), l1, l2, l3, l4, l5], [.int i0], h) Q = Tr sc d 234 (8, [some (.ref xk), l1, l2, l3, l4, l5], [.ref xk, .int i0], h) Q := t_aload_n k_234_7 rfl
theorem k_234_8 : lk 234 8 = some (.getfield 41, 11, 10, 18, .null) := by decide +kernel
theorem x_234_8 : Tr sc d 234 (8, [l0, l1, l2, l3, l4, l5], [.ref k1, .int i0], h) Q = (okp h k1 10 = true ∧ ∃ q, hR h k1 18 = some q ∧ Tr sc d 234 (11, [l0, l1, l2, l3, l4, l5], [.ref q, .int i0], h) Q) := t_getr k_234_8
theorem k_234_11 : lk 234 11 = some (.iload_n 1, 12, 1, 0, .null) := by decide +kernel
theorem x_234_11 : Tr sc d 234 (11, [l0, some (.int x), l2, l3, l4, l5], [.ref k1, .int i0], h) Q = Tr sc d 234 (12, [l0, some (.int x), l2, l3, l4, l5], [.int x, .ref k1, .int i0], h) Q := t_iload_n k_234_11 rfl
theorem k_234_12 : lk 234 12 = some (.iaload, 13, 0, 0, .null) := by decide +kernel
theorem x_234_12 : Tr sc d 234 (12, [l0, l1, l2, l3, l4, l5], [.int i2, .ref k1, .int i0], h) Q = (iOk sc h k1 i2 ∧ Tr sc d 234 (13, [l0, l1, l2, l3, l4, l5], [.int (iRd sc h k1 i2), .int i0], h) Q) := t_iald k_234_12
theorem k_234_13 : lk 234 13 = some (.if_icmp .ge 48, 16, 61, 0, .null) := by decide +kernel
theorem x_234_13 : Tr sc d 234 (13, [l0, l1, l2, l3, l4, l5], [.int i1, .int i0], h) Q = if i1 ≤ i0 then Tr sc d 234 (61, [l0, l1, l2, l3, l4, l5], [], h) Q else Tr sc d 234 (16, [l0, l1, l2, l3, l4, l5], [], h) Q := t_if k_234_13 rfl
theorem k_234_16 : lk 234 16 = some (.iload_n 3, 17, 3, 0, .null) := by decide +kernel
theorem x_234_16 : Tr sc d 234 (16, [l0, l1, l2, some (.int x), l4, l5], [], h) Q = Tr sc d 234 (17, [l0, l1, l2, some (.int x), l4, l5], [.int x], h) Q := t_iload_n k_234_16 rfl
theorem k_234_17 : lk 234 17 = some (.ifCond .ne 44, 20, 61, 0, .null) := by decide +kernel
theorem x_234_17 : Tr sc d 234 (17, [l0, l1, l2, l3, l4, l5], [.int i0], h) Q = if i0 = 0 then Tr sc d 234 (20, [l0, l1, l2, l3, l4, l5], [], h) Q else Tr sc d 234 (61, [l0, l1, l2, l3, l4, l5], [], h) Q := t_if k_234_17 rfl
theorem k_234_20 : lk 234 20 = some (.aload_n 0, 21, 0, 0, .null) := by decide +kernel
theorem x_234_20 : Tr sc d 234 (20, [some (.ref xk), l1, l2, l3, l4, l5], [], h) Q = Tr sc d 234 (21, [some (.ref xk), l1, l2, l3, l4, l5], [.ref xk], h) Q := t_aload_n k_234_20 rfl
theorem k_234_21 : lk 234 21 = some (.getfield 110, 24, 10, 54, .null) := by decide +kernel
theorem x_234_21 : Tr sc d 234 (21, [l0, l1, l2, l3, l4, l5], [.ref k0], h) Q = (okp h k0 10 = true ∧ ∃ q, hR h k0 54 = some q ∧ Tr sc d 234 (24, [l0, l1, l2, l3, l4, l5], [.ref q], h) Q) := t_getr k_234_21
theorem k_234_24 : lk 234 24 = some (.bipush 6, 26, 0, 0, .int 6) := by decide +kernel
theorem x_234_24 : Tr sc d 234 (24, [l0, l1, l2, l3, l4, l5], [.ref k0], h) Q = Tr sc d 234 (26, [l0, l1, l2, l3, l4, l5], [.int 6, .ref k0], h) Q := t_go k_234_24 rfl
theorem k_234_26 : lk 234 26 = some (.iload_n 2, 27, 2, 0, .null) := by decide +kernel
theorem x_234_26 : Tr sc d 234 (26, [l0, l1, some (.int x), l3, l4, l5], [.int i1, .ref k0], h) Q = Tr sc d 234 (27, [l0, l1, some (.int x), l3, l4, l5], [.int x, .int i1, .ref k0], h) Q := t_iload_n k_234_26 rfl
theorem k_234_27 : lk 234 27 = some (.imul, 28, 0, 0, .null) := by decide +kernel
theorem x_234_27 : Tr sc d 234 (27, [l0, l1, l2, l3, l4, l5], [.int i2, .int i1, .ref k0], h) Q = Tr sc d 234 (28, [l0, l1, l2, l3, l4, l5], [.int (i1 * i2), .ref k0], h) Q := t_go k_234_27 rfl
theorem k_234_28 : lk 234 28 = some (.iload 4, 30, 4, 0, .null) := by decide +kernel
theorem x_234_28 : Tr sc d 234 (28, [l0, l1, l2, l3, some (.int x), l5], [.int i1, .ref k0], h) Q = Tr sc d 234 (30, [l0, l1, l2, l3, some (.int x), l5], [.int x, .int i1, .ref k0], h) Q := t_iload k_234_28 rfl
theorem k_234_30 : lk 234 30 = some (.iadd, 31, 0, 0, .null) := by decide +kernel
theorem x_234_30 : Tr sc d 234 (30, [l0, l1, l2, l3, l4, l5], [.int i2, .int i1, .ref k0], h) Q = Tr sc d 234 (31, [l0, l1, l2, l3, l4, l5], [.int (i1 + i2), .ref k0], h) Q := t_go k_234_30 rfl
theorem k_234_31 : lk 234 31 = some (.iaload, 32, 0, 0, .null) := by decide +kernel
theorem x_234_31 : Tr sc d 234 (31, [l0, l1, l2, l3, l4, l5], [.int i1, .ref k0], h) Q = (iOk sc h k0 i1 ∧ Tr sc d 234 (32, [l0, l1, l2, l3, l4, l5], [.int (iRd sc h k0 i1)], h) Q) := t_iald k_234_31
theorem k_234_32 : lk 234 32 = some (.istore 5, 34, 5, 0, .null) := by decide +kernel
theorem x_234_32 : Tr sc d 234 (32, [l0, l1, l2, l3, l4, l5], [.int i0], h) Q = Tr sc d 234 (34, [l0, l1, l2, l3, cl2 l4, some (.int i0)], [], h) Q := t_istore k_234_32 (Nat.le_of_ble_eq_true rfl)
theorem k_234_34 : lk 234 34 = some (.iload 5, 36, 5, 0, .null) := by decide +kernel
theorem x_234_34 : Tr sc d 234 (34, [l0, l1, l2, l3, l4, some (.int x)], [], h) Q = Tr sc d 234 (36, [l0, l1, l2, l3, l4, some (.int x)], [.int x], h) Q := t_iload k_234_34 rfl
theorem k_234_36 : lk 234 36 = some (.ifCond .lt 17, 39, 53, 0, .null) := by decide +kernel
theorem x_234_36 : Tr sc d 234 (36, [l0, l1, l2, l3, l4, l5], [.int i0], h) Q = if i0 < 0 then Tr sc d 234 (53, [l0, l1, l2, l3, l4, l5], [], h) Q else Tr sc d 234 (39, [l0, l1, l2, l3, l4, l5], [], h) Q := t_if k_234_36 rfl
theorem k_234_39 : lk 234 39 = some (.aload_n 0, 40, 0, 0, .null) := by decide +kernel
theorem x_234_39 : Tr sc d 234 (39, [some (.ref xk), l1, l2, l3, l4, l5], [], h) Q = Tr sc d 234 (40, [some (.ref xk), l1, l2, l3, l4, l5], [.ref xk], h) Q := t_aload_n k_234_39 rfl
theorem k_234_40 : lk 234 40 = some (.getfield 107, 43, 10, 53, .null) := by decide +kernel
theorem x_234_40 : Tr sc d 234 (40, [l0, l1, l2, l3, l4, l5], [.ref k0], h) Q = (okp h k0 10 = true ∧ ∃ q, hR h k0 53 = some q ∧ Tr sc d 234 (43, [l0, l1, l2, l3, l4, l5], [.ref q], h) Q) := t_getr k_234_40
theorem k_234_43 : lk 234 43 = some (.iload 5, 45, 5, 0, .null) := by decide +kernel
theorem x_234_43 : Tr sc d 234 (43, [l0, l1, l2, l3, l4, some (.int x)], [.ref k0], h) Q = Tr sc d 234 (45, [l0, l1, l2, l3, l4, some (.int x)], [.int x, .ref k0], h) Q := t_iload k_234_43 rfl
theorem k_234_45 : lk 234 45 = some (.baload, 46, 0, 0, .null) := by decide +kernel
theorem x_234_45 : Tr sc d 234 (45, [l0, l1, l2, l3, l4, l5], [.int i1, .ref k0], h) Q = ((okp h k0 13 && inb i1 (LN k0)) = true ∧ Tr sc d 234 (46, [l0, l1, l2, l3, l4, l5], [.int (hI h k0 i1.toNatClampNeg)], h) Q) := t_gd k_234_45 rfl
theorem k_234_46 : lk 234 46 = some (.ifCond .eq 7, 49, 53, 0, .null) := by decide +kernel
theorem x_234_46 : Tr sc d 234 (46, [l0, l1, l2, l3, l4, l5], [.int i0], h) Q = if i0 = 0 then Tr sc d 234 (53, [l0, l1, l2, l3, l4, l5], [], h) Q else Tr sc d 234 (49, [l0, l1, l2, l3, l4, l5], [], h) Q := t_if k_234_46 rfl
theorem k_234_49 : lk 234 49 = some (.iconst 1, 50, 0, 0, .int 1) := by decide +kernel
theorem x_234_49 : Tr sc d 234 (49, [l0, l1, l2, l3, l4, l5], [], h) Q = Tr sc d 234 (50, [l0, l1, l2, l3, l4, l5], [.int 1], h) Q := t_go k_234_49 rfl
theorem k_234_50 : lk 234 50 = some (.goto 4, 53, 54, 0, .null) := by decide +kernel
theorem x_234_50 : Tr sc d 234 (50, [l0, l1, l2, l3, l4, l5], [.int i0], h) Q = Tr sc d 234 (54, [l0, l1, l2, l3, l4, l5], [.int i0], h) Q := t_go k_234_50 rfl
theorem k_234_53 : lk 234 53 = some (.iconst 0, 54, 0, 0, .int 0) := by decide +kernel
theorem x_234_53 : Tr sc d 234 (53, [l0, l1, l2, l3, l4, l5], [], h) Q = Tr sc d 234 (54, [l0, l1, l2, l3, l4, l5], [.int 0], h) Q := t_go k_234_53 rfl
theorem k_234_54 : lk 234 54 = some (.istore_n 3, 55, 3, 0, .null) := by decide +kernel
theorem x_234_54 : Tr sc d 234 (54, [l0, l1, l2, l3, l4, l5], [.int i0], h) Q = Tr sc d 234 (55, [l0, l1, cl2 l2, some (.int i0), l4, l5], [], h) Q := t_istore_n k_234_54 (Nat.le_of_ble_eq_true rfl)
theorem k_234_55 : lk 234 55 = some (.iinc 4 1, 58, 4, 0, .int 1) := by decide +kernel
theorem x_234_55 : Tr sc d 234 (55, [l0, l1, l2, l3, some (.int x), l5], [], h) Q = Tr sc d 234 (58, [l0, l1, l2, cl2 l3, some (.int (x + 1)), l5], [], h) Q := t_inc k_234_55 rfl (Nat.le_of_ble_eq_true rfl)
theorem k_234_58 : lk 234 58 = some (.goto (-53), 61, 5, 0, .null) := by decide +kernel
theorem x_234_58 : Tr sc d 234 (58, [l0, l1, l2, l3, l4, l5], [], h) Q = Tr sc d 234 (5, [l0, l1, l2, l3, l4, l5], [], h) Q := t_go k_234_58 rfl
theorem k_234_61 : lk 234 61 = some (.iload_n 3, 62, 3, 0, .null) := by decide +kernel
theorem x_234_61 : Tr sc d 234 (61, [l0, l1, l2, some (.int x), l4, l5], [], h) Q = Tr sc d 234 (62, [l0, l1, l2, some (.int x), l4, l5], [.int x], h) Q := t_iload_n k_234_61 rfl
theorem k_234_62 : lk 234 62 = some (.ireturn, 63, 0, 0, .null) := by decide +kernel
theorem x_234_62 : Tr sc d 234 (62, [l0, l1, l2, l3, l4, l5], [.int i0], h) Q = (vp_nar .boolean i0 = i0 ∧ Q (some (.int i0), h)) := t_zret k_234_62 r_234
theorem e_234 : Tr sc d 234 (ent0 234 [.ref k0, .int i1, .int i2] h) Q = Tr sc d 234 (0, [some (.ref k0), some (.int i1), some (.int i2), none, none, none], [], h) Q := by
  have e : mL 234 = 6 := by decide +kernel
  unfold ent0
  rw [e]
  rfl
theorem r_235 : mR 235 = some .int := by decide +kernel
theorem k_235_0 : lk 235 0 = some (.iload_n 2, 1, 2, 0, .null) := by decide +kernel
theorem x_235_0 : Tr sc d 235 (0, [l0, l1, some (.int x), l3, l4, l5, l6, l7, l8, l9, l10], [], h) Q = Tr sc d 235 (1, [l0, l1, some (.int x), l3, l4, l5, l6, l7, l8, l9, l10], [.int x], h) Q := t_iload_n k_235_0 rfl
theorem k_235_1 : lk 235 1 = some (.iconst 0, 2, 0, 0, .int 0) := by decide +kernel
theorem x_235_1 : Tr sc d 235 (1, [l0, l1, l2, l3, l4, l5, l6, l7, l8, l9, l10], [.int i0], h) Q = Tr sc d 235 (2, [l0, l1, l2, l3, l4, l5, l6, l7, l8, l9, l10], [.int 0, .int i0], h) Q := t_go k_235_1 rfl
theorem k_235_2 : lk 235 2 = some (.bipush 6, 4, 0, 0, .int 6) := by decide +kernel
theorem x_235_2 : Tr sc d 235 (2, [l0, l1, l2, l3, l4, l5, l6, l7, l8, l9, l10], [.int i1, .int i0], h) Q = Tr sc d 235 (4, [l0, l1, l2, l3, l4, l5, l6, l7, l8, l9, l10], [.int 6, .int i1, .int i0], h) Q := t_go k_235_2 rfl
theorem k_235_4 : lk 235 4 = some (.invokestatic 144, 7, 157, 3, .null) := by decide +kernel
theorem x_235_4 : Tr sc (d + 1) 235 (4, [l0, l1, l2, l3, l4, l5, l6, l7, l8, l9, l10], [.int i2, .int i1, .int i0], h) Q = Tr sc d 157 (ent0 157 [.int i0, .int i1, .int i2] h) (fun z => Tr sc (d + 1) 235 (7, [l0, l1, l2, l3, l4, l5, l6, l7, l8, l9, l10], z.1.toList ++ [], z.2) Q) := t_cs (as := [.int i0, .int i1, .int i2]) (r := []) k_235_4 (by decide) rfl rfl (Nat.le_of_ble_eq_true rfl) (Nat.le_of_ble_eq_true rfl)
theorem k_235_7 : lk 235 7 = some (.ifCond .ne 5, 10, 12, 0, .null) := by decide +kernel
theorem x_235_7 : Tr sc d 235 (7, [l0, l1, l2, l3, l4, l5, l6, l7, l8, l9, l10], [.int i0], h) Q = if i0 = 0 then Tr sc d 235 (10, [l0, l1, l2, l3, l4, l5, l6, l7, l8, l9, l10], [], h) Q else Tr sc d 235 (12, [l0, l1, l2, l3, l4, l5, l6, l7, l8, l9, l10], [], h) Q := t_if k_235_7 rfl
theorem k_235_10 : lk 235 10 = some (.iconst (-1), 11, 0, 0, .int (-1)) := by decide +kernel
theorem x_235_10 : Tr sc d 235 (10, [l0, l1, l2, l3, l4, l5, l6, l7, l8, l9, l10], [], h) Q = Tr sc d 235 (11, [l0, l1, l2, l3, l4, l5, l6, l7, l8, l9, l10], [.int (-1)], h) Q := t_go k_235_10 rfl
theorem k_235_11 : lk 235 11 = some (.ireturn, 12, 0, 0, .null) := by decide +kernel
theorem x_235_11 : Tr sc d 235 (11, [l0, l1, l2, l3, l4, l5, l6, l7, l8, l9, l10], [.int i0], h) Q = Q (some (.int i0), h) := t_ret k_235_11 (by rw [r_235]; rfl)
theorem k_235_12 : lk 235 12 = some (.aload_n 0, 13, 0, 0, .null) := by decide +kernel
theorem x_235_12 : Tr sc d 235 (12, [some (.ref xk), l1, l2, l3, l4, l5, l6, l7, l8, l9, l10], [], h) Q = Tr sc d 235 (13, [some (.ref xk), l1, l2, l3, l4, l5, l6, l7, l8, l9, l10], [.ref xk], h) Q := t_aload_n k_235_12 rfl
theorem k_235_13 : lk 235 13 = some (.iload_n 1, 14, 1, 0, .null) := by decide +kernel
theorem x_235_13 : Tr sc d 235 (13, [l0, some (.int x), l2, l3, l4, l5, l6, l7, l8, l9, l10], [.ref k0], h) Q = Tr sc d 235 (14, [l0, some (.int x), l2, l3, l4, l5, l6, l7, l8, l9, l10], [.int x, .ref k0], h) Q := t_iload_n k_235_13 rfl
theorem k_235_14 : lk 235 14 = some (.invokevirtual 327, 17, 218, 1, .null) := by decide +kernel
theorem x_235_14 : Tr sc (d + 1) 235 (14, [l0, l1, l2, l3, l4, l5, l6, l7, l8, l9, l10], [.int i1, .ref k0], h) Q = (okp h k0 10 = true ∧ Tr sc d 218 (ent0 218 [.ref k0, .int i1] h) (fun z => Tr sc (d + 1) 235 (17, [l0, l1, l2, l3, l4, l5, l6, l7, l8, l9, l10], z.1.toList ++ [], z.2) Q)) := t_cv (as := [.int i1]) (r := []) k_235_14 rfl rfl (Nat.le_of_ble_eq_true rfl) (Nat.le_of_ble_eq_true rfl) (Nat.le_of_ble_eq_true rfl)
theorem k_235_17 : lk 235 17 = some (.istore_n 3, 18, 3, 0, .null) := by decide +kernel
theorem x_235_17 : Tr sc d 235 (17, [l0, l1, l2, l3, l4, l5, l6, l7, l8, l9, l10], [.int i0], h) Q = Tr sc d 235 (18, [l0, l1, cl2 l2, some (.int i0), l4, l5, l6, l7, l8, l9, l10], [], h) Q := t_istore_n k_235_17 (Nat.le_of_ble_eq_true rfl)
theorem k_235_18 : lk 235 18 = some (.iload_n 3, 19, 3, 0, .null) := by decide +kernel
theorem x_235_18 : Tr sc d 235 (18, [l0, l1, l2, some (.int x), l4, l5, l6, l7, l8, l9, l10], [], h) Q = Tr sc d 235 (19, [l0, l1, l2, some (.int x), l4, l5, l6, l7, l8, l9, l10], [.int x], h) Q := t_iload_n k_235_18 rfl
theorem k_235_19 : lk 235 19 = some (.ifCond .ge 5, 22, 24, 0, .null) := by decide +kernel
theorem x_235_19 : Tr sc d 235 (19, [l0, l1, l2, l3, l4, l5, l6, l7, l8, l9, l10], [.int i0], h) Q = if 0 ≤ i0 then Tr sc d 235 (24, [l0, l1, l2, l3, l4, l5, l6, l7, l8, l9, l10], [], h) Q else Tr sc d 235 (22, [l0, l1, l2, l3, l4, l5, l6, l7, l8, l9, l10], [], h) Q := t_if k_235_19 rfl
theorem k_235_22 : lk 235 22 = some (.iload_n 3, 23, 3, 0, .null) := by decide +kernel
theorem x_235_22 : Tr sc d 235 (22, [l0, l1, l2, some (.int x), l4, l5, l6, l7, l8, l9, l10], [], h) Q = Tr sc d 235 (23, [l0, l1, l2, some (.int x), l4, l5, l6, l7, l8, l9, l10], [.int x], h) Q := t_iload_n k_235_22 rfl
theorem k_235_23 : lk 235 23 = some (.ireturn, 24, 0, 0, .null) := by decide +kernel
theorem x_235_23 : Tr sc d 235 (23, [l0, l1, l2, l3, l4, l5, l6, l7, l8, l9, l10], [.int i0], h) Q = Q (some (.int i0), h) := t_ret k_235_23 (by rw [r_235]; rfl)
theorem k_235_24 : lk 235 24 = some (.iconst 0, 25, 0, 0, .int 0) := by decide +kernel
theorem x_235_24 : Tr sc d 235 (24, [l0, l1, l2, l3, l4, l5, l6, l7, l8, l9, l10], [], h) Q = Tr sc d 235 (25, [l0, l1, l2, l3, l4, l5, l6, l7, l8, l9, l10], [.int 0], h) Q := t_go k_235_24 rfl
theorem k_235_25 : lk 235 25 = some (.istore 4, 27, 4, 0, .null) := by decide +kernel
theorem x_235_25 : Tr sc d 235 (25, [l0, l1, l2, l3, l4, l5, l6, l7, l8, l9, l10], [.int i0], h) Q = Tr sc d 235 (27, [l0, l1, l2, cl2 l3, some (.int i0), l5, l6, l7, l8, l9, l10], [], h) Q := t_istore k_235_25 (Nat.le_of_ble_eq_true rfl)
theorem k_235_27 : lk 235 27 = some (.iload 4, 29, 4, 0, .null) := by decide +kernel
theorem x_235_27 : Tr sc d 235 (27, [l0, l1, l2, l3, some (.int x), l5, l6, l7, l8, l9, l10], [], h) Q = Tr sc d 235 (29, [l0, l1, l2, l3, some (.int x), l5, l6, l7, l8, l9, l10], [.int x], h) Q := t_iload k_235_27 rfl
theorem k_235_29 : lk 235 29 = some (.sipush 1369, 32, 0, 0, .int 1369) := by decide +kernel
theorem x_235_29 : Tr sc d 235 (29, [l0, l1, l2, l3, l4, l5, l6, l7, l8, l9, l10], [.int i0], h) Q = Tr sc d 235 (32, [l0, l1, l2, l3, l4, l5, l6, l7, l8, l9, l10], [.int 1369, .int i0], h) Q := t_go k_235_29 rfl
theorem k_235_32 : lk 235 32 = some (.if_icmp .ge 31, 35, 63, 0, .null) := by decide +kernel
theorem x_235_32 : Tr sc d 235 (32, [l0, l1, l2, l3, l4, l5, l6, l7, l8, l9, l10], [.int i1, .int i0], h) Q = if i1 ≤ i0 then Tr sc d 235 (63, [l0, l1, l2, l3, l4, l5, l6, l7, l8, l9, l10], [], h) Q else Tr sc d 235 (35, [l0, l1, l2, l3, l4, l5, l6, l7, l8, l9, l10], [], h) Q := t_if k_235_32 rfl
theorem k_235_35 : lk 235 35 = some (.aload_n 0, 36, 0, 0, .null) := by decide +kernel
theorem x_235_35 : Tr sc d 235 (35, [some (.ref xk), l1, l2, l3, l4, l5, l6, l7, l8, l9, l10], [], h) Q = Tr sc d 235 (36, [some (.ref xk), l1, l2, l3, l4, l5, l6, l7, l8, l9, l10], [.ref xk], h) Q := t_aload_n k_235_35 rfl
theorem k_235_36 : lk 235 36 = some (.getfield 116, 39, 10, 56, .null) := by decide +kernel
theorem x_235_36 : Tr sc d 235 (36, [l0, l1, l2, l3, l4, l5, l6, l7, l8, l9, l10], [.ref k0], h) Q = (okp h k0 10 = true ∧ ∃ q, hR h k0 56 = some q ∧ Tr sc d 235 (39, [l0, l1, l2, l3, l4, l5, l6, l7, l8, l9, l10], [.ref q], h) Q) := t_getr k_235_36
theorem k_235_39 : lk 235 39 = some (.iload 4, 41, 4, 0, .null) := by decide +kernel
theorem x_235_39 : Tr sc d 235 (39, [l0, l1, l2, l3, some (.int x), l5, l6, l7, l8, l9, l10], [.ref k0], h) Q = Tr sc d 235 (41, [l0, l1, l2, l3, some (.int x), l5, l6, l7, l8, l9, l10], [.int x, .ref k0], h) Q := t_iload k_235_39 rfl
theorem k_235_41 : lk 235 41 = some (.aload_n 0, 42, 0, 0, .null) := by decide +kernel
theorem x_235_41 : Tr sc d 235 (41, [some (.ref xk), l1, l2, l3, l4, l5, l6, l7, l8, l9, l10], [.int i1, .ref k0], h) Q = Tr sc d 235 (42, [some (.ref xk), l1, l2, l3, l4, l5, l6, l7, l8, l9, l10], [.ref xk, .int i1, .ref k0], h) Q := t_aload_n k_235_41 rfl
theorem k_235_42 : lk 235 42 = some (.getfield 84, 45, 10, 45, .null) := by decide +kernel
theorem x_235_42 : Tr sc d 235 (42, [l0, l1, l2, l3, l4, l5, l6, l7, l8, l9, l10], [.ref k2, .int i1, .ref k0], h) Q = (okp h k2 10 = true ∧ ∃ q, hR h k2 45 = some q ∧ Tr sc d 235 (45, [l0, l1, l2, l3, l4, l5, l6, l7, l8, l9, l10], [.ref q, .int i1, .ref k0], h) Q) := t_getr k_235_42
theorem k_235_45 : lk 235 45 = some (.iload 4, 47, 4, 0, .null) := by decide +kernel
theorem x_235_45 : Tr sc d 235 (45, [l0, l1, l2, l3, some (.int x), l5, l6, l7, l8, l9, l10], [.ref k2, .int i1, .ref k0], h) Q = Tr sc d 235 (47, [l0, l1, l2, l3, some (.int x), l5, l6, l7, l8, l9, l10], [.int x, .ref k2, .int i1, .ref k0], h) Q := t_iload k_235_45 rfl
theorem k_235_47 : lk 235 47 = some (.baload, 48, 0, 0, .null) := by decide +kernel
theorem x_235_47 : Tr sc d 235 (47, [l0, l1, l2, l3, l4, l5, l6, l7, l8, l9, l10], [.int i3, .ref k2, .int i1, .ref k0], h) Q = ((okp h k2 13 && inb i3 (LN k2)) = true ∧ Tr sc d 235 (48, [l0, l1, l2, l3, l4, l5, l6, l7, l8, l9, l10], [.int (hI h k2 i3.toNatClampNeg), .int i1, .ref k0], h) Q) := t_gd k_235_47 rfl
theorem k_235_48 : lk 235 48 = some (.ifCond .eq 7, 51, 55, 0, .null) := by decide +kernel
theorem x_235_48 : Tr sc d 235 (48, [l0, l1, l2, l3, l4, l5, l6, l7, l8, l9, l10], [.int i2, .int i1, .ref k0], h) Q = if i2 = 0 then Tr sc d 235 (55, [l0, l1, l2, l3, l4, l5, l6, l7, l8, l9, l10], [.int i1, .ref k0], h) Q else Tr sc d 235 (51, [l0, l1, l2, l3, l4, l5, l6, l7, l8, l9, l10], [.int i1, .ref k0], h) Q := t_if k_235_48 rfl
theorem k_235_51 : lk 235 51 = some (.lconst 1, 52, 0, 0, .long 1) := by decide +kernel
theorem x_235_51 : Tr sc d 235 (51, [l0, l1, l2, l3, l4, l5, l6, l7, l8, l9, l10], [.int i1, .ref k0], h) Q = Tr sc d 235 (52, [l0, l1, l2, l3, l4, l5, l6, l7, l8, l9, l10], [.long 1, .int i1, .ref k0], h) Q := t_go k_235_51 rfl
theorem k_235_52 : lk 235 52 = some (.goto 4, 55, 56, 0, .null) := by decide +kernel
theorem x_235_52 : Tr sc d 235 (52, [l0, l1, l2, l3, l4, l5, l6, l7, l8, l9, l10], [.long j2, .int i1, .ref k0], h) Q = Tr sc d 235 (56, [l0, l1, l2, l3, l4, l5, l6, l7, l8, l9, l10], [.long j2, .int i1, .ref k0], h) Q := t_go k_235_52 rfl
theorem k_235_55 : lk 235 55 = some (.lconst 0, 56, 0, 0, .long 0) := by decide +kernel
theorem x_235_55 : Tr sc d 235 (55, [l0, l1, l2, l3, l4, l5, l6, l7, l8, l9, l10], [.int i1, .ref k0], h) Q = Tr sc d 235 (56, [l0, l1, l2, l3, l4, l5, l6, l7, l8, l9, l10], [.long 0, .int i1, .ref k0], h) Q := t_go k_235_55 rfl
theorem k_235_56 : lk 235 56 = some (.lastore, 57, 0, 0, .null) := by decide +kernel
theorem x_235_56 : Tr sc d 235 (56, [l0, l1, l2, l3, l4, l5, l6, l7, l8, l9, l10], [.long j2, .int i1, .ref k0], h) Q = ((okp h k0 12 && inb i1 (LN k0)) = true ∧ Tr sc d 235 (57, [l0, l1, l2, l3, l4, l5, l6, l7, l8, l9, l10], [], (sL h k0 i1.toNatClampNeg j2)) Q) := t_gd k_235_56 rfl
theorem k_235_57 : lk 235 57 = some (.iinc 4 1, 60, 4, 0, .int 1) := by decide +kernel
theorem x_235_57 : Tr sc d 235 (57, [l0, l1, l2, l3, some (.int x), l5, l6, l7, l8, l9, l10], [], h) Q = Tr sc d 235 (60, [l0, l1, l2, cl2 l3, some (.int (x + 1)), l5, l6, l7, l8, l9, l10], [], h) Q := t_inc k_235_57 rfl (Nat.le_of_ble_eq_true rfl)
theorem k_235_60 : lk 235 60 = some (.goto (-33), 63, 27, 0, .null) := by decide +kernel
theorem x_235_60 : Tr sc d 235 (60, [l0, l1, l2, l3, l4, l5, l6, l7, l8, l9, l10], [], h) Q = Tr sc d 235 (27, [l0, l1, l2, l3, l4, l5, l6, l7, l8, l9, l10], [], h) Q := t_go k_235_60 rfl
theorem k_235_63 : lk 235 63 = some (.iconst 0, 64, 0, 0, .int 0) := by decide +kernel
theorem x_235_63 : Tr sc d 235 (63, [l0, l1, l2, l3, l4, l5, l6, l7, l8, l9, l10], [], h) Q = Tr sc d 235 (64, [l0, l1, l2, l3, l4, l5, l6, l7, l8, l9, l10], [.int 0], h) Q := t_go k_235_63 rfl
theorem k_235_64 : lk 235 64 = some (.istore 4, 66, 4, 0, .null) := by decide +kernel
theorem x_235_64 : Tr sc d 235 (64, [l0, l1, l2, l3, l4, l5, l6, l7, l8, l9, l10], [.int i0], h) Q = Tr sc d 235 (66, [l0, l1, l2, cl2 l3, some (.int i0), l5, l6, l7, l8, l9, l10], [], h) Q := t_istore k_235_64 (Nat.le_of_ble_eq_true rfl)
theorem k_235_66 : lk 235 66 = some (.iload 4, 68, 4, 0, .null) := by decide +kernel
theorem x_235_66 : Tr sc d 235 (66, [l0, l1, l2, l3, some (.int x), l5, l6, l7, l8, l9, l10], [], h) Q = Tr sc d 235 (68, [l0, l1, l2, l3, some (.int x), l5, l6, l7, l8, l9, l10], [.int x], h) Q := t_iload k_235_66 rfl
theorem k_235_68 : lk 235 68 = some (.iload_n 2, 69, 2, 0, .null) := by decide +kernel
theorem x_235_68 : Tr sc d 235 (68, [l0, l1, some (.int x), l3, l4, l5, l6, l7, l8, l9, l10], [.int i0], h) Q = Tr sc d 235 (69, [l0, l1, some (.int x), l3, l4, l5, l6, l7, l8, l9, l10], [.int x, .int i0], h) Q := t_iload_n k_235_68 rfl
theorem k_235_69 : lk 235 69 = some (.if_icmp .ge 237, 72, 306, 0, .null) := by decide +kernel
theorem x_235_69 : Tr sc d 235 (69, [l0, l1, l2, l3, l4, l5, l6, l7, l8, l9, l10], [.int i1, .int i0], h) Q = if i1 ≤ i0 then Tr sc d 235 (306, [l0, l1, l2, l3, l4, l5, l6, l7, l8, l9, l10], [], h) Q else Tr sc d 235 (72, [l0, l1, l2, l3, l4, l5, l6, l7, l8, l9, l10], [], h) Q := t_if k_235_69 rfl
theorem k_235_72 : lk 235 72 = some (.iconst 0, 73, 0, 0, .int 0) := by decide +kernel
theorem x_235_72 : Tr sc d 235 (72, [l0, l1, l2, l3, l4, l5, l6, l7, l8, l9, l10], [], h) Q = Tr sc d 235 (73, [l0, l1, l2, l3, l4, l5, l6, l7, l8, l9, l10], [.int 0], h) Q := t_go k_235_72 rfl
theorem k_235_73 : lk 235 73 = some (.istore 5, 75, 5, 0, .null) := by decide +kernel
theorem x_235_73 : Tr sc d 235 (73, [l0, l1, l2, l3, l4, l5, l6, l7, l8, l9, l10], [.int i0], h) Q = Tr sc d 235 (75, [l0, l1, l2, l3, cl2 l4, some (.int i0), l6, l7, l8, l9, l10], [], h) Q := t_istore k_235_73 (Nat.le_of_ble_eq_true rfl)
theorem k_235_75 : lk 235 75 = some (.iload 5, 77, 5, 0, .null) := by decide +kernel
theorem x_235_75 : Tr sc d 235 (75, [l0, l1, l2, l3, l4, some (.int x), l6, l7, l8, l9, l10], [], h) Q = Tr sc d 235 (77, [l0, l1, l2, l3, l4, some (.int x), l6, l7, l8, l9, l10], [.int x], h) Q := t_iload k_235_75 rfl
theorem k_235_77 : lk 235 77 = some (.sipush 1369, 80, 0, 0, .int 1369) := by decide +kernel
theorem x_235_77 : Tr sc d 235 (77, [l0, l1, l2, l3, l4, l5, l6, l7, l8, l9, l10], [.int i0], h) Q = Tr sc d 235 (80, [l0, l1, l2, l3, l4, l5, l6, l7, l8, l9, l10], [.int 1369, .int i0], h) Q := t_go k_235_77 rfl
theorem k_235_80 : lk 235 80 = some (.if_icmp .ge 189, 83, 269, 0, .null) := by decide +kernel
theorem x_235_80 : Tr sc d 235 (80, [l0, l1, l2, l3, l4, l5, l6, l7, l8, l9, l10], [.int i1, .int i0], h) Q = if i1 ≤ i0 then Tr sc d 235 (269, [l0, l1, l2, l3, l4, l5, l6, l7, l8, l9, l10], [], h) Q else Tr sc d 235 (83, [l0, l1, l2, l3, l4, l5, l6, l7, l8, l9, l10], [], h) Q := t_if k_235_80 rfl
theorem k_235_83 : lk 235 83 = some (.aload_n 0, 84, 0, 0, .null) := by decide +kernel
theorem x_235_83 : Tr sc d 235 (83, [some (.ref xk), l1, l2, l3, l4, l5, l6, l7, l8, l9, l10], [], h) Q = Tr sc d 235 (84, [some (.ref xk), l1, l2, l3, l4, l5, l6, l7, l8, l9, l10], [.ref xk], h) Q := t_aload_n k_235_83 rfl
theorem k_235_84 : lk 235 84 = some (.getfield 119, 87, 10, 57, .null) := by decide +kernel
theorem x_235_84 : Tr sc d 235 (84, [l0, l1, l2, l3, l4, l5, l6, l7, l8, l9, l10], [.ref k0], h) Q = (okp h k0 10 = true ∧ ∃ q, hR h k0 57 = some q ∧ Tr sc d 235 (87, [l0, l1, l2, l3, l4, l5, l6, l7, l8, l9, l10], [.ref q], h) Q) := t_getr k_235_84
theorem k_235_87 : lk 235 87 = some (.iload 5, 89, 5, 0, .null) := by decide +kernel
theorem x_235_87 : Tr sc d 235 (87, [l0, l1, l2, l3, l4, some (.int x), l6, l7, l8, l9, l10], [.ref k0], h) Q = Tr sc d 235 (89, [l0, l1, l2, l3, l4, some (.int x), l6, l7, l8, l9, l10], [.int x, .ref k0], h) Q := t_iload k_235_87 rfl
theorem k_235_89 : lk 235 89 = some (.lconst 0, 90, 0, 0, .long 0) := by decide +kernel
theorem x_235_89 : Tr sc d 235 (89, [l0, l1, l2, l3, l4, l5, l6, l7, l8, l9, l10], [.int i1, .ref k0], h) Q = Tr sc d 235 (90, [l0, l1, l2, l3, l4, l5, l6, l7, l8, l9, l10], [.long 0, .int i1, .ref k0], h) Q := t_go k_235_89 rfl
theorem k_235_90 : lk 235 90 = some (.lastore, 91, 0, 0, .null) := by decide +kernel
theorem x_235_90 : Tr sc d 235 (90, [l0, l1, l2, l3, l4, l5, l6, l7, l8, l9, l10], [.long j2, .int i1, .ref k0], h) Q = ((okp h k0 12 && inb i1 (LN k0)) = true ∧ Tr sc d 235 (91, [l0, l1, l2, l3, l4, l5, l6, l7, l8, l9, l10], [], (sL h k0 i1.toNatClampNeg j2)) Q) := t_gd k_235_90 rfl
theorem k_235_91 : lk 235 91 = some (.iconst 0, 92, 0, 0, .int 0) := by decide +kernel
theorem x_235_91 : Tr sc d 235 (91, [l0, l1, l2, l3, l4, l5, l6, l7, l8, l9, l10], [], h) Q = Tr sc d 235 (92, [l0, l1, l2, l3, l4, l5, l6, l7, l8, l9, l10], [.int 0], h) Q := t_go k_235_91 rfl
theorem k_235_92 : lk 235 92 = some (.istore 6, 94, 6, 0, .null) := by decide +kernel
theorem x_235_92 : Tr sc d 235 (92, [l0, l1, l2, l3, l4, l5, l6, l7, l8, l9, l10], [.int i0], h) Q = Tr sc d 235 (94, [l0, l1, l2, l3, l4, cl2 l5, some (.int i0), l7, l8, l9, l10], [], h) Q := t_istore k_235_92 (Nat.le_of_ble_eq_true rfl)
theorem k_235_94 : lk 235 94 = some (.iload 6, 96, 6, 0, .null) := by decide +kernel
theorem x_235_94 : Tr sc d 235 (94, [l0, l1, l2, l3, l4, l5, some (.int x), l7, l8, l9, l10], [], h) Q = Tr sc d 235 (96, [l0, l1, l2, l3, l4, l5, some (.int x), l7, l8, l9, l10], [.int x], h) Q := t_iload k_235_94 rfl
theorem k_235_96 : lk 235 96 = some (.aload_n 0, 97, 0, 0, .null) := by decide +kernel
theorem x_235_96 : Tr sc d 235 (96, [some (.ref xk), l1, l2, l3, l4, l5, l6, l7, l8, l9, l10], [.int i0], h) Q = Tr sc d 235 (97, [some (.ref xk), l1, l2, l3, l4, l5, l6, l7, l8, l9, l10], [.ref xk, .int i0], h) Q := t_aload_n k_235_96 rfl
theorem k_235_97 : lk 235 97 = some (.getfield 41, 100, 10, 18, .null) := by decide +kernel
theorem x_235_97 : Tr sc d 235 (97, [l0, l1, l2, l3, l4, l5, l6, l7, l8, l9, l10], [.ref k1, .int i0], h) Q = (okp h k1 10 = true ∧ ∃ q, hR h k1 18 = some q ∧ Tr sc d 235 (100, [l0, l1, l2, l3, l4, l5, l6, l7, l8, l9, l10], [.ref q, .int i0], h) Q) := t_getr k_235_97
theorem k_235_100 : lk 235 100 = some (.iload_n 1, 101, 1, 0, .null) := by decide +kernel
theorem x_235_100 : Tr sc d 235 (100, [l0, some (.int x), l2, l3, l4, l5, l6, l7, l8, l9, l10], [.ref k1, .int i0], h) Q = Tr sc d 235 (101, [l0, some (.int x), l2, l3, l4, l5, l6, l7, l8, l9, l10], [.int x, .ref k1, .int i0], h) Q := t_iload_n k_235_100 rfl
theorem k_235_101 : lk 235 101 = some (.iaload, 102, 0, 0, .null) := by decide +kernel
theorem x_235_101 : Tr sc d 235 (101, [l0, l1, l2, l3, l4, l5, l6, l7, l8, l9, l10], [.int i2, .ref k1, .int i0], h) Q = (iOk sc h k1 i2 ∧ Tr sc d 235 (102, [l0, l1, l2, l3, l4, l5, l6, l7, l8, l9, l10], [.int (iRd sc h k1 i2), .int i0], h) Q) := t_iald k_235_101
theorem k_235_102 : lk 235 102 = some (.aload_n 0, 103, 0, 0, .null) := by decide +kernel
theorem x_235_102 : Tr sc d 235 (102, [some (.ref xk), l1, l2, l3, l4, l5, l6, l7, l8, l9, l10], [.int i1, .int i0], h) Q = Tr sc d 235 (103, [some (.ref xk), l1, l2, l3, l4, l5, l6, l7, l8, l9, l10], [.ref xk, .int i1, .int i0], h) Q := t_aload_n k_235_102 rfl
theorem k_235_103 : lk 235 103 = some (.getfield 41, 106, 10, 18, .null) := by decide +kernel
theorem x_235_103 : Tr sc d 235 (103, [l0, l1, l2, l3, l4, l5, l6, l7, l8, l9, l10], [.ref k2, .int i1, .int i0], h) Q = (okp h k2 10 = true ∧ ∃ q, hR h k2 18 = some q ∧ Tr sc d 235 (106, [l0, l1, l2, l3, l4, l5, l6, l7, l8, l9, l10], [.ref q, .int i1, .int i0], h) Q) := t_getr k_235_103
theorem k_235_106 : lk 235 106 = some (.iload_n 1, 107, 1, 0, .null) := by decide +kernel
theorem x_235_106 : Tr sc d 235 (106, [l0, some (.int x), l2, l3, l4, l5, l6, l7, l8, l9, l10], [.ref k2, .int i1, .int i0], h) Q = Tr sc d 235 (107, [l0, some (.int x), l2, l3, l4, l5, l6, l7, l8, l9, l10], [.int x, .ref k2, .int i1, .int i0], h) Q := t_iload_n k_235_106 rfl
theorem k_235_107 : lk 235 107 = some (.iaload, 108, 0, 0, .null) := by decide +kernel
theorem x_235_107 : Tr sc d 235 (107, [l0, l1, l2, l3, l4, l5, l6, l7, l8, l9, l10], [.int i3, .ref k2, .int i1, .int i0], h) Q = (iOk sc h k2 i3 ∧ Tr sc d 235 (108, [l0, l1, l2, l3, l4, l5, l6, l7, l8, l9, l10], [.int (iRd sc h k2 i3), .int i1, .int i0], h) Q) := t_iald k_235_107
theorem k_235_108 : lk 235 108 = some (.imul, 109, 0, 0, .null) := by decide +kernel
theorem x_235_108 : Tr sc d 235 (108, [l0, l1, l2, l3, l4, l5, l6, l7, l8, l9, l10], [.int i2, .int i1, .int i0], h) Q = Tr sc d 235 (109, [l0, l1, l2, l3, l4, l5, l6, l7, l8, l9, l10], [.int (i1 * i2), .int i0], h) Q := t_go k_235_108 rfl
theorem k_235_109 : lk 235 109 = some (.if_icmp .ge 154, 112, 263, 0, .null) := by decide +kernel
theorem x_235_109 : Tr sc d 235 (109, [l0, l1, l2, l3, l4, l5, l6, l7, l8, l9, l10], [.int i1, .int i0], h) Q = if i1 ≤ i0 then Tr sc d 235 (263, [l0, l1, l2, l3, l4, l5, l6, l7, l8, l9, l10], [], h) Q else Tr sc d 235 (112, [l0, l1, l2, l3, l4, l5, l6, l7, l8, l9, l10], [], h) Q := t_if k_235_109 rfl
theorem k_235_112 : lk 235 112 = some (.aload_n 0, 113, 0, 0, .null) := by decide +kernel
theorem x_235_112 : Tr sc d 235 (112, [some (.ref xk), l1, l2, l3, l4, l5, l6, l7, l8, l9, l10], [], h) Q = Tr sc d 235 (113, [some (.ref xk), l1, l2, l3, l4, l5, l6, l7, l8, l9, l10], [.ref xk], h) Q := t_aload_n k_235_112 rfl
theorem k_235_113 : lk 235 113 = some (.getfield 84, 116, 10, 45, .null) := by decide +kernel
theorem x_235_113 : Tr sc d 235 (113, [l0, l1, l2, l3, l4, l5, l6, l7, l8, l9, l10], [.ref k0], h) Q = (okp h k0 10 = true ∧ ∃ q, hR h k0 45 = some q ∧ Tr sc d 235 (116, [l0, l1, l2, l3, l4, l5, l6, l7, l8, l9, l10], [.ref q], h) Q) := t_getr k_235_113
theorem k_235_116 : lk 235 116 = some (.iload 5, 118, 5, 0, .null) := by decide +kernel
theorem x_235_116 : Tr sc d 235 (116, [l0, l1, l2, l3, l4, some (.int x), l6, l7, l8, l9, l10], [.ref k0], h) Q = Tr sc d 235 (118, [l0, l1, l2, l3, l4, some (.int x), l6, l7, l8, l9, l10], [.int x, .ref k0], h) Q := t_iload k_235_116 rfl
theorem k_235_118 : lk 235 118 = some (.baload, 119, 0, 0, .null) := by decide +kernel
theorem x_235_118 : Tr sc d 235 (118, [l0, l1, l2, l3, l4, l5, l6, l7, l8, l9, l10], [.int i1, .ref k0], h) Q = ((okp h k0 13 && inb i1 (LN k0)) = true ∧ Tr sc d 235 (119, [l0, l1, l2, l3, l4, l5, l6, l7, l8, l9, l10], [.int (hI h k0 i1.toNatClampNeg)], h) Q) := t_gd k_235_118 rfl
theorem k_235_119 : lk 235 119 = some (.ifCond .eq 144, 122, 263, 0, .null) := by decide +kernel
theorem x_235_119 : Tr sc d 235 (119, [l0, l1, l2, l3, l4, l5, l6, l7, l8, l9, l10], [.int i0], h) Q = if i0 = 0 then Tr sc d 235 (263, [l0, l1, l2, l3, l4, l5, l6, l7, l8, l9, l10], [], h) Q else Tr sc d 235 (122, [l0, l1, l2, l3, l4, l5, l6, l7, l8, l9, l10], [], h) Q := t_if k_235_119 rfl
theorem k_235_122 : lk 235 122 = some (.bipush 6, 124, 0, 0, .int 6) := by decide +kernel
theorem x_235_122 : Tr sc d 235 (122, [l0, l1, l2, l3, l4, l5, l6, l7, l8, l9, l10], [], h) Q = Tr sc d 235 (124, [l0, l1, l2, l3, l4, l5, l6, l7, l8, l9, l10], [.int 6], h) Q := t_go k_235_122 rfl
theorem k_235_124 : lk 235 124 = some (.iload_n 1, 125, 1, 0, .null) := by decide +kernel
theorem x_235_124 : Tr sc d 235 (124, [l0, some (.int x), l2, l3, l4, l5, l6, l7, l8, l9, l10], [.int i0], h) Q = Tr sc d 235 (125, [l0, some (.int x), l2, l3, l4, l5, l6, l7, l8, l9, l10], [.int x, .int i0], h) Q := t_iload_n k_235_124 rfl
theorem k_235_125 : lk 235 125 = some (.imul, 126, 0, 0, .null) := by decide +kernel
theorem x_235_125 : Tr sc d 235 (125, [l0, l1, l2, l3, l4, l5, l6, l7, l8, l9, l10], [.int i1, .int i0], h) Q = Tr sc d 235 (126, [l0, l1, l2, l3, l4, l5, l6, l7, l8, l9, l10], [.int (i0 * i1)], h) Q := t_go k_235_125 rfl
theorem k_235_126 : lk 235 126 = some (.iload 6, 128, 6, 0, .null) := by decide +kernel
theorem x_235_126 : Tr sc d 235 (126, [l0, l1, l2, l3, l4, l5, some (.int x), l7, l8, l9, l10], [.int i0], h) Q = Tr sc d 235 (128, [l0, l1, l2, l3, l4, l5, some (.int x), l7, l8, l9, l10], [.int x, .int i0], h) Q := t_iload k_235_126 rfl
theorem k_235_128 : lk 235 128 = some (.aload_n 0, 129, 0, 0, .null) := by decide +kernel
theorem x_235_128 : Tr sc d 235 (128, [some (.ref xk), l1, l2, l3, l4, l5, l6, l7, l8, l9, l10], [.int i1, .int i0], h) Q = Tr sc d 235 (129, [some (.ref xk), l1, l2, l3, l4, l5, l6, l7, l8, l9, l10], [.ref xk, .int i1, .int i0], h) Q := t_aload_n k_235_128 rfl
theorem k_235_129 : lk 235 129 = some (.getfield 41, 132, 10, 18, .null) := by decide +kernel
theorem x_235_129 : Tr sc d 235 (129, [l0, l1, l2, l3, l4, l5, l6, l7, l8, l9, l10], [.ref k2, .int i1, .int i0], h) Q = (okp h k2 10 = true ∧ ∃ q, hR h k2 18 = some q ∧ Tr sc d 235 (132, [l0, l1, l2, l3, l4, l5, l6, l7, l8, l9, l10], [.ref q, .int i1, .int i0], h) Q) := t_getr k_235_129
theorem k_235_132 : lk 235 132 = some (.iload_n 1, 133, 1, 0, .null) := by decide +kernel
theorem x_235_132 : Tr sc d 235 (132, [l0, some (.int x), l2, l3, l4, l5, l6, l7, l8, l9, l10], [.ref k2, .int i1, .int i0], h) Q = Tr sc d 235 (133, [l0, some (.int x), l2, l3, l4, l5, l6, l7, l8, l9, l10], [.int x, .ref k2, .int i1, .int i0], h) Q := t_iload_n k_235_132 rfl
theorem k_235_133 : lk 235 133 = some (.iaload, 134, 0, 0, .null) := by decide +kernel
theorem x_235_133 : Tr sc d 235 (133, [l0, l1, l2, l3, l4, l5, l6, l7, l8, l9, l10], [.int i3, .ref k2, .int i1, .int i0], h) Q = (iOk sc h k2 i3 ∧ Tr sc d 235 (134, [l0, l1, l2, l3, l4, l5, l6, l7, l8, l9, l10], [.int (iRd sc h k2 i3), .int i1, .int i0], h) Q) := t_iald k_235_133
theorem k_235_134 : lk 235 134 = some (.idiv, 135, 0, 0, .null) := by decide +kernel
theorem x_235_134 : Tr sc d 235 (134, [l0, l1, l2, l3, l4, l5, l6, l7, l8, l9, l10], [.int i2, .int i1, .int i0], h) Q = (¬ i2 = 0 ∧ Tr sc d 235 (135, [l0, l1, l2, l3, l4, l5, l6, l7, l8, l9, l10], [.int (i1 / i2), .int i0], h) Q) := t_ng k_235_134 rfl
theorem k_235_135 : lk 235 135 = some (.iadd, 136, 0, 0, .null) := by decide +kernel
theorem x_235_135 : Tr sc d 235 (135, [l0, l1, l2, l3, l4, l5, l6, l7, l8, l9, l10], [.int i1, .int i0], h) Q = Tr sc d 235 (136, [l0, l1, l2, l3, l4, l5, l6, l7, l8, l9, l10], [.int (i0 + i1)], h) Q := t_go k_235_135 rfl
theorem k_235_136 : lk 235 136 = some (.istore 7, 138, 7, 0, .null) := by decide +kernel
theorem x_235_136 : Tr sc d 235 (136, [l0, l1, l2, l3, l4, l5, l6, l7, l8, l9, l10], [.int i0], h) Q = Tr sc d 235 (138, [l0, l1, l2, l3, l4, l5, cl2 l6, some (.int i0), l8, l9, l10], [], h) Q := t_istore k_235_136 (Nat.le_of_ble_eq_true rfl)
theorem k_235_138 : lk 235 138 = some (.bipush 6, 140, 0, 0, .int 6) := by decide +kernel
theorem x_235_138 : Tr sc d 235 (138, [l0, l1, l2, l3, l4, l5, l6, l7, l8, l9, l10], [], h) Q = Tr sc d 235 (140, [l0, l1, l2, l3, l4, l5, l6, l7, l8, l9, l10], [.int 6], h) Q := t_go k_235_138 rfl
theorem k_235_140 : lk 235 140 = some (.iload_n 1, 141, 1, 0, .null) := by decide +kernel
theorem x_235_140 : Tr sc d 235 (140, [l0, some (.int x), l2, l3, l4, l5, l6, l7, l8, l9, l10], [.int i0], h) Q = Tr sc d 235 (141, [l0, some (.int x), l2, l3, l4, l5, l6, l7, l8, l9, l10], [.int x, .int i0], h) Q := t_iload_n k_235_140 rfl
theorem k_235_141 : lk 235 141 = some (.imul, 142, 0, 0, .null) := by decide +kernel
theorem x_235_141 : Tr sc d 235 (141, [l0, l1, l2, l3, l4, l5, l6, l7, l8, l9, l10], [.int i1, .int i0], h) Q = Tr sc d 235 (142, [l0, l1, l2, l3, l4, l5, l6, l7, l8, l9, l10], [.int (i0 * i1)], h) Q := t_go k_235_141 rfl
theorem k_235_142 : lk 235 142 = some (.iload 6, 144, 6, 0, .null) := by decide +kernel
theorem x_235_142 : Tr sc d 235 (142, [l0, l1, l2, l3, l4, l5, some (.int x), l7, l8, l9, l10], [.int i0], h) Q = Tr sc d 235 (144, [l0, l1, l2, l3, l4, l5, some (.int x), l7, l8, l9, l10], [.int x, .int i0], h) Q := t_iload k_235_142 rfl
theorem k_235_144 : lk 235 144 = some (.aload_n 0, 145, 0, 0, .null) := by decide +kernel
theorem x_235_144 : Tr sc d 235 (144, [some (.ref xk), l1, l2, l3, l4, l5, l6, l7, l8, l9, l10], [.int i1, .int i0], h) Q = Tr sc d 235 (145, [some (.ref xk), l1, l2, l3, l4, l5, l6, l7, l8, l9, l10], [.ref xk, .int i1, .int i0], h) Q := t_aload_n k_235_144 rfl
theorem k_235_145 : lk 235 145 = some (.getfield 41, 148, 10, 18, .null) := by decide +kernel
theorem x_235_145 : Tr sc d 235 (145, [l0, l1, l2, l3, l4, l5, l6, l7, l8, l9, l10], [.ref k2, .int i1, .int i0], h) Q = (okp h k2 10 = true ∧ ∃ q, hR h k2 18 = some q ∧ Tr sc d 235 (148, [l0, l1, l2, l3, l4, l5, l6, l7, l8, l9, l10], [.ref q, .int i1, .int i0], h) Q) := t_getr k_235_145
theorem k_235_148 : lk 235 148 = some (.iload_n 1, 149, 1, 0, .null) := by decide +kernel
theorem x_235_148 : Tr sc d 235 (148, [l0, some (.int x), l2, l3, l4, l5, l6, l7, l8, l9, l10], [.ref k2, .int i1, .int i0], h) Q = Tr sc d 235 (149, [l0, some (.int x), l2, l3, l4, l5, l6, l7, l8, l9, l10], [.int x, .ref k2, .int i1, .int i0], h) Q := t_iload_n k_235_148 rfl
theorem k_235_149 : lk 235 149 = some (.iaload, 150, 0, 0, .null) := by decide +kernel
theorem x_235_149 : Tr sc d 235 (149, [l0, l1, l2, l3, l4, l5, l6, l7, l8, l9, l10], [.int i3, .ref k2, .int i1, .int i0], h) Q = (iOk sc h k2 i3 ∧ Tr sc d 235 (150, [l0, l1, l2, l3, l4, l5, l6, l7, l8, l9, l10], [.int (iRd sc h k2 i3), .int i1, .int i0], h) Q) := t_iald k_235_149
theorem k_235_150 : lk 235 150 = some (.irem, 151, 0, 0, .null) := by decide +kernel
theorem x_235_150 : Tr sc d 235 (150, [l0, l1, l2, l3, l4, l5, l6, l7, l8, l9, l10], [.int i2, .int i1, .int i0], h) Q = (¬ i2 = 0 ∧ Tr sc d 235 (151, [l0, l1, l2, l3, l4, l5, l6, l7, l8, l9, l10], [.int (i1 - i1 / i2 * i2), .int i0], h) Q) := t_ng k_235_150 rfl
theorem k_235_151 : lk 235 151 = some (.iadd, 152, 0, 0, .null) := by decide +kernel
theorem x_235_151 : Tr sc d 235 (151, [l0, l1, l2, l3, l4, l5, l6, l7, l8, l9, l10], [.int i1, .int i0], h) Q = Tr sc d 235 (152, [l0, l1, l2, l3, l4, l5, l6, l7, l8, l9, l10], [.int (i0 + i1)], h) Q := t_go k_235_151 rfl
theorem k_235_152 : lk 235 152 = some (.istore 8, 154, 8, 0, .null) := by decide +kernel
theorem x_235_152 : Tr sc d 235 (152, [l0, l1, l2, l3, l4, l5, l6, l7, l8, l9, l10], [.int i0], h) Q = Tr sc d 235 (154, [l0, l1, l2, l3, l4, l5, l6, cl2 l7, some (.int i0), l9, l10], [], h) Q := t_istore k_235_152 (Nat.le_of_ble_eq_true rfl)
theorem k_235_154 : lk 235 154 = some (.aload_n 0, 155, 0, 0, .null) := by decide +kernel
theorem x_235_154 : Tr sc d 235 (154, [some (.ref xk), l1, l2, l3, l4, l5, l6, l7, l8, l9, l10], [], h) Q = Tr sc d 235 (155, [some (.ref xk), l1, l2, l3, l4, l5, l6, l7, l8, l9, l10], [.ref xk], h) Q := t_aload_n k_235_154 rfl
theorem k_235_155 : lk 235 155 = some (.getfield 38, 158, 10, 17, .null) := by decide +kernel
theorem x_235_155 : Tr sc d 235 (155, [l0, l1, l2, l3, l4, l5, l6, l7, l8, l9, l10], [.ref k0], h) Q = (okp h k0 10 = true ∧ ∃ q, hR h k0 17 = some q ∧ Tr sc d 235 (158, [l0, l1, l2, l3, l4, l5, l6, l7, l8, l9, l10], [.ref q], h) Q) := t_getr k_235_155
theorem k_235_158 : lk 235 158 = some (.iload_n 1, 159, 1, 0, .null) := by decide +kernel
theorem x_235_158 : Tr sc d 235 (158, [l0, some (.int x), l2, l3, l4, l5, l6, l7, l8, l9, l10], [.ref k0], h) Q = Tr sc d 235 (159, [l0, some (.int x), l2, l3, l4, l5, l6, l7, l8, l9, l10], [.int x, .ref k0], h) Q := t_iload_n k_235_158 rfl
theorem k_235_159 : lk 235 159 = some (.iaload, 160, 0, 0, .null) := by decide +kernel
theorem x_235_159 : Tr sc d 235 (159, [l0, l1, l2, l3, l4, l5, l6, l7, l8, l9, l10], [.int i1, .ref k0], h) Q = (iOk sc h k0 i1 ∧ Tr sc d 235 (160, [l0, l1, l2, l3, l4, l5, l6, l7, l8, l9, l10], [.int (iRd sc h k0 i1)], h) Q) := t_iald k_235_159
theorem k_235_160 : lk 235 160 = some (.iload 5, 162, 5, 0, .null) := by decide +kernel
theorem x_235_160 : Tr sc d 235 (160, [l0, l1, l2, l3, l4, some (.int x), l6, l7, l8, l9, l10], [.int i0], h) Q = Tr sc d 235 (162, [l0, l1, l2, l3, l4, some (.int x), l6, l7, l8, l9, l10], [.int x, .int i0], h) Q := t_iload k_235_160 rfl
theorem k_235_162 : lk 235 162 = some (.bipush 37, 164, 0, 0, .int 37) := by decide +kernel
theorem x_235_162 : Tr sc d 235 (162, [l0, l1, l2, l3, l4, l5, l6, l7, l8, l9, l10], [.int i1, .int i0], h) Q = Tr sc d 235 (164, [l0, l1, l2, l3, l4, l5, l6, l7, l8, l9, l10], [.int 37, .int i1, .int i0], h) Q := t_go k_235_162 rfl
theorem k_235_164 : lk 235 164 = some (.irem, 165, 0, 0, .null) := by decide +kernel
theorem x_235_164 : Tr sc d 235 (164, [l0, l1, l2, l3, l4, l5, l6, l7, l8, l9, l10], [.int i2, .int i1, .int i0], h) Q = (¬ i2 = 0 ∧ Tr sc d 235 (165, [l0, l1, l2, l3, l4, l5, l6, l7, l8, l9, l10], [.int (i1 - i1 / i2 * i2), .int i0], h) Q) := t_ng k_235_164 rfl
theorem k_235_165 : lk 235 165 = some (.bipush 18, 167, 0, 0, .int 18) := by decide +kernel
theorem x_235_165 : Tr sc d 235 (165, [l0, l1, l2, l3, l4, l5, l6, l7, l8, l9, l10], [.int i1, .int i0], h) Q = Tr sc d 235 (167, [l0, l1, l2, l3, l4, l5, l6, l7, l8, l9, l10], [.int 18, .int i1, .int i0], h) Q := t_go k_235_165 rfl
theorem k_235_167 : lk 235 167 = some (.isub, 168, 0, 0, .null) := by decide +kernel
theorem x_235_167 : Tr sc d 235 (167, [l0, l1, l2, l3, l4, l5, l6, l7, l8, l9, l10], [.int i2, .int i1, .int i0], h) Q = Tr sc d 235 (168, [l0, l1, l2, l3, l4, l5, l6, l7, l8, l9, l10], [.int (i1 - i2), .int i0], h) Q := t_go k_235_167 rfl
theorem k_235_168 : lk 235 168 = some (.imul, 169, 0, 0, .null) := by decide +kernel
theorem x_235_168 : Tr sc d 235 (168, [l0, l1, l2, l3, l4, l5, l6, l7, l8, l9, l10], [.int i1, .int i0], h) Q = Tr sc d 235 (169, [l0, l1, l2, l3, l4, l5, l6, l7, l8, l9, l10], [.int (i0 * i1)], h) Q := t_go k_235_168 rfl
theorem k_235_169 : lk 235 169 = some (.aload_n 0, 170, 0, 0, .null) := by decide +kernel
theorem x_235_169 : Tr sc d 235 (169, [some (.ref xk), l1, l2, l3, l4, l5, l6, l7, l8, l9, l10], [.int i0], h) Q = Tr sc d 235 (170, [some (.ref xk), l1, l2, l3, l4, l5, l6, l7, l8, l9, l10], [.ref xk, .int i0], h) Q := t_aload_n k_235_169 rfl
theorem k_235_170 : lk 235 170 = some (.getfield 47, 173, 10, 20, .null) := by decide +kernel
theorem x_235_170 : Tr sc d 235 (170, [l0, l1, l2, l3, l4, l5, l6, l7, l8, l9, l10], [.ref k1, .int i0], h) Q = (okp h k1 10 = true ∧ ∃ q, hR h k1 20 = some q ∧ Tr sc d 235 (173, [l0, l1, l2, l3, l4, l5, l6, l7, l8, l9, l10], [.ref q, .int i0], h) Q) := t_getr k_235_170
theorem k_235_173 : lk 235 173 = some (.iload 8, 175, 8, 0, .null) := by decide +kernel
theorem x_235_173 : Tr sc d 235 (173, [l0, l1, l2, l3, l4, l5, l6, l7, some (.int x), l9, l10], [.ref k1, .int i0], h) Q = Tr sc d 235 (175, [l0, l1, l2, l3, l4, l5, l6, l7, some (.int x), l9, l10], [.int x, .ref k1, .int i0], h) Q := t_iload k_235_173 rfl
theorem k_235_175 : lk 235 175 = some (.iaload, 176, 0, 0, .null) := by decide +kernel
theorem x_235_175 : Tr sc d 235 (175, [l0, l1, l2, l3, l4, l5, l6, l7, l8, l9, l10], [.int i2, .ref k1, .int i0], h) Q = (iOk sc h k1 i2 ∧ Tr sc d 235 (176, [l0, l1, l2, l3, l4, l5, l6, l7, l8, l9, l10], [.int (iRd sc h k1 i2), .int i0], h) Q) := t_iald k_235_175
theorem k_235_176 : lk 235 176 = some (.iadd, 177, 0, 0, .null) := by decide +kernel
theorem x_235_176 : Tr sc d 235 (176, [l0, l1, l2, l3, l4, l5, l6, l7, l8, l9, l10], [.int i1, .int i0], h) Q = Tr sc d 235 (177, [l0, l1, l2, l3, l4, l5, l6, l7, l8, l9, l10], [.int (i0 + i1)], h) Q := t_go k_235_176 rfl
theorem k_235_177 : lk 235 177 = some (.aload_n 0, 178, 0, 0, .null) := by decide +kernel
theorem x_235_177 : Tr sc d 235 (177, [some (.ref xk), l1, l2, l3, l4, l5, l6, l7, l8, l9, l10], [.int i0], h) Q = Tr sc d 235 (178, [some (.ref xk), l1, l2, l3, l4, l5, l6, l7, l8, l9, l10], [.ref xk, .int i0], h) Q := t_aload_n k_235_177 rfl
theorem k_235_178 : lk 235 178 = some (.getfield 47, 181, 10, 20, .null) := by decide +kernel
theorem x_235_178 : Tr sc d 235 (178, [l0, l1, l2, l3, l4, l5, l6, l7, l8, l9, l10], [.ref k1, .int i0], h) Q = (okp h k1 10 = true ∧ ∃ q, hR h k1 20 = some q ∧ Tr sc d 235 (181, [l0, l1, l2, l3, l4, l5, l6, l7, l8, l9, l10], [.ref q, .int i0], h) Q) := t_getr k_235_178
theorem k_235_181 : lk 235 181 = some (.iload 7, 183, 7, 0, .null) := by decide +kernel
theorem x_235_181 : Tr sc d 235 (181, [l0, l1, l2, l3, l4, l5, l6, some (.int x), l8, l9, l10], [.ref k1, .int i0], h) Q = Tr sc d 235 (183, [l0, l1, l2, l3, l4, l5, l6, some (.int x), l8, l9, l10], [.int x, .ref k1, .int i0], h) Q := t_iload k_235_181 rfl
theorem k_235_183 : lk 235 183 = some (.iaload, 184, 0, 0, .null) := by decide +kernel
theorem x_235_183 : Tr sc d 235 (183, [l0, l1, l2, l3, l4, l5, l6, l7, l8, l9, l10], [.int i2, .ref k1, .int i0], h) Q = (iOk sc h k1 i2 ∧ Tr sc d 235 (184, [l0, l1, l2, l3, l4, l5, l6, l7, l8, l9, l10], [.int (iRd sc h k1 i2), .int i0], h) Q) := t_iald k_235_183
theorem k_235_184 : lk 235 184 = some (.isub, 185, 0, 0, .null) := by decide +kernel
theorem x_235_184 : Tr sc d 235 (184, [l0, l1, l2, l3, l4, l5, l6, l7, l8, l9, l10], [.int i1, .int i0], h) Q = Tr sc d 235 (185, [l0, l1, l2, l3, l4, l5, l6, l7, l8, l9, l10], [.int (i0 - i1)], h) Q := t_go k_235_184 rfl
theorem k_235_185 : lk 235 185 = some (.istore 9, 187, 9, 0, .null) := by decide +kernel
theorem x_235_185 : Tr sc d 235 (185, [l0, l1, l2, l3, l4, l5, l6, l7, l8, l9, l10], [.int i0], h) Q = Tr sc d 235 (187, [l0, l1, l2, l3, l4, l5, l6, l7, cl2 l8, some (.int i0), l10], [], h) Q := t_istore k_235_185 (Nat.le_of_ble_eq_true rfl)
theorem k_235_187 : lk 235 187 = some (.aload_n 0, 188, 0, 0, .null) := by decide +kernel
theorem x_235_187 : Tr sc d 235 (187, [some (.ref xk), l1, l2, l3, l4, l5, l6, l7, l8, l9, l10], [], h) Q = Tr sc d 235 (188, [some (.ref xk), l1, l2, l3, l4, l5, l6, l7, l8, l9, l10], [.ref xk], h) Q := t_aload_n k_235_187 rfl
theorem k_235_188 : lk 235 188 = some (.getfield 38, 191, 10, 17, .null) := by decide +kernel
theorem x_235_188 : Tr sc d 235 (188, [l0, l1, l2, l3, l4, l5, l6, l7, l8, l9, l10], [.ref k0], h) Q = (okp h k0 10 = true ∧ ∃ q, hR h k0 17 = some q ∧ Tr sc d 235 (191, [l0, l1, l2, l3, l4, l5, l6, l7, l8, l9, l10], [.ref q], h) Q) := t_getr k_235_188
theorem k_235_191 : lk 235 191 = some (.iload_n 1, 192, 1, 0, .null) := by decide +kernel
theorem x_235_191 : Tr sc d 235 (191, [l0, some (.int x), l2, l3, l4, l5, l6, l7, l8, l9, l10], [.ref k0], h) Q = Tr sc d 235 (192, [l0, some (.int x), l2, l3, l4, l5, l6, l7, l8, l9, l10], [.int x, .ref k0], h) Q := t_iload_n k_235_191 rfl
theorem k_235_192 : lk 235 192 = some (.iaload, 193, 0, 0, .null) := by decide +kernel
theorem x_235_192 : Tr sc d 235 (192, [l0, l1, l2, l3, l4, l5, l6, l7, l8, l9, l10], [.int i1, .ref k0], h) Q = (iOk sc h k0 i1 ∧ Tr sc d 235 (193, [l0, l1, l2, l3, l4, l5, l6, l7, l8, l9, l10], [.int (iRd sc h k0 i1)], h) Q) := t_iald k_235_192
theorem k_235_193 : lk 235 193 = some (.iload 5, 195, 5, 0, .null) := by decide +kernel
theorem x_235_193 : Tr sc d 235 (193, [l0, l1, l2, l3, l4, some (.int x), l6, l7, l8, l9, l10], [.int i0], h) Q = Tr sc d 235 (195, [l0, l1, l2, l3, l4, some (.int x), l6, l7, l8, l9, l10], [.int x, .int i0], h) Q := t_iload k_235_193 rfl
theorem k_235_195 : lk 235 195 = some (.bipush 37, 197, 0, 0, .int 37) := by decide +kernel
theorem x_235_195 : Tr sc d 235 (195, [l0, l1, l2, l3, l4, l5, l6, l7, l8, l9, l10], [.int i1, .int i0], h) Q = Tr sc d 235 (197, [l0, l1, l2, l3, l4, l5, l6, l7, l8, l9, l10], [.int 37, .int i1, .int i0], h) Q := t_go k_235_195 rfl
theorem k_235_197 : lk 235 197 = some (.idiv, 198, 0, 0, .null) := by decide +kernel
theorem x_235_197 : Tr sc d 235 (197, [l0, l1, l2, l3, l4, l5, l6, l7, l8, l9, l10], [.int i2, .int i1, .int i0], h) Q = (¬ i2 = 0 ∧ Tr sc d 235 (198, [l0, l1, l2, l3, l4, l5, l6, l7, l8, l9, l10], [.int (i1 / i2), .int i0], h) Q) := t_ng k_235_197 rfl
theorem k_235_198 : lk 235 198 = some (.bipush 18, 200, 0, 0, .int 18) := by decide +kernel
theorem x_235_198 : Tr sc d 235 (198, [l0, l1, l2, l3, l4, l5, l6, l7, l8, l9, l10], [.int i1, .int i0], h) Q = Tr sc d 235 (200, [l0, l1, l2, l3, l4, l5, l6, l7, l8, l9, l10], [.int 18, .int i1, .int i0], h) Q := t_go k_235_198 rfl
theorem k_235_200 : lk 235 200 = some (.isub, 201, 0, 0, .null) := by decide +kernel
theorem x_235_200 : Tr sc d 235 (200, [l0, l1, l2, l3, l4, l5, l6, l7, l8, l9, l10], [.int i2, .int i1, .int i0], h) Q = Tr sc d 235 (201, [l0, l1, l2, l3, l4, l5, l6, l7, l8, l9, l10], [.int (i1 - i2), .int i0], h) Q := t_go k_235_200 rfl
theorem k_235_201 : lk 235 201 = some (.imul, 202, 0, 0, .null) := by decide +kernel
theorem x_235_201 : Tr sc d 235 (201, [l0, l1, l2, l3, l4, l5, l6, l7, l8, l9, l10], [.int i1, .int i0], h) Q = Tr sc d 235 (202, [l0, l1, l2, l3, l4, l5, l6, l7, l8, l9, l10], [.int (i0 * i1)], h) Q := t_go k_235_201 rfl
theorem k_235_202 : lk 235 202 = some (.aload_n 0, 203, 0, 0, .null) := by decide +kernel
theorem x_235_202 : Tr sc d 235 (202, [some (.ref xk), l1, l2, l3, l4, l5, l6, l7, l8, l9, l10], [.int i0], h) Q = Tr sc d 235 (203, [some (.ref xk), l1, l2, l3, l4, l5, l6, l7, l8, l9, l10], [.ref xk, .int i0], h) Q := t_aload_n k_235_202 rfl
theorem k_235_203 : lk 235 203 = some (.getfield 50, 206, 10, 21, .null) := by decide +kernel
theorem x_235_203 : Tr sc d 235 (203, [l0, l1, l2, l3, l4, l5, l6, l7, l8, l9, l10], [.ref k1, .int i0], h) Q = (okp h k1 10 = true ∧ ∃ q, hR h k1 21 = some q ∧ Tr sc d 235 (206, [l0, l1, l2, l3, l4, l5, l6, l7, l8, l9, l10], [.ref q, .int i0], h) Q) := t_getr k_235_203
theorem k_235_206 : lk 235 206 = some (.iload 8, 208, 8, 0, .null) := by decide +kernel
theorem x_235_206 : Tr sc d 235 (206, [l0, l1, l2, l3, l4, l5, l6, l7, some (.int x), l9, l10], [.ref k1, .int i0], h) Q = Tr sc d 235 (208, [l0, l1, l2, l3, l4, l5, l6, l7, some (.int x), l9, l10], [.int x, .ref k1, .int i0], h) Q := t_iload k_235_206 rfl
theorem k_235_208 : lk 235 208 = some (.iaload, 209, 0, 0, .null) := by decide +kernel
theorem x_235_208 : Tr sc d 235 (208, [l0, l1, l2, l3, l4, l5, l6, l7, l8, l9, l10], [.int i2, .ref k1, .int i0], h) Q = (iOk sc h k1 i2 ∧ Tr sc d 235 (209, [l0, l1, l2, l3, l4, l5, l6, l7, l8, l9, l10], [.int (iRd sc h k1 i2), .int i0], h) Q) := t_iald k_235_208
theorem k_235_209 : lk 235 209 = some (.iadd, 210, 0, 0, .null) := by decide +kernel
theorem x_235_209 : Tr sc d 235 (209, [l0, l1, l2, l3, l4, l5, l6, l7, l8, l9, l10], [.int i1, .int i0], h) Q = Tr sc d 235 (210, [l0, l1, l2, l3, l4, l5, l6, l7, l8, l9, l10], [.int (i0 + i1)], h) Q := t_go k_235_209 rfl
theorem k_235_210 : lk 235 210 = some (.aload_n 0, 211, 0, 0, .null) := by decide +kernel
theorem x_235_210 : Tr sc d 235 (210, [some (.ref xk), l1, l2, l3, l4, l5, l6, l7, l8, l9, l10], [.int i0], h) Q = Tr sc d 235 (211, [some (.ref xk), l1, l2, l3, l4, l5, l6, l7, l8, l9, l10], [.ref xk, .int i0], h) Q := t_aload_n k_235_210 rfl
theorem k_235_211 : lk 235 211 = some (.getfield 50, 214, 10, 21, .null) := by decide +kernel
theorem x_235_211 : Tr sc d 235 (211, [l0, l1, l2, l3, l4, l5, l6, l7, l8, l9, l10], [.ref k1, .int i0], h) Q = (okp h k1 10 = true ∧ ∃ q, hR h k1 21 = some q ∧ Tr sc d 235 (214, [l0, l1, l2, l3, l4, l5, l6, l7, l8, l9, l10], [.ref q, .int i0], h) Q) := t_getr k_235_211
theorem k_235_214 : lk 235 214 = some (.iload 7, 216, 7, 0, .null) := by decide +kernel
theorem x_235_214 : Tr sc d 235 (214, [l0, l1, l2, l3, l4, l5, l6, some (.int x), l8, l9, l10], [.ref k1, .int i0], h) Q = Tr sc d 235 (216, [l0, l1, l2, l3, l4, l5, l6, some (.int x), l8, l9, l10], [.int x, .ref k1, .int i0], h) Q := t_iload k_235_214 rfl
theorem k_235_216 : lk 235 216 = some (.iaload, 217, 0, 0, .null) := by decide +kernel
theorem x_235_216 : Tr sc d 235 (216, [l0, l1, l2, l3, l4, l5, l6, l7, l8, l9, l10], [.int i2, .ref k1, .int i0], h) Q = (iOk sc h k1 i2 ∧ Tr sc d 235 (217, [l0, l1, l2, l3, l4, l5, l6, l7, l8, l9, l10], [.int (iRd sc h k1 i2), .int i0], h) Q) := t_iald k_235_216
theorem k_235_217 : lk 235 217 = some (.isub, 218, 0, 0, .null) := by decide +kernel
theorem x_235_217 : Tr sc d 235 (217, [l0, l1, l2, l3, l4, l5, l6, l7, l8, l9, l10], [.int i1, .int i0], h) Q = Tr sc d 235 (218, [l0, l1, l2, l3, l4, l5, l6, l7, l8, l9, l10], [.int (i0 - i1)], h) Q := t_go k_235_217 rfl
theorem k_235_218 : lk 235 218 = some (.istore 10, 220, 10, 0, .null) := by decide +kernel
theorem x_235_218 : Tr sc d 235 (218, [l0, l1, l2, l3, l4, l5, l6, l7, l8, l9, l10], [.int i0], h) Q = Tr sc d 235 (220, [l0, l1, l2, l3, l4, l5, l6, l7, l8, cl2 l9, some (.int i0)], [], h) Q := t_istore k_235_218 (Nat.le_of_ble_eq_true rfl)
theorem k_235_220 : lk 235 220 = some (.aload_n 0, 221, 0, 0, .null) := by decide +kernel
theorem x_235_220 : Tr sc d 235 (220, [some (.ref xk), l1, l2, l3, l4, l5, l6, l7, l8, l9, l10], [], h) Q = Tr sc d 235 (221, [some (.ref xk), l1, l2, l3, l4, l5, l6, l7, l8, l9, l10], [.ref xk], h) Q := t_aload_n k_235_220 rfl
theorem k_235_221 : lk 235 221 = some (.getfield 119, 224, 10, 57, .null) := by decide +kernel
theorem x_235_221 : Tr sc d 235 (221, [l0, l1, l2, l3, l4, l5, l6, l7, l8, l9, l10], [.ref k0], h) Q = (okp h k0 10 = true ∧ ∃ q, hR h k0 57 = some q ∧ Tr sc d 235 (224, [l0, l1, l2, l3, l4, l5, l6, l7, l8, l9, l10], [.ref q], h) Q) := t_getr k_235_221
theorem k_235_224 : lk 235 224 = some (.iload 5, 226, 5, 0, .null) := by decide +kernel
theorem x_235_224 : Tr sc d 235 (224, [l0, l1, l2, l3, l4, some (.int x), l6, l7, l8, l9, l10], [.ref k0], h) Q = Tr sc d 235 (226, [l0, l1, l2, l3, l4, some (.int x), l6, l7, l8, l9, l10], [.int x, .ref k0], h) Q := t_iload k_235_224 rfl
theorem k_235_226 : lk 235 226 = some (.dup2, 227, 0, 0, .null) := by decide +kernel
theorem x_235_226 : Tr sc d 235 (226, [l0, l1, l2, l3, l4, l5, l6, l7, l8, l9, l10], [.int i1, .ref k0], h) Q = Tr sc d 235 (227, [l0, l1, l2, l3, l4, l5, l6, l7, l8, l9, l10], [.int i1, .ref k0, .int i1, .ref k0], h) Q := t_go k_235_226 rfl
theorem k_235_227 : lk 235 227 = some (.laload, 228, 0, 0, .null) := by decide +kernel
theorem x_235_227 : Tr sc d 235 (227, [l0, l1, l2, l3, l4, l5, l6, l7, l8, l9, l10], [.int i3, .ref k2, .int i1, .ref k0], h) Q = ((okp h k2 12 && inb i3 (LN k2)) = true ∧ Tr sc d 235 (228, [l0, l1, l2, l3, l4, l5, l6, l7, l8, l9, l10], [.long (hL h k2 i3.toNatClampNeg), .int i1, .ref k0], h) Q) := t_gd k_235_227 rfl
theorem k_235_228 : lk 235 228 = some (.aload_n 0, 229, 0, 0, .null) := by decide +kernel
theorem x_235_228 : Tr sc d 235 (228, [some (.ref xk), l1, l2, l3, l4, l5, l6, l7, l8, l9, l10], [.long j2, .int i1, .ref k0], h) Q = Tr sc d 235 (229, [some (.ref xk), l1, l2, l3, l4, l5, l6, l7, l8, l9, l10], [.ref xk, .long j2, .int i1, .ref k0], h) Q := t_aload_n k_235_228 rfl
theorem k_235_229 : lk 235 229 = some (.iload 9, 231, 9, 0, .null) := by decide +kernel
theorem x_235_229 : Tr sc d 235 (229, [l0, l1, l2, l3, l4, l5, l6, l7, l8, some (.int x), l10], [.ref k3, .long j2, .int i1, .ref k0], h) Q = Tr sc d 235 (231, [l0, l1, l2, l3, l4, l5, l6, l7, l8, some (.int x), l10], [.int x, .ref k3, .long j2, .int i1, .ref k0], h) Q := t_iload k_235_229 rfl
theorem k_235_231 : lk 235 231 = some (.iload 10, 233, 10, 0, .null) := by decide +kernel
theorem x_235_231 : Tr sc d 235 (231, [l0, l1, l2, l3, l4, l5, l6, l7, l8, l9, some (.int x)], [.int i4, .ref k3, .long j2, .int i1, .ref k0], h) Q = Tr sc d 235 (233, [l0, l1, l2, l3, l4, l5, l6, l7, l8, l9, some (.int x)], [.int x, .int i4, .ref k3, .long j2, .int i1, .ref k0], h) Q := t_iload k_235_231 rfl
theorem k_235_233 : lk 235 233 = some (.invokevirtual 313, 236, 213, 2, .null) := by decide +kernel
theorem x_235_233 : Tr sc (d + 1) 235 (233, [l0, l1, l2, l3, l4, l5, l6, l7, l8, l9, l10], [.int i5, .int i4, .ref k3, .long j2, .int i1, .ref k0], h) Q = (okp h k3 10 = true ∧ Tr sc d 213 (ent0 213 [.ref k3, .int i4, .int i5] h) (fun z => Tr sc (d + 1) 235 (236, [l0, l1, l2, l3, l4, l5, l6, l7, l8, l9, l10], z.1.toList ++ [.long j2, .int i1, .ref k0], z.2) Q)) := t_cv (as := [.int i4, .int i5]) (r := [.long j2, .int i1, .ref k0]) k_235_233 rfl rfl (Nat.le_of_ble_eq_true rfl) (Nat.le_of_ble_eq_true rfl) (Nat.le_of_ble_eq_true rfl)
theorem k_235_236 : lk 235 236 = some (.ifCond .eq 18, 239, 254, 0, .null) := by decide +kernel
theorem x_235_236 : Tr sc d 235 (236, [l0, l1, l2, l3, l4, l5, l6, l7, l8, l9, l10], [.int i3, .long j2, .int i1, .ref k0], h) Q = if i3 = 0 then Tr sc d 235 (254, [l0, l1, l2, l3, l4, l5, l6, l7, l8, l9, l10], [.long j2, .int i1, .ref k0], h) Q else Tr sc d 235 (239, [l0, l1, l2, l3, l4, l5, l6, l7, l8, l9, l10], [.long j2, .int i1, .ref k0], h) Q := t_if k_235_236 rfl
theorem k_235_239 : lk 235 239 = some (.aload_n 0, 240, 0, 0, .null) := by decide +kernel
theorem x_235_239 : Tr sc d 235 (239, [some (.ref xk), l1, l2, l3, l4, l5, l6, l7, l8, l9, l10], [.long j2, .int i1, .ref k0], h) Q = Tr sc d 235 (240, [some (.ref xk), l1, l2, l3, l4, l5, l6, l7, l8, l9, l10], [.ref xk, .long j2, .int i1, .ref k0], h) Q := t_aload_n k_235_239 rfl
theorem k_235_240 : lk 235 240 = some (.getfield 116, 243, 10, 56, .null) := by decide +kernel
theorem x_235_240 : Tr sc d 235 (240, [l0, l1, l2, l3, l4, l5, l6, l7, l8, l9, l10], [.ref k3, .long j2, .int i1, .ref k0], h) Q = (okp h k3 10 = true ∧ ∃ q, hR h k3 56 = some q ∧ Tr sc d 235 (243, [l0, l1, l2, l3, l4, l5, l6, l7, l8, l9, l10], [.ref q, .long j2, .int i1, .ref k0], h) Q) := t_getr k_235_240
theorem k_235_243 : lk 235 243 = some (.iload 9, 245, 9, 0, .null) := by decide +kernel
theorem x_235_243 : Tr sc d 235 (243, [l0, l1, l2, l3, l4, l5, l6, l7, l8, some (.int x), l10], [.ref k3, .long j2, .int i1, .ref k0], h) Q = Tr sc d 235 (245, [l0, l1, l2, l3, l4, l5, l6, l7, l8, some (.int x), l10], [.int x, .ref k3, .long j2, .int i1, .ref k0], h) Q := t_iload k_235_243 rfl
theorem k_235_245 : lk 235 245 = some (.iload 10, 247, 10, 0, .null) := by decide +kernel
theorem x_235_245 : Tr sc d 235 (245, [l0, l1, l2, l3, l4, l5, l6, l7, l8, l9, some (.int x)], [.int i4, .ref k3, .long j2, .int i1, .ref k0], h) Q = Tr sc d 235 (247, [l0, l1, l2, l3, l4, l5, l6, l7, l8, l9, some (.int x)], [.int x, .int i4, .ref k3, .long j2, .int i1, .ref k0], h) Q := t_iload k_235_245 rfl
theorem k_235_247 : lk 235 247 = some (.invokestatic 310, 250, 212, 2, .null) := by decide +kernel
theorem x_235_247 : Tr sc (d + 1) 235 (247, [l0, l1, l2, l3, l4, l5, l6, l7, l8, l9, l10], [.int i5, .int i4, .ref k3, .long j2, .int i1, .ref k0], h) Q = Tr sc d 212 (ent0 212 [.int i4, .int i5] h) (fun z => Tr sc (d + 1) 235 (250, [l0, l1, l2, l3, l4, l5, l6, l7, l8, l9, l10], z.1.toList ++ [.ref k3, .long j2, .int i1, .ref k0], z.2) Q) := t_cs (as := [.int i4, .int i5]) (r := [.ref k3, .long j2, .int i1, .ref k0]) k_235_247 (by decide) rfl rfl (Nat.le_of_ble_eq_true rfl) (Nat.le_of_ble_eq_true rfl)
theorem k_235_250 : lk 235 250 = some (.laload, 251, 0, 0, .null) := by decide +kernel
theorem x_235_250 : Tr sc d 235 (250, [l0, l1, l2, l3, l4, l5, l6, l7, l8, l9, l10], [.int i4, .ref k3, .long j2, .int i1, .ref k0], h) Q = ((okp h k3 12 && inb i4 (LN k3)) = true ∧ Tr sc d 235 (251, [l0, l1, l2, l3, l4, l5, l6, l7, l8, l9, l10], [.long (hL h k3 i4.toNatClampNeg), .long j2, .int i1, .ref k0], h) Q) := t_gd k_235_250 rfl
theorem k_235_251 : lk 235 251 = some (.goto 4, 254, 255, 0, .null) := by decide +kernel
theorem x_235_251 : Tr sc d 235 (251, [l0, l1, l2, l3, l4, l5, l6, l7, l8, l9, l10], [.long j3, .long j2, .int i1, .ref k0], h) Q = Tr sc d 235 (255, [l0, l1, l2, l3, l4, l5, l6, l7, l8, l9, l10], [.long j3, .long j2, .int i1, .ref k0], h) Q := t_go k_235_251 rfl
theorem k_235_254 : lk 235 254 = some (.lconst 0, 255, 0, 0, .long 0) := by decide +kernel
theorem x_235_254 : Tr sc d 235 (254, [l0, l1, l2, l3, l4, l5, l6, l7, l8, l9, l10], [.long j2, .int i1, .ref k0], h) Q = Tr sc d 235 (255, [l0, l1, l2, l3, l4, l5, l6, l7, l8, l9, l10], [.long 0, .long j2, .int i1, .ref k0], h) Q := t_go k_235_254 rfl
theorem k_235_255 : lk 235 255 = some (.ladd, 256, 0, 0, .null) := by decide +kernel
theorem x_235_255 : Tr sc d 235 (255, [l0, l1, l2, l3, l4, l5, l6, l7, l8, l9, l10], [.long j3, .long j2, .int i1, .ref k0], h) Q = Tr sc d 235 (256, [l0, l1, l2, l3, l4, l5, l6, l7, l8, l9, l10], [.long (j2 + j3), .int i1, .ref k0], h) Q := t_go k_235_255 rfl
theorem k_235_256 : lk 235 256 = some (.lastore, 257, 0, 0, .null) := by decide +kernel
theorem x_235_256 : Tr sc d 235 (256, [l0, l1, l2, l3, l4, l5, l6, l7, l8, l9, l10], [.long j2, .int i1, .ref k0], h) Q = ((okp h k0 12 && inb i1 (LN k0)) = true ∧ Tr sc d 235 (257, [l0, l1, l2, l3, l4, l5, l6, l7, l8, l9, l10], [], (sL h k0 i1.toNatClampNeg j2)) Q) := t_gd k_235_256 rfl
theorem k_235_257 : lk 235 257 = some (.iinc 6 1, 260, 6, 0, .int 1) := by decide +kernel
theorem x_235_257 : Tr sc d 235 (257, [l0, l1, l2, l3, l4, l5, some (.int x), l7, l8, l9, l10], [], h) Q = Tr sc d 235 (260, [l0, l1, l2, l3, l4, cl2 l5, some (.int (x + 1)), l7, l8, l9, l10], [], h) Q := t_inc k_235_257 rfl (Nat.le_of_ble_eq_true rfl)
theorem k_235_260 : lk 235 260 = some (.goto (-166), 263, 94, 0, .null) := by decide +kernel
theorem x_235_260 : Tr sc d 235 (260, [l0, l1, l2, l3, l4, l5, l6, l7, l8, l9, l10], [], h) Q = Tr sc d 235 (94, [l0, l1, l2, l3, l4, l5, l6, l7, l8, l9, l10], [], h) Q := t_go k_235_260 rfl
theorem k_235_263 : lk 235 263 = some (.iinc 5 1, 266, 5, 0, .int 1) := by decide +kernel
theorem x_235_263 : Tr sc d 235 (263, [l0, l1, l2, l3, l4, some (.int x), l6, l7, l8, l9, l10], [], h) Q = Tr sc d 235 (266, [l0, l1, l2, l3, cl2 l4, some (.int (x + 1)), l6, l7, l8, l9, l10], [], h) Q := t_inc k_235_263 rfl (Nat.le_of_ble_eq_true rfl)
theorem k_235_266 : lk 235 266 = some (.goto (-191), 269, 75, 0, .null) := by decide +kernel
theorem x_235_266 : Tr sc d 235 (266, [l0, l1, l2, l3, l4, l5, l6, l7, l8, l9, l10], [], h) Q = Tr sc d 235 (75, [l0, l1, l2, l3, l4, l5, l6, l7, l8, l9, l10], [], h) Q := t_go k_235_266 rfl
theorem k_235_269 : lk 235 269 = some (.iconst 0, 270, 0, 0, .int 0) := by decide +kernel
theorem x_235_269 : Tr sc d 235 (269, [l0, l1, l2, l3, l4, l5, l6, l7, l8, l9, l10], [], h) Q = Tr sc d 235 (270, [l0, l1, l2, l3, l4, l5, l6, l7, l8, l9, l10], [.int 0], h) Q := t_go k_235_269 rfl
theorem k_235_270 : lk 235 270 = some (.istore 5, 272, 5, 0, .null) := by decide +kernel
theorem x_235_270 : Tr sc d 235 (270, [l0, l1, l2, l3, l4, l5, l6, l7, l8, l9, l10], [.int i0], h) Q = Tr sc d 235 (272, [l0, l1, l2, l3, cl2 l4, some (.int i0), l6, l7, l8, l9, l10], [], h) Q := t_istore k_235_270 (Nat.le_of_ble_eq_true rfl)
theorem k_235_272 : lk 235 272 = some (.iload 5, 274, 5, 0, .null) := by decide +kernel
theorem x_235_272 : Tr sc d 235 (272, [l0, l1, l2, l3, l4, some (.int x), l6, l7, l8, l9, l10], [], h) Q = Tr sc d 235 (274, [l0, l1, l2, l3, l4, some (.int x), l6, l7, l8, l9, l10], [.int x], h) Q := t_iload k_235_272 rfl
theorem k_235_274 : lk 235 274 = some (.sipush 1369, 277, 0, 0, .int 1369) := by decide +kernel
theorem x_235_274 : Tr sc d 235 (274, [l0, l1, l2, l3, l4, l5, l6, l7, l8, l9, l10], [.int i0], h) Q = Tr sc d 235 (277, [l0, l1, l2, l3, l4, l5, l6, l7, l8, l9, l10], [.int 1369, .int i0], h) Q := t_go k_235_274 rfl
theorem k_235_277 : lk 235 277 = some (.if_icmp .ge 23, 280, 300, 0, .null) := by decide +kernel
theorem x_235_277 : Tr sc d 235 (277, [l0, l1, l2, l3, l4, l5, l6, l7, l8, l9, l10], [.int i1, .int i0], h) Q = if i1 ≤ i0 then Tr sc d 235 (300, [l0, l1, l2, l3, l4, l5, l6, l7, l8, l9, l10], [], h) Q else Tr sc d 235 (280, [l0, l1, l2, l3, l4, l5, l6, l7, l8, l9, l10], [], h) Q := t_if k_235_277 rfl
theorem k_235_280 : lk 235 280 = some (.aload_n 0, 281, 0, 0, .null) := by decide +kernel
theorem x_235_280 : Tr sc d 235 (280, [some (.ref xk), l1, l2, l3, l4, l5, l6, l7, l8, l9, l10], [], h) Q = Tr sc d 235 (281, [some (.ref xk), l1, l2, l3, l4, l5, l6, l7, l8, l9, l10], [.ref xk], h) Q := t_aload_n k_235_280 rfl
theorem k_235_281 : lk 235 281 = some (.getfield 116, 284, 10, 56, .null) := by decide +kernel
theorem x_235_281 : Tr sc d 235 (281, [l0, l1, l2, l3, l4, l5, l6, l7, l8, l9, l10], [.ref k0], h) Q = (okp h k0 10 = true ∧ ∃ q, hR h k0 56 = some q ∧ Tr sc d 235 (284, [l0, l1, l2, l3, l4, l5, l6, l7, l8, l9, l10], [.ref q], h) Q) := t_getr k_235_281
theorem k_235_284 : lk 235 284 = some (.iload 5, 286, 5, 0, .null) := by decide +kernel
theorem x_235_284 : Tr sc d 235 (284, [l0, l1, l2, l3, l4, some (.int x), l6, l7, l8, l9, l10], [.ref k0], h) Q = Tr sc d 235 (286, [l0, l1, l2, l3, l4, some (.int x), l6, l7, l8, l9, l10], [.int x, .ref k0], h) Q := t_iload k_235_284 rfl
theorem k_235_286 : lk 235 286 = some (.aload_n 0, 287, 0, 0, .null) := by decide +kernel
theorem x_235_286 : Tr sc d 235 (286, [some (.ref xk), l1, l2, l3, l4, l5, l6, l7, l8, l9, l10], [.int i1, .ref k0], h) Q = Tr sc d 235 (287, [some (.ref xk), l1, l2, l3, l4, l5, l6, l7, l8, l9, l10], [.ref xk, .int i1, .ref k0], h) Q := t_aload_n k_235_286 rfl
theorem k_235_287 : lk 235 287 = some (.getfield 119, 290, 10, 57, .null) := by decide +kernel
theorem x_235_287 : Tr sc d 235 (287, [l0, l1, l2, l3, l4, l5, l6, l7, l8, l9, l10], [.ref k2, .int i1, .ref k0], h) Q = (okp h k2 10 = true ∧ ∃ q, hR h k2 57 = some q ∧ Tr sc d 235 (290, [l0, l1, l2, l3, l4, l5, l6, l7, l8, l9, l10], [.ref q, .int i1, .ref k0], h) Q) := t_getr k_235_287
theorem k_235_290 : lk 235 290 = some (.iload 5, 292, 5, 0, .null) := by decide +kernel
theorem x_235_290 : Tr sc d 235 (290, [l0, l1, l2, l3, l4, some (.int x), l6, l7, l8, l9, l10], [.ref k2, .int i1, .ref k0], h) Q = Tr sc d 235 (292, [l0, l1, l2, l3, l4, some (.int x), l6, l7, l8, l9, l10], [.int x, .ref k2, .int i1, .ref k0], h) Q := t_iload k_235_290 rfl
theorem k_235_292 : lk 235 292 = some (.laload, 293, 0, 0, .null) := by decide +kernel
theorem x_235_292 : Tr sc d 235 (292, [l0, l1, l2, l3, l4, l5, l6, l7, l8, l9, l10], [.int i3, .ref k2, .int i1, .ref k0], h) Q = ((okp h k2 12 && inb i3 (LN k2)) = true ∧ Tr sc d 235 (293, [l0, l1, l2, l3, l4, l5, l6, l7, l8, l9, l10], [.long (hL h k2 i3.toNatClampNeg), .int i1, .ref k0], h) Q) := t_gd k_235_292 rfl
theorem k_235_293 : lk 235 293 = some (.lastore, 294, 0, 0, .null) := by decide +kernel
theorem x_235_293 : Tr sc d 235 (293, [l0, l1, l2, l3, l4, l5, l6, l7, l8, l9, l10], [.long j2, .int i1, .ref k0], h) Q = ((okp h k0 12 && inb i1 (LN k0)) = true ∧ Tr sc d 235 (294, [l0, l1, l2, l3, l4, l5, l6, l7, l8, l9, l10], [], (sL h k0 i1.toNatClampNeg j2)) Q) := t_gd k_235_293 rfl
theorem k_235_294 : lk 235 294 = some (.iinc 5 1, 297, 5, 0, .int 1) := by decide +kernel
theorem x_235_294 : Tr sc d 235 (294, [l0, l1, l2, l3, l4, some (.int x), l6, l7, l8, l9, l10], [], h) Q = Tr sc d 235 (297, [l0, l1, l2, l3, cl2 l4, some (.int (x + 1)), l6, l7, l8, l9, l10], [], h) Q := t_inc k_235_294 rfl (Nat.le_of_ble_eq_true rfl)
theorem k_235_297 : lk 235 297 = some (.goto (-25), 300, 272, 0, .null) := by decide +kernel
theorem x_235_297 : Tr sc d 235 (297, [l0, l1, l2, l3, l4, l5, l6, l7, l8, l9, l10], [], h) Q = Tr sc d 235 (272, [l0, l1, l2, l3, l4, l5, l6, l7, l8, l9, l10], [], h) Q := t_go k_235_297 rfl
theorem k_235_300 : lk 235 300 = some (.iinc 4 1, 303, 4, 0, .int 1) := by decide +kernel
theorem x_235_300 : Tr sc d 235 (300, [l0, l1, l2, l3, some (.int x), l5, l6, l7, l8, l9, l10], [], h) Q = Tr sc d 235 (303, [l0, l1, l2, cl2 l3, some (.int (x + 1)), l5, l6, l7, l8, l9, l10], [], h) Q := t_inc k_235_300 rfl (Nat.le_of_ble_eq_true rfl)
theorem k_235_303 : lk 235 303 = some (.goto (-237), 306, 66, 0, .null) := by decide +kernel
theorem x_235_303 : Tr sc d 235 (303, [l0, l1, l2, l3, l4, l5, l6, l7, l8, l9, l10], [], h) Q = Tr sc d 235 (66, [l0, l1, l2, l3, l4, l5, l6, l7, l8, l9, l10], [], h) Q := t_go k_235_303 rfl
theorem k_235_306 : lk 235 306 = some (.aload_n 0, 307, 0, 0, .null) := by decide +kernel
theorem x_235_306 : Tr sc d 235 (306, [some (.ref xk), l1, l2, l3, l4, l5, l6, l7, l8, l9, l10], [], h) Q = Tr sc d 235 (307, [some (.ref xk), l1, l2, l3, l4, l5, l6, l7, l8, l9, l10], [.ref xk], h) Q := t_aload_n k_235_306 rfl
theorem k_235_307 : lk 235 307 = some (.lconst 0, 308, 0, 0, .long 0) := by decide +kernel
theorem x_235_307 : Tr sc d 235 (307, [l0, l1, l2, l3, l4, l5, l6, l7, l8, l9, l10], [.ref k0], h) Q = Tr sc d 235 (308, [l0, l1, l2, l3, l4, l5, l6, l7, l8, l9, l10], [.long 0, .ref k0], h) Q := t_go k_235_307 rfl
theorem k_235_308 : lk 235 308 = some (.putfield 267, 311, 10, 3, .long 0) := by decide +kernel
theorem x_235_308 : Tr sc d 235 (308, [l0, l1, l2, l3, l4, l5, l6, l7, l8, l9, l10], [.long j1, .ref k0], h) Q = (okp h k0 10 = true ∧ Tr sc d 235 (311, [l0, l1, l2, l3, l4, l5, l6, l7, l8, l9, l10], [], (sL h k0 3 j1)) Q) := t_gd k_235_308 rfl
theorem k_235_311 : lk 235 311 = some (.iconst 0, 312, 0, 0, .int 0) := by decide +kernel
theorem x_235_311 : Tr sc d 235 (311, [l0, l1, l2, l3, l4, l5, l6, l7, l8, l9, l10], [], h) Q = Tr sc d 235 (312, [l0, l1, l2, l3, l4, l5, l6, l7, l8, l9, l10], [.int 0], h) Q := t_go k_235_311 rfl
theorem k_235_312 : lk 235 312 = some (.istore 4, 314, 4, 0, .null) := by decide +kernel
theorem x_235_312 : Tr sc d 235 (312, [l0, l1, l2, l3, l4, l5, l6, l7, l8, l9, l10], [.int i0], h) Q = Tr sc d 235 (314, [l0, l1, l2, cl2 l3, some (.int i0), l5, l6, l7, l8, l9, l10], [], h) Q := t_istore k_235_312 (Nat.le_of_ble_eq_true rfl)
theorem k_235_314 : lk 235 314 = some (.iload 4, 316, 4, 0, .null) := by decide +kernel
theorem x_235_314 : Tr sc d 235 (314, [l0, l1, l2, l3, some (.int x), l5, l6, l7, l8, l9, l10], [], h) Q = Tr sc d 235 (316, [l0, l1, l2, l3, some (.int x), l5, l6, l7, l8, l9, l10], [.int x], h) Q := t_iload k_235_314 rfl
theorem k_235_316 : lk 235 316 = some (.sipush 1369, 319, 0, 0, .int 1369) := by decide +kernel
theorem x_235_316 : Tr sc d 235 (316, [l0, l1, l2, l3, l4, l5, l6, l7, l8, l9, l10], [.int i0], h) Q = Tr sc d 235 (319, [l0, l1, l2, l3, l4, l5, l6, l7, l8, l9, l10], [.int 1369, .int i0], h) Q := t_go k_235_316 rfl
theorem k_235_319 : lk 235 319 = some (.if_icmp .ge 39, 322, 358, 0, .null) := by decide +kernel
theorem x_235_319 : Tr sc d 235 (319, [l0, l1, l2, l3, l4, l5, l6, l7, l8, l9, l10], [.int i1, .int i0], h) Q = if i1 ≤ i0 then Tr sc d 235 (358, [l0, l1, l2, l3, l4, l5, l6, l7, l8, l9, l10], [], h) Q else Tr sc d 235 (322, [l0, l1, l2, l3, l4, l5, l6, l7, l8, l9, l10], [], h) Q := t_if k_235_319 rfl
theorem k_235_322 : lk 235 322 = some (.aload_n 0, 323, 0, 0, .null) := by decide +kernel
theorem x_235_322 : Tr sc d 235 (322, [some (.ref xk), l1, l2, l3, l4, l5, l6, l7, l8, l9, l10], [], h) Q = Tr sc d 235 (323, [some (.ref xk), l1, l2, l3, l4, l5, l6, l7, l8, l9, l10], [.ref xk], h) Q := t_aload_n k_235_322 rfl
theorem k_235_323 : lk 235 323 = some (.dup, 324, 0, 0, .null) := by decide +kernel
theorem x_235_323 : Tr sc d 235 (323, [l0, l1, l2, l3, l4, l5, l6, l7, l8, l9, l10], [.ref k0], h) Q = Tr sc d 235 (324, [l0, l1, l2, l3, l4, l5, l6, l7, l8, l9, l10], [.ref k0, .ref k0], h) Q := t_go k_235_323 rfl
theorem k_235_324 : lk 235 324 = some (.getfield 267, 327, 10, 3, .long 0) := by decide +kernel
theorem x_235_324 : Tr sc d 235 (324, [l0, l1, l2, l3, l4, l5, l6, l7, l8, l9, l10], [.ref k1, .ref k0], h) Q = (okp h k1 10 = true ∧ Tr sc d 235 (327, [l0, l1, l2, l3, l4, l5, l6, l7, l8, l9, l10], [.long (hL h k1 3), .ref k0], h) Q) := t_gd k_235_324 rfl
theorem k_235_327 : lk 235 327 = some (.iload 4, 329, 4, 0, .null) := by decide +kernel
theorem x_235_327 : Tr sc d 235 (327, [l0, l1, l2, l3, some (.int x), l5, l6, l7, l8, l9, l10], [.long j1, .ref k0], h) Q = Tr sc d 235 (329, [l0, l1, l2, l3, some (.int x), l5, l6, l7, l8, l9, l10], [.int x, .long j1, .ref k0], h) Q := t_iload k_235_327 rfl
theorem k_235_329 : lk 235 329 = some (.iconst 0, 330, 0, 0, .int 0) := by decide +kernel
theorem x_235_329 : Tr sc d 235 (329, [l0, l1, l2, l3, l4, l5, l6, l7, l8, l9, l10], [.int i2, .long j1, .ref k0], h) Q = Tr sc d 235 (330, [l0, l1, l2, l3, l4, l5, l6, l7, l8, l9, l10], [.int 0, .int i2, .long j1, .ref k0], h) Q := t_go k_235_329 rfl
theorem k_235_330 : lk 235 330 = some (.iconst 0, 331, 0, 0, .int 0) := by decide +kernel
theorem x_235_330 : Tr sc d 235 (330, [l0, l1, l2, l3, l4, l5, l6, l7, l8, l9, l10], [.int i3, .int i2, .long j1, .ref k0], h) Q = Tr sc d 235 (331, [l0, l1, l2, l3, l4, l5, l6, l7, l8, l9, l10], [.int 0, .int i3, .int i2, .long j1, .ref k0], h) Q := t_go k_235_330 rfl
theorem k_235_331 : lk 235 331 = some (.invokestatic 310, 334, 212, 2, .null) := by decide +kernel
theorem x_235_331 : Tr sc (d + 1) 235 (331, [l0, l1, l2, l3, l4, l5, l6, l7, l8, l9, l10], [.int i4, .int i3, .int i2, .long j1, .ref k0], h) Q = Tr sc d 212 (ent0 212 [.int i3, .int i4] h) (fun z => Tr sc (d + 1) 235 (334, [l0, l1, l2, l3, l4, l5, l6, l7, l8, l9, l10], z.1.toList ++ [.int i2, .long j1, .ref k0], z.2) Q) := t_cs (as := [.int i3, .int i4]) (r := [.int i2, .long j1, .ref k0]) k_235_331 (by decide) rfl rfl (Nat.le_of_ble_eq_true rfl) (Nat.le_of_ble_eq_true rfl)
theorem k_235_334 : lk 235 334 = some (.if_icmp .ne 7, 337, 341, 0, .null) := by decide +kernel
theorem x_235_334 : Tr sc d 235 (334, [l0, l1, l2, l3, l4, l5, l6, l7, l8, l9, l10], [.int i3, .int i2, .long j1, .ref k0], h) Q = if i2 = i3 then Tr sc d 235 (337, [l0, l1, l2, l3, l4, l5, l6, l7, l8, l9, l10], [.long j1, .ref k0], h) Q else Tr sc d 235 (341, [l0, l1, l2, l3, l4, l5, l6, l7, l8, l9, l10], [.long j1, .ref k0], h) Q := t_if k_235_334 rfl
theorem k_235_337 : lk 235 337 = some (.lconst 0, 338, 0, 0, .long 0) := by decide +kernel
theorem x_235_337 : Tr sc d 235 (337, [l0, l1, l2, l3, l4, l5, l6, l7, l8, l9, l10], [.long j1, .ref k0], h) Q = Tr sc d 235 (338, [l0, l1, l2, l3, l4, l5, l6, l7, l8, l9, l10], [.long 0, .long j1, .ref k0], h) Q := t_go k_235_337 rfl
theorem k_235_338 : lk 235 338 = some (.goto 10, 341, 348, 0, .null) := by decide +kernel
theorem x_235_338 : Tr sc d 235 (338, [l0, l1, l2, l3, l4, l5, l6, l7, l8, l9, l10], [.long j2, .long j1, .ref k0], h) Q = Tr sc d 235 (348, [l0, l1, l2, l3, l4, l5, l6, l7, l8, l9, l10], [.long j2, .long j1, .ref k0], h) Q := t_go k_235_338 rfl
theorem k_235_341 : lk 235 341 = some (.aload_n 0, 342, 0, 0, .null) := by decide +kernel
theorem x_235_341 : Tr sc d 235 (341, [some (.ref xk), l1, l2, l3, l4, l5, l6, l7, l8, l9, l10], [.long j1, .ref k0], h) Q = Tr sc d 235 (342, [some (.ref xk), l1, l2, l3, l4, l5, l6, l7, l8, l9, l10], [.ref xk, .long j1, .ref k0], h) Q := t_aload_n k_235_341 rfl
theorem k_235_342 : lk 235 342 = some (.getfield 116, 345, 10, 56, .null) := by decide +kernel
theorem x_235_342 : Tr sc d 235 (342, [l0, l1, l2, l3, l4, l5, l6, l7, l8, l9, l10], [.ref k2, .long j1, .ref k0], h) Q = (okp h k2 10 = true ∧ ∃ q, hR h k2 56 = some q ∧ Tr sc d 235 (345, [l0, l1, l2, l3, l4, l5, l6, l7, l8, l9, l10], [.ref q, .long j1, .ref k0], h) Q) := t_getr k_235_342
theorem k_235_345 : lk 235 345 = some (.iload 4, 347, 4, 0, .null) := by decide +kernel
theorem x_235_345 : Tr sc d 235 (345, [l0, l1, l2, l3, some (.int x), l5, l6, l7, l8, l9, l10], [.ref k2, .long j1, .ref k0], h) Q = Tr sc d 235 (347, [l0, l1, l2, l3, some (.int x), l5, l6, l7, l8, l9, l10], [.int x, .ref k2, .long j1, .ref k0], h) Q := t_iload k_235_345 rfl
theorem k_235_347 : lk 235 347 = some (.laload, 348, 0, 0, .null) := by decide +kernel
theorem x_235_347 : Tr sc d 235 (347, [l0, l1, l2, l3, l4, l5, l6, l7, l8, l9, l10], [.int i3, .ref k2, .long j1, .ref k0], h) Q = ((okp h k2 12 && inb i3 (LN k2)) = true ∧ Tr sc d 235 (348, [l0, l1, l2, l3, l4, l5, l6, l7, l8, l9, l10], [.long (hL h k2 i3.toNatClampNeg), .long j1, .ref k0], h) Q) := t_gd k_235_347 rfl
theorem k_235_348 : lk 235 348 = some (.ladd, 349, 0, 0, .null) := by decide +kernel
theorem x_235_348 : Tr sc d 235 (348, [l0, l1, l2, l3, l4, l5, l6, l7, l8, l9, l10], [.long j2, .long j1, .ref k0], h) Q = Tr sc d 235 (349, [l0, l1, l2, l3, l4, l5, l6, l7, l8, l9, l10], [.long (j1 + j2), .ref k0], h) Q := t_go k_235_348 rfl
theorem k_235_349 : lk 235 349 = some (.putfield 267, 352, 10, 3, .long 0) := by decide +kernel
theorem x_235_349 : Tr sc d 235 (349, [l0, l1, l2, l3, l4, l5, l6, l7, l8, l9, l10], [.long j1, .ref k0], h) Q = (okp h k0 10 = true ∧ Tr sc d 235 (352, [l0, l1, l2, l3, l4, l5, l6, l7, l8, l9, l10], [], (sL h k0 3 j1)) Q) := t_gd k_235_349 rfl
theorem k_235_352 : lk 235 352 = some (.iinc 4 1, 355, 4, 0, .int 1) := by decide +kernel
theorem x_235_352 : Tr sc d 235 (352, [l0, l1, l2, l3, some (.int x), l5, l6, l7, l8, l9, l10], [], h) Q = Tr sc d 235 (355, [l0, l1, l2, cl2 l3, some (.int (x + 1)), l5, l6, l7, l8, l9, l10], [], h) Q := t_inc k_235_352 rfl (Nat.le_of_ble_eq_true rfl)
theorem k_235_355 : lk 235 355 = some (.goto (-41), 358, 314, 0, .null) := by decide +kernel
theorem x_235_355 : Tr sc d 235 (355, [l0, l1, l2, l3, l4, l5, l6, l7, l8, l9, l10], [], h) Q = Tr sc d 235 (314, [l0, l1, l2, l3, l4, l5, l6, l7, l8, l9, l10], [], h) Q := t_go k_235_355 rfl
theorem k_235_358 : lk 235 358 = some (.iconst 1, 359, 0, 0, .int 1) := by decide +kernel
theorem x_235_358 : Tr sc d 235 (358, [l0, l1, l2, l3, l4, l5, l6, l7, l8, l9, l10], [], h) Q = Tr sc d 235 (359, [l0, l1, l2, l3, l4, l5, l6, l7, l8, l9, l10], [.int 1], h) Q := t_go k_235_358 rfl
theorem k_235_359 : lk 235 359 = some (.ireturn, 360, 0, 0, .null) := by decide +kernel
theorem x_235_359 : Tr sc d 235 (359, [l0, l1, l2, l3, l4, l5, l6, l7, l8, l9, l10], [.int i0], h) Q = Q (some (.int i0), h) := t_ret k_235_359 (by rw [r_235]; rfl)
theorem e_235 : Tr sc d 235 (ent0 235 [.ref k0, .int i1, .int i2] h) Q = Tr sc d 235 (0, [some (.ref k0), some (.int i1), some (.int i2), none, none, none, none, none, none, none, none], [], h) Q := by
  have e : mL 235 = 11 := by decide +kernel
  unfold ent0
  rw [e]
  rfl
theorem r_236 : mR 236 = some .int := by decide +kernel
theorem k_236_0 : lk 236 0 = some (.aload_n 0, 1, 0, 0, .null) := by decide +kernel
theorem x_236_0 : Tr sc d 236 (0, [some (.ref xk), l1, l2, l3, l4, l5, l6, l7, l8, l9, l10, l11, l12, l13, l14, l15, l16, l17, l18, l19, l20, l21], [], h) Q = Tr sc d 236 (1, [some (.ref xk), l1, l2, l3, l4, l5, l6, l7, l8, l9, l10, l11, l12, l13, l14, l15, l16, l17, l18, l19, l20, l21], [.ref xk], h) Q := t_aload_n k_236_0 rfl
theorem k_236_1 : lk 236 1 = some (.iload_n 1, 2, 1, 0, .null) := by decide +kernel
theorem x_236_1 : Tr sc d 236 (1, [l0, some (.int x), l2, l3, l4, l5, l6, l7, l8, l9, l10, l11, l12, l13, l14, l15, l16, l17, l18, l19, l20, l21], [.ref k0], h) Q = Tr sc d 236 (2, [l0, some (.int x), l2, l3, l4, l5, l6, l7, l8, l9, l10, l11, l12, l13, l14, l15, l16, l17, l18, l19, l20, l21], [.int x, .ref k0], h) Q := t_iload_n k_236_1 rfl
theorem k_236_2 : lk 236 2 = some (.invokevirtual 220, 5, 177, 1, .null) := by decide +kernel
theorem x_236_2 : Tr sc (d + 1) 236 (2, [l0, l1, l2, l3, l4, l5, l6, l7, l8, l9, l10, l11, l12, l13, l14, l15, l16, l17, l18, l19, l20, l21], [.int i1, .ref k0], h) Q = (okp h k0 10 = true ∧ Tr sc d 177 (ent0 177 [.ref k0, .int i1] h) (fun z => Tr sc (d + 1) 236 (5, [l0, l1, l2, l3, l4, l5, l6, l7, l8, l9, l10, l11, l12, l13, l14, l15, l16, l17, l18, l19, l20, l21], z.1.toList ++ [], z.2) Q)) := t_cv (as := [.int i1]) (r := []) k_236_2 rfl rfl (Nat.le_of_ble_eq_true rfl) (Nat.le_of_ble_eq_true rfl) (Nat.le_of_ble_eq_true rfl)
theorem k_236_5 : lk 236 5 = some (.istore_n 3, 6, 3, 0, .null) := by decide +kernel
theorem x_236_5 : Tr sc d 236 (5, [l0, l1, l2, l3, l4, l5, l6, l7, l8, l9, l10, l11, l12, l13, l14, l15, l16, l17, l18, l19, l20, l21], [.int i0], h) Q = Tr sc d 236 (6, [l0, l1, cl2 l2, some (.int i0), l4, l5, l6, l7, l8, l9, l10, l11, l12, l13, l14, l15, l16, l17, l18, l19, l20, l21], [], h) Q := t_istore_n k_236_5 (Nat.le_of_ble_eq_true rfl)
theorem k_236_6 : lk 236 6 = some (.iload_n 3, 7, 3, 0, .null) := by decide +kernel
theorem x_236_6 : Tr sc d 236 (6, [l0, l1, l2, some (.int x), l4, l5, l6, l7, l8, l9, l10, l11, l12, l13, l14, l15, l16, l17, l18, l19, l20, l21], [], h) Q = Tr sc d 236 (7, [l0, l1, l2, some (.int x), l4, l5, l6, l7, l8, l9, l10, l11, l12, l13, l14, l15, l16, l17, l18, l19, l20, l21], [.int x], h) Q := t_iload_n k_236_6 rfl
theorem k_236_7 : lk 236 7 = some (.ifCond .ge 5, 10, 12, 0, .null) := by decide +kernel
theorem x_236_7 : Tr sc d 236 (7, [l0, l1, l2, l3, l4, l5, l6, l7, l8, l9, l10, l11, l12, l13, l14, l15, l16, l17, l18, l19, l20, l21], [.int i0], h) Q = if 0 ≤ i0 then Tr sc d 236 (12, [l0, l1, l2, l3, l4, l5, l6, l7, l8, l9, l10, l11, l12, l13, l14, l15, l16, l17, l18, l19, l20, l21], [], h) Q else Tr sc d 236 (10, [l0, l1, l2, l3, l4, l5, l6, l7, l8, l9, l10, l11, l12, l13, l14, l15, l16, l17, l18, l19, l20, l21], [], h) Q := t_if k_236_7 rfl
theorem k_236_10 : lk 236 10 = some (.iload_n 3, 11, 3, 0, .null) := by decide +kernel
theorem x_236_10 : Tr sc d 236 (10, [l0, l1, l2, some (.int x), l4, l5, l6, l7, l8, l9, l10, l11, l12, l13, l14, l15, l16, l17, l18, l19, l20, l21], [], h) Q = Tr sc d 236 (11, [l0, l1, l2, some (.int x), l4, l5, l6, l7, l8, l9, l10, l11, l12, l13, l14, l15, l16, l17, l18, l19, l20, l21], [.int x], h) Q := t_iload_n k_236_10 rfl
theorem k_236_11 : lk 236 11 = some (.ireturn, 12, 0, 0, .null) := by decide +kernel
theorem x_236_11 : Tr sc d 236 (11, [l0, l1, l2, l3, l4, l5, l6, l7, l8, l9, l10, l11, l12, l13, l14, l15, l16, l17, l18, l19, l20, l21], [.int i0], h) Q = Q (some (.int i0), h) := t_ret k_236_11 (by rw [r_236]; rfl)
theorem k_236_12 : lk 236 12 = some (.aload_n 0, 13, 0, 0, .null) := by decide +kernel
theorem x_236_12 : Tr sc d 236 (12, [some (.ref xk), l1, l2, l3, l4, l5, l6, l7, l8, l9, l10, l11, l12, l13, l14, l15, l16, l17, l18, l19, l20, l21], [], h) Q = Tr sc d 236 (13, [some (.ref xk), l1, l2, l3, l4, l5, l6, l7, l8, l9, l10, l11, l12, l13, l14, l15, l16, l17, l18, l19, l20, l21], [.ref xk], h) Q := t_aload_n k_236_12 rfl
theorem k_236_13 : lk 236 13 = some (.getfield 35, 16, 10, 16, .null) := by decide +kernel
theorem x_236_13 : Tr sc d 236 (13, [l0, l1, l2, l3, l4, l5, l6, l7, l8, l9, l10, l11, l12, l13, l14, l15, l16, l17, l18, l19, l20, l21], [.ref k0], h) Q = (okp h k0 10 = true ∧ ∃ q, hR h k0 16 = some q ∧ Tr sc d 236 (16, [l0, l1, l2, l3, l4, l5, l6, l7, l8, l9, l10, l11, l12, l13, l14, l15, l16, l17, l18, l19, l20, l21], [.ref q], h) Q) := t_getr k_236_13
theorem k_236_16 : lk 236 16 = some (.iload_n 1, 17, 1, 0, .null) := by decide +kernel
theorem x_236_16 : Tr sc d 236 (16, [l0, some (.int x), l2, l3, l4, l5, l6, l7, l8, l9, l10, l11, l12, l13, l14, l15, l16, l17, l18, l19, l20, l21], [.ref k0], h) Q = Tr sc d 236 (17, [l0, some (.int x), l2, l3, l4, l5, l6, l7, l8, l9, l10, l11, l12, l13, l14, l15, l16, l17, l18, l19, l20, l21], [.int x, .ref k0], h) Q := t_iload_n k_236_16 rfl
theorem k_236_17 : lk 236 17 = some (.iaload, 18, 0, 0, .null) := by decide +kernel
theorem x_236_17 : Tr sc d 236 (17, [l0, l1, l2, l3, l4, l5, l6, l7, l8, l9, l10, l11, l12, l13, l14, l15, l16, l17, l18, l19, l20, l21], [.int i1, .ref k0], h) Q = (iOk sc h k0 i1 ∧ Tr sc d 236 (18, [l0, l1, l2, l3, l4, l5, l6, l7, l8, l9, l10, l11, l12, l13, l14, l15, l16, l17, l18, l19, l20, l21], [.int (iRd sc h k0 i1)], h) Q) := t_iald k_236_17
theorem k_236_18 : lk 236 18 = some (.iconst 4, 19, 0, 0, .int 4) := by decide +kernel
theorem x_236_18 : Tr sc d 236 (18, [l0, l1, l2, l3, l4, l5, l6, l7, l8, l9, l10, l11, l12, l13, l14, l15, l16, l17, l18, l19, l20, l21], [.int i0], h) Q = Tr sc d 236 (19, [l0, l1, l2, l3, l4, l5, l6, l7, l8, l9, l10, l11, l12, l13, l14, l15, l16, l17, l18, l19, l20, l21], [.int 4, .int i0], h) Q := t_go k_236_18 rfl
theorem k_236_19 : lk 236 19 = some (.if_icmp .ne 9, 22, 28, 0, .null) := by decide +kernel
theorem x_236_19 : Tr sc d 236 (19, [l0, l1, l2, l3, l4, l5, l6, l7, l8, l9, l10, l11, l12, l13, l14, l15, l16, l17, l18, l19, l20, l21], [.int i1, .int i0], h) Q = if i0 = i1 then Tr sc d 236 (22, [l0, l1, l2, l3, l4, l5, l6, l7, l8, l9, l10, l11, l12, l13, l14, l15, l16, l17, l18, l19, l20, l21], [], h) Q else Tr sc d 236 (28, [l0, l1, l2, l3, l4, l5, l6, l7, l8, l9, l10, l11, l12, l13, l14, l15, l16, l17, l18, l19, l20, l21], [], h) Q := t_if k_236_19 rfl
theorem k_236_22 : lk 236 22 = some (.aload_n 0, 23, 0, 0, .null) := by decide +kernel
theorem x_236_22 : Tr sc d 236 (22, [some (.ref xk), l1, l2, l3, l4, l5, l6, l7, l8, l9, l10, l11, l12, l13, l14, l15, l16, l17, l18, l19, l20, l21], [], h) Q = Tr sc d 236 (23, [some (.ref xk), l1, l2, l3, l4, l5, l6, l7, l8, l9, l10, l11, l12, l13, l14, l15, l16, l17, l18, l19, l20, l21], [.ref xk], h) Q := t_aload_n k_236_22 rfl
theorem k_236_23 : lk 236 23 = some (.iconst 3, 24, 0, 0, .int 3) := by decide +kernel
theorem x_236_23 : Tr sc d 236 (23, [l0, l1, l2, l3, l4, l5, l6, l7, l8, l9, l10, l11, l12, l13, l14, l15, l16, l17, l18, l19, l20, l21], [.ref k0], h) Q = Tr sc d 236 (24, [l0, l1, l2, l3, l4, l5, l6, l7, l8, l9, l10, l11, l12, l13, l14, l15, l16, l17, l18, l19, l20, l21], [.int 3, .ref k0], h) Q := t_go k_236_23 rfl
theorem k_236_24 : lk 236 24 = some (.invokevirtual 152, 27, 158, 1, .null) := by decide +kernel
theorem x_236_24 : Tr sc (d + 1) 236 (24, [l0, l1, l2, l3, l4, l5, l6, l7, l8, l9, l10, l11, l12, l13, l14, l15, l16, l17, l18, l19, l20, l21], [.int i1, .ref k0], h) Q = (okp h k0 10 = true ∧ Tr sc d 158 (ent0 158 [.ref k0, .int i1] h) (fun z => Tr sc (d + 1) 236 (27, [l0, l1, l2, l3, l4, l5, l6, l7, l8, l9, l10, l11, l12, l13, l14, l15, l16, l17, l18, l19, l20, l21], z.1.toList ++ [], z.2) Q)) := t_cv (as := [.int i1]) (r := []) k_236_24 rfl rfl (Nat.le_of_ble_eq_true rfl) (Nat.le_of_ble_eq_true rfl) (Nat.le_of_ble_eq_true rfl)
theorem k_236_27 : lk 236 27 = some (.ireturn, 28, 0, 0, .null) := by decide +kernel
theorem x_236_27 : Tr sc d 236 (27, [l0, l1, l2, l3, l4, l5, l6, l7, l8, l9, l10, l11, l12, l13, l14, l15, l16, l17, l18, l19, l20, l21], [.int i0], h) Q = Q (some (.int i0), h) := t_ret k_236_27 (by rw [r_236]; rfl)
theorem k_236_28 : lk 236 28 = some (.aload_n 0, 29, 0, 0, .null) := by decide +kernel
theorem x_236_28 : Tr sc d 236 (28, [some (.ref xk), l1, l2, l3, l4, l5, l6, l7, l8, l9, l10, l11, l12, l13, l14, l15, l16, l17, l18, l19, l20, l21], [], h) Q = Tr sc d 236 (29, [some (.ref xk), l1, l2, l3, l4, l5, l6, l7, l8, l9, l10, l11, l12, l13, l14, l15, l16, l17, l18, l19, l20, l21], [.ref xk], h) Q := t_aload_n k_236_28 rfl
theorem k_236_29 : lk 236 29 = some (.getfield 38, 32, 10, 17, .null) := by decide +kernel
theorem x_236_29 : Tr sc d 236 (29, [l0, l1, l2, l3, l4, l5, l6, l7, l8, l9, l10, l11, l12, l13, l14, l15, l16, l17, l18, l19, l20, l21], [.ref k0], h) Q = (okp h k0 10 = true ∧ ∃ q, hR h k0 17 = some q ∧ Tr sc d 236 (32, [l0, l1, l2, l3, l4, l5, l6, l7, l8, l9, l10, l11, l12, l13, l14, l15, l16, l17, l18, l19, l20, l21], [.ref q], h) Q) := t_getr k_236_29
theorem k_236_32 : lk 236 32 = some (.iload_n 1, 33, 1, 0, .null) := by decide +kernel
theorem x_236_32 : Tr sc d 236 (32, [l0, some (.int x), l2, l3, l4, l5, l6, l7, l8, l9, l10, l11, l12, l13, l14, l15, l16, l17, l18, l19, l20, l21], [.ref k0], h) Q = Tr sc d 236 (33, [l0, some (.int x), l2, l3, l4, l5, l6, l7, l8, l9, l10, l11, l12, l13, l14, l15, l16, l17, l18, l19, l20, l21], [.int x, .ref k0], h) Q := t_iload_n k_236_32 rfl
theorem k_236_33 : lk 236 33 = some (.iaload, 34, 0, 0, .null) := by decide +kernel
theorem x_236_33 : Tr sc d 236 (33, [l0, l1, l2, l3, l4, l5, l6, l7, l8, l9, l10, l11, l12, l13, l14, l15, l16, l17, l18, l19, l20, l21], [.int i1, .ref k0], h) Q = (iOk sc h k0 i1 ∧ Tr sc d 236 (34, [l0, l1, l2, l3, l4, l5, l6, l7, l8, l9, l10, l11, l12, l13, l14, l15, l16, l17, l18, l19, l20, l21], [.int (iRd sc h k0 i1)], h) Q) := t_iald k_236_33
theorem k_236_34 : lk 236 34 = some (.i2l, 35, 0, 0, .null) := by decide +kernel
theorem x_236_34 : Tr sc d 236 (34, [l0, l1, l2, l3, l4, l5, l6, l7, l8, l9, l10, l11, l12, l13, l14, l15, l16, l17, l18, l19, l20, l21], [.int i0], h) Q = Tr sc d 236 (35, [l0, l1, l2, l3, l4, l5, l6, l7, l8, l9, l10, l11, l12, l13, l14, l15, l16, l17, l18, l19, l20, l21], [.long i0.toInt64], h) Q := t_go k_236_34 rfl
theorem k_236_35 : lk 236 35 = some (.aload_n 0, 36, 0, 0, .null) := by decide +kernel
theorem x_236_35 : Tr sc d 236 (35, [some (.ref xk), l1, l2, l3, l4, l5, l6, l7, l8, l9, l10, l11, l12, l13, l14, l15, l16, l17, l18, l19, l20, l21], [.long j0], h) Q = Tr sc d 236 (36, [some (.ref xk), l1, l2, l3, l4, l5, l6, l7, l8, l9, l10, l11, l12, l13, l14, l15, l16, l17, l18, l19, l20, l21], [.ref xk, .long j0], h) Q := t_aload_n k_236_35 rfl
theorem k_236_36 : lk 236 36 = some (.iload_n 1, 37, 1, 0, .null) := by decide +kernel
theorem x_236_36 : Tr sc d 236 (36, [l0, some (.int x), l2, l3, l4, l5, l6, l7, l8, l9, l10, l11, l12, l13, l14, l15, l16, l17, l18, l19, l20, l21], [.ref k1, .long j0], h) Q = Tr sc d 236 (37, [l0, some (.int x), l2, l3, l4, l5, l6, l7, l8, l9, l10, l11, l12, l13, l14, l15, l16, l17, l18, l19, l20, l21], [.int x, .ref k1, .long j0], h) Q := t_iload_n k_236_36 rfl
theorem k_236_37 : lk 236 37 = some (.invokevirtual 214, 40, 185, 1, .null) := by decide +kernel
theorem x_236_37 : Tr sc (d + 1) 236 (37, [l0, l1, l2, l3, l4, l5, l6, l7, l8, l9, l10, l11, l12, l13, l14, l15, l16, l17, l18, l19, l20, l21], [.int i2, .ref k1, .long j0], h) Q = (okp h k1 10 = true ∧ Tr sc d 185 (ent0 185 [.ref k1, .int i2] h) (fun z => Tr sc (d + 1) 236 (40, [l0, l1, l2, l3, l4, l5, l6, l7, l8, l9, l10, l11, l12, l13, l14, l15, l16, l17, l18, l19, l20, l21], z.1.toList ++ [.long j0], z.2) Q)) := t_cv (as := [.int i2]) (r := [.long j0]) k_236_37 rfl rfl (Nat.le_of_ble_eq_true rfl) (Nat.le_of_ble_eq_true rfl) (Nat.le_of_ble_eq_true rfl)
theorem k_236_40 : lk 236 40 = some (.i2l, 41, 0, 0, .null) := by decide +kernel
theorem x_236_40 : Tr sc d 236 (40, [l0, l1, l2, l3, l4, l5, l6, l7, l8, l9, l10, l11, l12, l13, l14, l15, l16, l17, l18, l19, l20, l21], [.int i1, .long j0], h) Q = Tr sc d 236 (41, [l0, l1, l2, l3, l4, l5, l6, l7, l8, l9, l10, l11, l12, l13, l14, l15, l16, l17, l18, l19, l20, l21], [.long i1.toInt64, .long j0], h) Q := t_go k_236_40 rfl
theorem k_236_41 : lk 236 41 = some (.lmul, 42, 0, 0, .null) := by decide +kernel
theorem x_236_41 : Tr sc d 236 (41, [l0, l1, l2, l3, l4, l5, l6, l7, l8, l9, l10, l11, l12, l13, l14, l15, l16, l17, l18, l19, l20, l21], [.long j1, .long j0], h) Q = Tr sc d 236 (42, [l0, l1, l2, l3, l4, l5, l6, l7, l8, l9, l10, l11, l12, l13, l14, l15, l16, l17, l18, l19, l20, l21], [.long (j0 * j1)], h) Q := t_go k_236_41 rfl
theorem k_236_42 : lk 236 42 = some (.lstore 4, 44, 4, 0, .null) := by decide +kernel
theorem x_236_42 : Tr sc d 236 (42, [l0, l1, l2, l3, l4, l5, l6, l7, l8, l9, l10, l11, l12, l13, l14, l15, l16, l17, l18, l19, l20, l21], [.long j0], h) Q = Tr sc d 236 (44, [l0, l1, l2, cl2 l3, some (.long j0), none, l6, l7, l8, l9, l10, l11, l12, l13, l14, l15, l16, l17, l18, l19, l20, l21], [], h) Q := t_lstore k_236_42 (Nat.le_of_ble_eq_true rfl)
theorem k_236_44 : lk 236 44 = some (.lload 4, 46, 4, 0, .null) := by decide +kernel
theorem x_236_44 : Tr sc d 236 (44, [l0, l1, l2, l3, some (.long xl), l5, l6, l7, l8, l9, l10, l11, l12, l13, l14, l15, l16, l17, l18, l19, l20, l21], [], h) Q = Tr sc d 236 (46, [l0, l1, l2, l3, some (.long xl), l5, l6, l7, l8, l9, l10, l11, l12, l13, l14, l15, l16, l17, l18, l19, l20, l21], [.long xl], h) Q := t_lload k_236_44 rfl
theorem k_236_46 : lk 236 46 = some (.lstore 6, 48, 6, 0, .null) := by decide +kernel
theorem x_236_46 : Tr sc d 236 (46, [l0, l1, l2, l3, l4, l5, l6, l7, l8, l9, l10, l11, l12, l13, l14, l15, l16, l17, l18, l19, l20, l21], [.long j0], h) Q = Tr sc d 236 (48, [l0, l1, l2, l3, l4, cl2 l5, some (.long j0), none, l8, l9, l10, l11, l12, l13, l14, l15, l16, l17, l18, l19, l20, l21], [], h) Q := t_lstore k_236_46 (Nat.le_of_ble_eq_true rfl)
theorem k_236_48 : lk 236 48 = some (.lconst 0, 49, 0, 0, .long 0) := by decide +kernel
theorem x_236_48 : Tr sc d 236 (48, [l0, l1, l2, l3, l4, l5, l6, l7, l8, l9, l10, l11, l12, l13, l14, l15, l16, l17, l18, l19, l20, l21], [], h) Q = Tr sc d 236 (49, [l0, l1, l2, l3, l4, l5, l6, l7, l8, l9, l10, l11, l12, l13, l14, l15, l16, l17, l18, l19, l20, l21], [.long 0], h) Q := t_go k_236_48 rfl
theorem k_236_49 : lk 236 49 = some (.lstore 8, 51, 8, 0, .null) := by decide +kernel
theorem x_236_49 : Tr sc d 236 (49, [l0, l1, l2, l3, l4, l5, l6, l7, l8, l9, l10, l11, l12, l13, l14, l15, l16, l17, l18, l19, l20, l21], [.long j0], h) Q = Tr sc d 236 (51, [l0, l1, l2, l3, l4, l5, l6, cl2 l7, some (.long j0), none, l10, l11, l12, l13, l14, l15, l16, l17, l18, l19, l20, l21], [], h) Q := t_lstore k_236_49 (Nat.le_of_ble_eq_true rfl)
theorem k_236_51 : lk 236 51 = some (.lconst 0, 52, 0, 0, .long 0) := by decide +kernel
theorem x_236_51 : Tr sc d 236 (51, [l0, l1, l2, l3, l4, l5, l6, l7, l8, l9, l10, l11, l12, l13, l14, l15, l16, l17, l18, l19, l20, l21], [], h) Q = Tr sc d 236 (52, [l0, l1, l2, l3, l4, l5, l6, l7, l8, l9, l10, l11, l12, l13, l14, l15, l16, l17, l18, l19, l20, l21], [.long 0], h) Q := t_go k_236_51 rfl
theorem k_236_52 : lk 236 52 = some (.lstore 10, 54, 10, 0, .null) := by decide +kernel
theorem x_236_52 : Tr sc d 236 (52, [l0, l1, l2, l3, l4, l5, l6, l7, l8, l9, l10, l11, l12, l13, l14, l15, l16, l17, l18, l19, l20, l21], [.long j0], h) Q = Tr sc d 236 (54, [l0, l1, l2, l3, l4, l5, l6, l7, l8, cl2 l9, some (.long j0), none, l12, l13, l14, l15, l16, l17, l18, l19, l20, l21], [], h) Q := t_lstore k_236_52 (Nat.le_of_ble_eq_true rfl)
theorem k_236_54 : lk 236 54 = some (.lload 4, 56, 4, 0, .null) := by decide +kernel
theorem x_236_54 : Tr sc d 236 (54, [l0, l1, l2, l3, some (.long xl), l5, l6, l7, l8, l9, l10, l11, l12, l13, l14, l15, l16, l17, l18, l19, l20, l21], [], h) Q = Tr sc d 236 (56, [l0, l1, l2, l3, some (.long xl), l5, l6, l7, l8, l9, l10, l11, l12, l13, l14, l15, l16, l17, l18, l19, l20, l21], [.long xl], h) Q := t_lload k_236_54 rfl
theorem k_236_56 : lk 236 56 = some (.lstore 12, 58, 12, 0, .null) := by decide +kernel
theorem x_236_56 : Tr sc d 236 (56, [l0, l1, l2, l3, l4, l5, l6, l7, l8, l9, l10, l11, l12, l13, l14, l15, l16, l17, l18, l19, l20, l21], [.long j0], h) Q = Tr sc d 236 (58, [l0, l1, l2, l3, l4, l5, l6, l7, l8, l9, l10, cl2 l11, some (.long j0), none, l14, l15, l16, l17, l18, l19, l20, l21], [], h) Q := t_lstore k_236_56 (Nat.le_of_ble_eq_true rfl)
theorem k_236_58 : lk 236 58 = some (.lconst 0, 59, 0, 0, .long 0) := by decide +kernel
theorem x_236_58 : Tr sc d 236 (58, [l0, l1, l2, l3, l4, l5, l6, l7, l8, l9, l10, l11, l12, l13, l14, l15, l16, l17, l18, l19, l20, l21], [], h) Q = Tr sc d 236 (59, [l0, l1, l2, l3, l4, l5, l6, l7, l8, l9, l10, l11, l12, l13, l14, l15, l16, l17, l18, l19, l20, l21], [.long 0], h) Q := t_go k_236_58 rfl
theorem k_236_59 : lk 236 59 = some (.lstore 14, 61, 14, 0, .null) := by decide +kernel
theorem x_236_59 : Tr sc d 236 (59, [l0, l1, l2, l3, l4, l5, l6, l7, l8, l9, l10, l11, l12, l13, l14, l15, l16, l17, l18, l19, l20, l21], [.long j0], h) Q = Tr sc d 236 (61, [l0, l1, l2, l3, l4, l5, l6, l7, l8, l9, l10, l11, l12, cl2 l13, some (.long j0), none, l16, l17, l18, l19, l20, l21], [], h) Q := t_lstore k_236_59 (Nat.le_of_ble_eq_true rfl)
theorem k_236_61 : lk 236 61 = some (.lconst 0, 62, 0, 0, .long 0) := by decide +kernel
theorem x_236_61 : Tr sc d 236 (61, [l0, l1, l2, l3, l4, l5, l6, l7, l8, l9, l10, l11, l12, l13, l14, l15, l16, l17, l18, l19, l20, l21], [], h) Q = Tr sc d 236 (62, [l0, l1, l2, l3, l4, l5, l6, l7, l8, l9, l10, l11, l12, l13, l14, l15, l16, l17, l18, l19, l20, l21], [.long 0], h) Q := t_go k_236_61 rfl
theorem k_236_62 : lk 236 62 = some (.lstore 16, 64, 16, 0, .null) := by decide +kernel
theorem x_236_62 : Tr sc d 236 (62, [l0, l1, l2, l3, l4, l5, l6, l7, l8, l9, l10, l11, l12, l13, l14, l15, l16, l17, l18, l19, l20, l21], [.long j0], h) Q = Tr sc d 236 (64, [l0, l1, l2, l3, l4, l5, l6, l7, l8, l9, l10, l11, l12, l13, l14, cl2 l15, some (.long j0), none, l18, l19, l20, l21], [], h) Q := t_lstore k_236_62 (Nat.le_of_ble_eq_true rfl)
theorem k_236_64 : lk 236 64 = some (.iconst 0, 65, 0, 0, .int 0) := by decide +kernel
theorem x_236_64 : Tr sc d 236 (64, [l0, l1, l2, l3, l4, l5, l6, l7, l8, l9, l10, l11, l12, l13, l14, l15, l16, l17, l18, l19, l20, l21], [], h) Q = Tr sc d 236 (65, [l0, l1, l2, l3, l4, l5, l6, l7, l8, l9, l10, l11, l12, l13, l14, l15, l16, l17, l18, l19, l20, l21], [.int 0], h) Q := t_go k_236_64 rfl
theorem k_236_65 : lk 236 65 = some (.istore 18, 67, 18, 0, .null) := by decide +kernel
theorem x_236_65 : Tr sc d 236 (65, [l0, l1, l2, l3, l4, l5, l6, l7, l8, l9, l10, l11, l12, l13, l14, l15, l16, l17, l18, l19, l20, l21], [.int i0], h) Q = Tr sc d 236 (67, [l0, l1, l2, l3, l4, l5, l6, l7, l8, l9, l10, l11, l12, l13, l14, l15, l16, cl2 l17, some (.int i0), l19, l20, l21], [], h) Q := t_istore k_236_65 (Nat.le_of_ble_eq_true rfl)
theorem k_236_67 : lk 236 67 = some (.iload 18, 69, 18, 0, .null) := by decide +kernel
theorem x_236_67 : Tr sc d 236 (67, [l0, l1, l2, l3, l4, l5, l6, l7, l8, l9, l10, l11, l12, l13, l14, l15, l16, l17, some (.int x), l19, l20, l21], [], h) Q = Tr sc d 236 (69, [l0, l1, l2, l3, l4, l5, l6, l7, l8, l9, l10, l11, l12, l13, l14, l15, l16, l17, some (.int x), l19, l20, l21], [.int x], h) Q := t_iload k_236_67 rfl
theorem k_236_69 : lk 236 69 = some (.aload_n 0, 70, 0, 0, .null) := by decide +kernel
theorem x_236_69 : Tr sc d 236 (69, [some (.ref xk), l1, l2, l3, l4, l5, l6, l7, l8, l9, l10, l11, l12, l13, l14, l15, l16, l17, l18, l19, l20, l21], [.int i0], h) Q = Tr sc d 236 (70, [some (.ref xk), l1, l2, l3, l4, l5, l6, l7, l8, l9, l10, l11, l12, l13, l14, l15, l16, l17, l18, l19, l20, l21], [.ref xk, .int i0], h) Q := t_aload_n k_236_69 rfl
theorem k_236_70 : lk 236 70 = some (.getfield 41, 73, 10, 18, .null) := by decide +kernel
theorem x_236_70 : Tr sc d 236 (70, [l0, l1, l2, l3, l4, l5, l6, l7, l8, l9, l10, l11, l12, l13, l14, l15, l16, l17, l18, l19, l20, l21], [.ref k1, .int i0], h) Q = (okp h k1 10 = true ∧ ∃ q, hR h k1 18 = some q ∧ Tr sc d 236 (73, [l0, l1, l2, l3, l4, l5, l6, l7, l8, l9, l10, l11, l12, l13, l14, l15, l16, l17, l18, l19, l20, l21], [.ref q, .int i0], h) Q) := t_getr k_236_70
theorem k_236_73 : lk 236 73 = some (.iload_n 1, 74, 1, 0, .null) := by decide +kernel
theorem x_236_73 : Tr sc d 236 (73, [l0, some (.int x), l2, l3, l4, l5, l6, l7, l8, l9, l10, l11, l12, l13, l14, l15, l16, l17, l18, l19, l20, l21], [.ref k1, .int i0], h) Q = Tr sc d 236 (74, [l0, some (.int x), l2, l3, l4, l5, l6, l7, l8, l9, l10, l11, l12, l13, l14, l15, l16, l17, l18, l19, l20, l21], [.int x, .ref k1, .int i0], h) Q := t_iload_n k_236_73 rfl
theorem k_236_74 : lk 236 74 = some (.iaload, 75, 0, 0, .null) := by decide +kernel
theorem x_236_74 : Tr sc d 236 (74, [l0, l1, l2, l3, l4, l5, l6, l7, l8, l9, l10, l11, l12, l13, l14, l15, l16, l17, l18, l19, l20, l21], [.int i2, .ref k1, .int i0], h) Q = (iOk sc h k1 i2 ∧ Tr sc d 236 (75, [l0, l1, l2, l3, l4, l5, l6, l7, l8, l9, l10, l11, l12, l13, l14, l15, l16, l17, l18, l19, l20, l21], [.int (iRd sc h k1 i2), .int i0], h) Q) := t_iald k_236_74
theorem k_236_75 : lk 236 75 = some (.if_icmp .ge 158, 78, 233, 0, .null) := by decide +kernel
theorem x_236_75 : Tr sc d 236 (75, [l0, l1, l2, l3, l4, l5, l6, l7, l8, l9, l10, l11, l12, l13, l14, l15, l16, l17, l18, l19, l20, l21], [.int i1, .int i0], h) Q = if i1 ≤ i0 then Tr sc d 236 (233, [l0, l1, l2, l3, l4, l5, l6, l7, l8, l9, l10, l11, l12, l13, l14, l15, l16, l17, l18, l19, l20, l21], [], h) Q else Tr sc d 236 (78, [l0, l1, l2, l3, l4, l5, l6, l7, l8, l9, l10, l11, l12, l13, l14, l15, l16, l17, l18, l19, l20, l21], [], h) Q := t_if k_236_75 rfl
theorem k_236_78 : lk 236 78 = some (.bipush 6, 80, 0, 0, .int 6) := by decide +kernel
theorem x_236_78 : Tr sc d 236 (78, [l0, l1, l2, l3, l4, l5, l6, l7, l8, l9, l10, l11, l12, l13, l14, l15, l16, l17, l18, l19, l20, l21], [], h) Q = Tr sc d 236 (80, [l0, l1, l2, l3, l4, l5, l6, l7, l8, l9, l10, l11, l12, l13, l14, l15, l16, l17, l18, l19, l20, l21], [.int 6], h) Q := t_go k_236_78 rfl
theorem k_236_80 : lk 236 80 = some (.iload_n 1, 81, 1, 0, .null) := by decide +kernel
theorem x_236_80 : Tr sc d 236 (80, [l0, some (.int x), l2, l3, l4, l5, l6, l7, l8, l9, l10, l11, l12, l13, l14, l15, l16, l17, l18, l19, l20, l21], [.int i0], h) Q = Tr sc d 236 (81, [l0, some (.int x), l2, l3, l4, l5, l6, l7, l8, l9, l10, l11, l12, l13, l14, l15, l16, l17, l18, l19, l20, l21], [.int x, .int i0], h) Q := t_iload_n k_236_80 rfl
theorem k_236_81 : lk 236 81 = some (.imul, 82, 0, 0, .null) := by decide +kernel
theorem x_236_81 : Tr sc d 236 (81, [l0, l1, l2, l3, l4, l5, l6, l7, l8, l9, l10, l11, l12, l13, l14, l15, l16, l17, l18, l19, l20, l21], [.int i1, .int i0], h) Q = Tr sc d 236 (82, [l0, l1, l2, l3, l4, l5, l6, l7, l8, l9, l10, l11, l12, l13, l14, l15, l16, l17, l18, l19, l20, l21], [.int (i0 * i1)], h) Q := t_go k_236_81 rfl
theorem k_236_82 : lk 236 82 = some (.iload 18, 84, 18, 0, .null) := by decide +kernel
theorem x_236_82 : Tr sc d 236 (82, [l0, l1, l2, l3, l4, l5, l6, l7, l8, l9, l10, l11, l12, l13, l14, l15, l16, l17, some (.int x), l19, l20, l21], [.int i0], h) Q = Tr sc d 236 (84, [l0, l1, l2, l3, l4, l5, l6, l7, l8, l9, l10, l11, l12, l13, l14, l15, l16, l17, some (.int x), l19, l20, l21], [.int x, .int i0], h) Q := t_iload k_236_82 rfl
theorem k_236_84 : lk 236 84 = some (.iadd, 85, 0, 0, .null) := by decide +kernel
theorem x_236_84 : Tr sc d 236 (84, [l0, l1, l2, l3, l4, l5, l6, l7, l8, l9, l10, l11, l12, l13, l14, l15, l16, l17, l18, l19, l20, l21], [.int i1, .int i0], h) Q = Tr sc d 236 (85, [l0, l1, l2, l3, l4, l5, l6, l7, l8, l9, l10, l11, l12, l13, l14, l15, l16, l17, l18, l19, l20, l21], [.int (i0 + i1)], h) Q := t_go k_236_84 rfl
theorem k_236_85 : lk 236 85 = some (.istore 19, 87, 19, 0, .null) := by decide +kernel
theorem x_236_85 : Tr sc d 236 (85, [l0, l1, l2, l3, l4, l5, l6, l7, l8, l9, l10, l11, l12, l13, l14, l15, l16, l17, l18, l19, l20, l21], [.int i0], h) Q = Tr sc d 236 (87, [l0, l1, l2, l3, l4, l5, l6, l7, l8, l9, l10, l11, l12, l13, l14, l15, l16, l17, cl2 l18, some (.int i0), l20, l21], [], h) Q := t_istore k_236_85 (Nat.le_of_ble_eq_true rfl)
theorem k_236_87 : lk 236 87 = some (.aload_n 0, 88, 0, 0, .null) := by decide +kernel
theorem x_236_87 : Tr sc d 236 (87, [some (.ref xk), l1, l2, l3, l4, l5, l6, l7, l8, l9, l10, l11, l12, l13, l14, l15, l16, l17, l18, l19, l20, l21], [], h) Q = Tr sc d 236 (88, [some (.ref xk), l1, l2, l3, l4, l5, l6, l7, l8, l9, l10, l11, l12, l13, l14, l15, l16, l17, l18, l19, l20, l21], [.ref xk], h) Q := t_aload_n k_236_87 rfl
theorem k_236_88 : lk 236 88 = some (.getfield 35, 91, 10, 16, .null) := by decide +kernel
theorem x_236_88 : Tr sc d 236 (88, [l0, l1, l2, l3, l4, l5, l6, l7, l8, l9, l10, l11, l12, l13, l14, l15, l16, l17, l18, l19, l20, l21], [.ref k0], h) Q = (okp h k0 10 = true ∧ ∃ q, hR h k0 16 = some q ∧ Tr sc d 236 (91, [l0, l1, l2, l3, l4, l5, l6, l7, l8, l9, l10, l11, l12, l13, l14, l15, l16, l17, l18, l19, l20, l21], [.ref q], h) Q) := t_getr k_236_88
theorem k_236_91 : lk 236 91 = some (.iload_n 1, 92, 1, 0, .null) := by decide +kernel
theorem x_236_91 : Tr sc d 236 (91, [l0, some (.int x), l2, l3, l4, l5, l6, l7, l8, l9, l10, l11, l12, l13, l14, l15, l16, l17, l18, l19, l20, l21], [.ref k0], h) Q = Tr sc d 236 (92, [l0, some (.int x), l2, l3, l4, l5, l6, l7, l8, l9, l10, l11, l12, l13, l14, l15, l16, l17, l18, l19, l20, l21], [.int x, .ref k0], h) Q := t_iload_n k_236_91 rfl
theorem k_236_92 : lk 236 92 = some (.iaload, 93, 0, 0, .null) := by decide +kernel
theorem x_236_92 : Tr sc d 236 (92, [l0, l1, l2, l3, l4, l5, l6, l7, l8, l9, l10, l11, l12, l13, l14, l15, l16, l17, l18, l19, l20, l21], [.int i1, .ref k0], h) Q = (iOk sc h k0 i1 ∧ Tr sc d 236 (93, [l0, l1, l2, l3, l4, l5, l6, l7, l8, l9, l10, l11, l12, l13, l14, l15, l16, l17, l18, l19, l20, l21], [.int (iRd sc h k0 i1)], h) Q) := t_iald k_236_92
theorem k_236_93 : lk 236 93 = some (.iconst 3, 94, 0, 0, .int 3) := by decide +kernel
theorem x_236_93 : Tr sc d 236 (93, [l0, l1, l2, l3, l4, l5, l6, l7, l8, l9, l10, l11, l12, l13, l14, l15, l16, l17, l18, l19, l20, l21], [.int i0], h) Q = Tr sc d 236 (94, [l0, l1, l2, l3, l4, l5, l6, l7, l8, l9, l10, l11, l12, l13, l14, l15, l16, l17, l18, l19, l20, l21], [.int 3, .int i0], h) Q := t_go k_236_93 rfl
theorem k_236_94 : lk 236 94 = some (.if_icmp .ne 14, 97, 108, 0, .null) := by decide +kernel
theorem x_236_94 : Tr sc d 236 (94, [l0, l1, l2, l3, l4, l5, l6, l7, l8, l9, l10, l11, l12, l13, l14, l15, l16, l17, l18, l19, l20, l21], [.int i1, .int i0], h) Q = if i0 = i1 then Tr sc d 236 (97, [l0, l1, l2, l3, l4, l5, l6, l7, l8, l9, l10, l11, l12, l13, l14, l15, l16, l17, l18, l19, l20, l21], [], h) Q else Tr sc d 236 (108, [l0, l1, l2, l3, l4, l5, l6, l7, l8, l9, l10, l11, l12, l13, l14, l15, l16, l17, l18, l19, l20, l21], [], h) Q := t_if k_236_94 rfl
theorem k_236_97 : lk 236 97 = some (.aload_n 0, 98, 0, 0, .null) := by decide +kernel
theorem x_236_97 : Tr sc d 236 (97, [some (.ref xk), l1, l2, l3, l4, l5, l6, l7, l8, l9, l10, l11, l12, l13, l14, l15, l16, l17, l18, l19, l20, l21], [], h) Q = Tr sc d 236 (98, [some (.ref xk), l1, l2, l3, l4, l5, l6, l7, l8, l9, l10, l11, l12, l13, l14, l15, l16, l17, l18, l19, l20, l21], [.ref xk], h) Q := t_aload_n k_236_97 rfl
theorem k_236_98 : lk 236 98 = some (.getfield 53, 101, 10, 22, .null) := by decide +kernel
theorem x_236_98 : Tr sc d 236 (98, [l0, l1, l2, l3, l4, l5, l6, l7, l8, l9, l10, l11, l12, l13, l14, l15, l16, l17, l18, l19, l20, l21], [.ref k0], h) Q = (okp h k0 10 = true ∧ ∃ q, hR h k0 22 = some q ∧ Tr sc d 236 (101, [l0, l1, l2, l3, l4, l5, l6, l7, l8, l9, l10, l11, l12, l13, l14, l15, l16, l17, l18, l19, l20, l21], [.ref q], h) Q) := t_getr k_236_98
theorem k_236_101 : lk 236 101 = some (.iload 19, 103, 19, 0, .null) := by decide +kernel
theorem x_236_101 : Tr sc d 236 (101, [l0, l1, l2, l3, l4, l5, l6, l7, l8, l9, l10, l11, l12, l13, l14, l15, l16, l17, l18, some (.int x), l20, l21], [.ref k0], h) Q = Tr sc d 236 (103, [l0, l1, l2, l3, l4, l5, l6, l7, l8, l9, l10, l11, l12, l13, l14, l15, l16, l17, l18, some (.int x), l20, l21], [.int x, .ref k0], h) Q := t_iload k_236_101 rfl
theorem k_236_103 : lk 236 103 = some (.iaload, 104, 0, 0, .null) := by decide +kernel
theorem x_236_103 : Tr sc d 236 (103, [l0, l1, l2, l3, l4, l5, l6, l7, l8, l9, l10, l11, l12, l13, l14, l15, l16, l17, l18, l19, l20, l21], [.int i1, .ref k0], h) Q = (iOk sc h k0 i1 ∧ Tr sc d 236 (104, [l0, l1, l2, l3, l4, l5, l6, l7, l8, l9, l10, l11, l12, l13, l14, l15, l16, l17, l18, l19, l20, l21], [.int (iRd sc h k0 i1)], h) Q) := t_iald k_236_103
theorem k_236_104 : lk 236 104 = some (.i2l, 105, 0, 0, .null) := by decide +kernel
theorem x_236_104 : Tr sc d 236 (104, [l0, l1, l2, l3, l4, l5, l6, l7, l8, l9, l10, l11, l12, l13, l14, l15, l16, l17, l18, l19, l20, l21], [.int i0], h) Q = Tr sc d 236 (105, [l0, l1, l2, l3, l4, l5, l6, l7, l8, l9, l10, l11, l12, l13, l14, l15, l16, l17, l18, l19, l20, l21], [.long i0.toInt64], h) Q := t_go k_236_104 rfl
theorem k_236_105 : lk 236 105 = some (.goto 4, 108, 109, 0, .null) := by decide +kernel
theorem x_236_105 : Tr sc d 236 (105, [l0, l1, l2, l3, l4, l5, l6, l7, l8, l9, l10, l11, l12, l13, l14, l15, l16, l17, l18, l19, l20, l21], [.long j0], h) Q = Tr sc d 236 (109, [l0, l1, l2, l3, l4, l5, l6, l7, l8, l9, l10, l11, l12, l13, l14, l15, l16, l17, l18, l19, l20, l21], [.long j0], h) Q := t_go k_236_105 rfl
theorem k_236_108 : lk 236 108 = some (.lconst 1, 109, 0, 0, .long 1) := by decide +kernel
theorem x_236_108 : Tr sc d 236 (108, [l0, l1, l2, l3, l4, l5, l6, l7, l8, l9, l10, l11, l12, l13, l14, l15, l16, l17, l18, l19, l20, l21], [], h) Q = Tr sc d 236 (109, [l0, l1, l2, l3, l4, l5, l6, l7, l8, l9, l10, l11, l12, l13, l14, l15, l16, l17, l18, l19, l20, l21], [.long 1], h) Q := t_go k_236_108 rfl
theorem k_236_109 : lk 236 109 = some (.lstore 20, 111, 20, 0, .null) := by decide +kernel
theorem x_236_109 : Tr sc d 236 (109, [l0, l1, l2, l3, l4, l5, l6, l7, l8, l9, l10, l11, l12, l13, l14, l15, l16, l17, l18, l19, l20, l21], [.long j0], h) Q = Tr sc d 236 (111, [l0, l1, l2, l3, l4, l5, l6, l7, l8, l9, l10, l11, l12, l13, l14, l15, l16, l17, l18, cl2 l19, some (.long j0), none], [], h) Q := t_lstore k_236_109 (Nat.le_of_ble_eq_true rfl)
theorem k_236_111 : lk 236 111 = some (.lload 6, 113, 6, 0, .null) := by decide +kernel
theorem x_236_111 : Tr sc d 236 (111, [l0, l1, l2, l3, l4, l5, some (.long xl), l7, l8, l9, l10, l11, l12, l13, l14, l15, l16, l17, l18, l19, l20, l21], [], h) Q = Tr sc d 236 (113, [l0, l1, l2, l3, l4, l5, some (.long xl), l7, l8, l9, l10, l11, l12, l13, l14, l15, l16, l17, l18, l19, l20, l21], [.long xl], h) Q := t_lload k_236_111 rfl
theorem k_236_113 : lk 236 113 = some (.lload 20, 115, 20, 0, .null) := by decide +kernel
theorem x_236_113 : Tr sc d 236 (113, [l0, l1, l2, l3, l4, l5, l6, l7, l8, l9, l10, l11, l12, l13, l14, l15, l16, l17, l18, l19, some (.long xl), l21], [.long j0], h) Q = Tr sc d 236 (115, [l0, l1, l2, l3, l4, l5, l6, l7, l8, l9, l10, l11, l12, l13, l14, l15, l16, l17, l18, l19, some (.long xl), l21], [.long xl, .long j0], h) Q := t_lload k_236_113 rfl
theorem k_236_115 : lk 236 115 = some (.aload_n 0, 116, 0, 0, .null) := by decide +kernel
theorem x_236_115 : Tr sc d 236 (115, [some (.ref xk), l1, l2, l3, l4, l5, l6, l7, l8, l9, l10, l11, l12, l13, l14, l15, l16, l17, l18, l19, l20, l21], [.long j1, .long j0], h) Q = Tr sc d 236 (116, [some (.ref xk), l1, l2, l3, l4, l5, l6, l7, l8, l9, l10, l11, l12, l13, l14, l15, l16, l17, l18, l19, l20, l21], [.ref xk, .long j1, .long j0], h) Q := t_aload_n k_236_115 rfl
theorem k_236_116 : lk 236 116 = some (.getfield 44, 119, 10, 19, .null) := by decide +kernel
theorem x_236_116 : Tr sc d 236 (116, [l0, l1, l2, l3, l4, l5, l6, l7, l8, l9, l10, l11, l12, l13, l14, l15, l16, l17, l18, l19, l20, l21], [.ref k2, .long j1, .long j0], h) Q = (okp h k2 10 = true ∧ ∃ q, hR h k2 19 = some q ∧ Tr sc d 236 (119, [l0, l1, l2, l3, l4, l5, l6, l7, l8, l9, l10, l11, l12, l13, l14, l15, l16, l17, l18, l19, l20, l21], [.ref q, .long j1, .long j0], h) Q) := t_getr k_236_116
theorem k_236_119 : lk 236 119 = some (.iload 19, 121, 19, 0, .null) := by decide +kernel
theorem x_236_119 : Tr sc d 236 (119, [l0, l1, l2, l3, l4, l5, l6, l7, l8, l9, l10, l11, l12, l13, l14, l15, l16, l17, l18, some (.int x), l20, l21], [.ref k2, .long j1, .long j0], h) Q = Tr sc d 236 (121, [l0, l1, l2, l3, l4, l5, l6, l7, l8, l9, l10, l11, l12, l13, l14, l15, l16, l17, l18, some (.int x), l20, l21], [.int x, .ref k2, .long j1, .long j0], h) Q := t_iload k_236_119 rfl
theorem k_236_121 : lk 236 121 = some (.iaload, 122, 0, 0, .null) := by decide +kernel
theorem x_236_121 : Tr sc d 236 (121, [l0, l1, l2, l3, l4, l5, l6, l7, l8, l9, l10, l11, l12, l13, l14, l15, l16, l17, l18, l19, l20, l21], [.int i3, .ref k2, .long j1, .long j0], h) Q = (iOk sc h k2 i3 ∧ Tr sc d 236 (122, [l0, l1, l2, l3, l4, l5, l6, l7, l8, l9, l10, l11, l12, l13, l14, l15, l16, l17, l18, l19, l20, l21], [.int (iRd sc h k2 i3), .long j1, .long j0], h) Q) := t_iald k_236_121
theorem k_236_122 : lk 236 122 = some (.iconst 1, 123, 0, 0, .int 1) := by decide +kernel
theorem x_236_122 : Tr sc d 236 (122, [l0, l1, l2, l3, l4, l5, l6, l7, l8, l9, l10, l11, l12, l13, l14, l15, l16, l17, l18, l19, l20, l21], [.int i2, .long j1, .long j0], h) Q = Tr sc d 236 (123, [l0, l1, l2, l3, l4, l5, l6, l7, l8, l9, l10, l11, l12, l13, l14, l15, l16, l17, l18, l19, l20, l21], [.int 1, .int i2, .long j1, .long j0], h) Q := t_go k_236_122 rfl
theorem k_236_123 : lk 236 123 = some (.iconst 0, 124, 0, 0, .int 0) := by decide +kernel
theorem x_236_123 : Tr sc d 236 (123, [l0, l1, l2, l3, l4, l5, l6, l7, l8, l9, l10, l11, l12, l13, l14, l15, l16, l17, l18, l19, l20, l21], [.int i3, .int i2, .long j1, .long j0], h) Q = Tr sc d 236 (124, [l0, l1, l2, l3, l4, l5, l6, l7, l8, l9, l10, l11, l12, l13, l14, l15, l16, l17, l18, l19, l20, l21], [.int 0, .int i3, .int i2, .long j1, .long j0], h) Q := t_go k_236_123 rfl
theorem k_236_124 : lk 236 124 = some (.invokestatic 250, 127, 178, 3, .null) := by decide +kernel
theorem x_236_124 : Tr sc (d + 1) 236 (124, [l0, l1, l2, l3, l4, l5, l6, l7, l8, l9, l10, l11, l12, l13, l14, l15, l16, l17, l18, l19, l20, l21], [.int i4, .int i3, .int i2, .long j1, .long j0], h) Q = Tr sc d 178 (ent0 178 [.int i2, .int i3, .int i4] h) (fun z => Tr sc (d + 1) 236 (127, [l0, l1, l2, l3, l4, l5, l6, l7, l8, l9, l10, l11, l12, l13, l14, l15, l16, l17, l18, l19, l20, l21], z.1.toList ++ [.long j1, .long j0], z.2) Q) := t_cs (as := [.int i2, .int i3, .int i4]) (r := [.long j1, .long j0]) k_236_124 (by decide) rfl rfl (Nat.le_of_ble_eq_true rfl) (Nat.le_of_ble_eq_true rfl)
theorem k_236_127 : lk 236 127 = some (.i2l, 128, 0, 0, .null) := by decide +kernel
theorem x_236_127 : Tr sc d 236 (127, [l0, l1, l2, l3, l4, l5, l6, l7, l8, l9, l10, l11, l12, l13, l14, l15, l16, l17, l18, l19, l20, l21], [.int i2, .long j1, .long j0], h) Q = Tr sc d 236 (128, [l0, l1, l2, l3, l4, l5, l6, l7, l8, l9, l10, l11, l12, l13, l14, l15, l16, l17, l18, l19, l20, l21], [.long i2.toInt64, .long j1, .long j0], h) Q := t_go k_236_127 rfl
theorem k_236_128 : lk 236 128 = some (.lmul, 129, 0, 0, .null) := by decide +kernel
theorem x_236_128 : Tr sc d 236 (128, [l0, l1, l2, l3, l4, l5, l6, l7, l8, l9, l10, l11, l12, l13, l14, l15, l16, l17, l18, l19, l20, l21], [.long j2, .long j1, .long j0], h) Q = Tr sc d 236 (129, [l0, l1, l2, l3, l4, l5, l6, l7, l8, l9, l10, l11, l12, l13, l14, l15, l16, l17, l18, l19, l20, l21], [.long (j1 * j2), .long j0], h) Q := t_go k_236_128 rfl
theorem k_236_129 : lk 236 129 = some (.lsub, 130, 0, 0, .null) := by decide +kernel
theorem x_236_129 : Tr sc d 236 (129, [l0, l1, l2, l3, l4, l5, l6, l7, l8, l9, l10, l11, l12, l13, l14, l15, l16, l17, l18, l19, l20, l21], [.long j1, .long j0], h) Q = Tr sc d 236 (130, [l0, l1, l2, l3, l4, l5, l6, l7, l8, l9, l10, l11, l12, l13, l14, l15, l16, l17, l18, l19, l20, l21], [.long (j0 - j1)], h) Q := t_go k_236_129 rfl
theorem k_236_130 : lk 236 130 = some (.lstore 6, 132, 6, 0, .null) := by decide +kernel
theorem x_236_130 : Tr sc d 236 (130, [l0, l1, l2, l3, l4, l5, l6, l7, l8, l9, l10, l11, l12, l13, l14, l15, l16, l17, l18, l19, l20, l21], [.long j0], h) Q = Tr sc d 236 (132, [l0, l1, l2, l3, l4, cl2 l5, some (.long j0), none, l8, l9, l10, l11, l12, l13, l14, l15, l16, l17, l18, l19, l20, l21], [], h) Q := t_lstore k_236_130 (Nat.le_of_ble_eq_true rfl)
theorem k_236_132 : lk 236 132 = some (.lload 10, 134, 10, 0, .null) := by decide +kernel
theorem x_236_132 : Tr sc d 236 (132, [l0, l1, l2, l3, l4, l5, l6, l7, l8, l9, some (.long xl), l11, l12, l13, l14, l15, l16, l17, l18, l19, l20, l21], [], h) Q = Tr sc d 236 (134, [l0, l1, l2, l3, l4, l5, l6, l7, l8, l9, some (.long xl), l11, l12, l13, l14, l15, l16, l17, l18, l19, l20, l21], [.long xl], h) Q := t_lload k_236_132 rfl
theorem k_236_134 : lk 236 134 = some (.lload 20, 136, 20, 0, .null) := by decide +kernel
theorem x_236_134 : Tr sc d 236 (134, [l0, l1, l2, l3, l4, l5, l6, l7, l8, l9, l10, l11, l12, l13, l14, l15, l16, l17, l18, l19, some (.long xl), l21], [.long j0], h) Q = Tr sc d 236 (136, [l0, l1, l2, l3, l4, l5, l6, l7, l8, l9, l10, l11, l12, l13, l14, l15, l16, l17, l18, l19, some (.long xl), l21], [.long xl, .long j0], h) Q := t_lload k_236_134 rfl
theorem k_236_136 : lk 236 136 = some (.aload_n 0, 137, 0, 0, .null) := by decide +kernel
theorem x_236_136 : Tr sc d 236 (136, [some (.ref xk), l1, l2, l3, l4, l5, l6, l7, l8, l9, l10, l11, l12, l13, l14, l15, l16, l17, l18, l19, l20, l21], [.long j1, .long j0], h) Q = Tr sc d 236 (137, [some (.ref xk), l1, l2, l3, l4, l5, l6, l7, l8, l9, l10, l11, l12, l13, l14, l15, l16, l17, l18, l19, l20, l21], [.ref xk, .long j1, .long j0], h) Q := t_aload_n k_236_136 rfl
theorem k_236_137 : lk 236 137 = some (.getfield 44, 140, 10, 19, .null) := by decide +kernel
theorem x_236_137 : Tr sc d 236 (137, [l0, l1, l2, l3, l4, l5, l6, l7, l8, l9, l10, l11, l12, l13, l14, l15, l16, l17, l18, l19, l20, l21], [.ref k2, .long j1, .long j0], h) Q = (okp h k2 10 = true ∧ ∃ q, hR h k2 19 = some q ∧ Tr sc d 236 (140, [l0, l1, l2, l3, l4, l5, l6, l7, l8, l9, l10, l11, l12, l13, l14, l15, l16, l17, l18, l19, l20, l21], [.ref q, .long j1, .long j0], h) Q) := t_getr k_236_137
theorem k_236_140 : lk 236 140 = some (.iload 19, 142, 19, 0, .null) := by decide +kernel
theorem x_236_140 : Tr sc d 236 (140, [l0, l1, l2, l3, l4, l5, l6, l7, l8, l9, l10, l11, l12, l13, l14, l15, l16, l17, l18, some (.int x), l20, l21], [.ref k2, .long j1, .long j0], h) Q = Tr sc d 236 (142, [l0, l1, l2, l3, l4, l5, l6, l7, l8, l9, l10, l11, l12, l13, l14, l15, l16, l17, l18, some (.int x), l20, l21], [.int x, .ref k2, .long j1, .long j0], h) Q := t_iload k_236_140 rfl
theorem k_236_142 : lk 236 142 = some (.iaload, 143, 0, 0, .null) := by decide +kernel
theorem x_236_142 : Tr sc d 236 (142, [l0, l1, l2, l3, l4, l5, l6, l7, l8, l9, l10, l11, l12, l13, l14, l15, l16, l17, l18, l19, l20, l21], [.int i3, .ref k2, .long j1, .long j0], h) Q = (iOk sc h k2 i3 ∧ Tr sc d 236 (143, [l0, l1, l2, l3, l4, l5, l6, l7, l8, l9, l10, l11, l12, l13, l14, l15, l16, l17, l18, l19, l20, l21], [.int (iRd sc h k2 i3), .long j1, .long j0], h) Q) := t_iald k_236_142
theorem k_236_143 : lk 236 143 = some (.iconst 1, 144, 0, 0, .int 1) := by decide +kernel
theorem x_236_143 : Tr sc d 236 (143, [l0, l1, l2, l3, l4, l5, l6, l7, l8, l9, l10, l11, l12, l13, l14, l15, l16, l17, l18, l19, l20, l21], [.int i2, .long j1, .long j0], h) Q = Tr sc d 236 (144, [l0, l1, l2, l3, l4, l5, l6, l7, l8, l9, l10, l11, l12, l13, l14, l15, l16, l17, l18, l19, l20, l21], [.int 1, .int i2, .long j1, .long j0], h) Q := t_go k_236_143 rfl
theorem k_236_144 : lk 236 144 = some (.iconst 0, 145, 0, 0, .int 0) := by decide +kernel
theorem x_236_144 : Tr sc d 236 (144, [l0, l1, l2, l3, l4, l5, l6, l7, l8, l9, l10, l11, l12, l13, l14, l15, l16, l17, l18, l19, l20, l21], [.int i3, .int i2, .long j1, .long j0], h) Q = Tr sc d 236 (145, [l0, l1, l2, l3, l4, l5, l6, l7, l8, l9, l10, l11, l12, l13, l14, l15, l16, l17, l18, l19, l20, l21], [.int 0, .int i3, .int i2, .long j1, .long j0], h) Q := t_go k_236_144 rfl
theorem k_236_145 : lk 236 145 = some (.invokestatic 254, 148, 179, 3, .null) := by decide +kernel
theorem x_236_145 : Tr sc (d + 1) 236 (145, [l0, l1, l2, l3, l4, l5, l6, l7, l8, l9, l10, l11, l12, l13, l14, l15, l16, l17, l18, l19, l20, l21], [.int i4, .int i3, .int i2, .long j1, .long j0], h) Q = Tr sc d 179 (ent0 179 [.int i2, .int i3, .int i4] h) (fun z => Tr sc (d + 1) 236 (148, [l0, l1, l2, l3, l4, l5, l6, l7, l8, l9, l10, l11, l12, l13, l14, l15, l16, l17, l18, l19, l20, l21], z.1.toList ++ [.long j1, .long j0], z.2) Q) := t_cs (as := [.int i2, .int i3, .int i4]) (r := [.long j1, .long j0]) k_236_145 (by decide) rfl rfl (Nat.le_of_ble_eq_true rfl) (Nat.le_of_ble_eq_true rfl)
theorem k_236_148 : lk 236 148 = some (.i2l, 149, 0, 0, .null) := by decide +kernel
theorem x_236_148 : Tr sc d 236 (148, [l0, l1, l2, l3, l4, l5, l6, l7, l8, l9, l10, l11, l12, l13, l14, l15, l16, l17, l18, l19, l20, l21], [.int i2, .long j1, .long j0], h) Q = Tr sc d 236 (149, [l0, l1, l2, l3, l4, l5, l6, l7, l8, l9, l10, l11, l12, l13, l14, l15, l16, l17, l18, l19, l20, l21], [.long i2.toInt64, .long j1, .long j0], h) Q := t_go k_236_148 rfl
theorem k_236_149 : lk 236 149 = some (.lmul, 150, 0, 0, .null) := by decide +kernel
theorem x_236_149 : Tr sc d 236 (149, [l0, l1, l2, l3, l4, l5, l6, l7, l8, l9, l10, l11, l12, l13, l14, l15, l16, l17, l18, l19, l20, l21], [.long j2, .long j1, .long j0], h) Q = Tr sc d 236 (150, [l0, l1, l2, l3, l4, l5, l6, l7, l8, l9, l10, l11, l12, l13, l14, l15, l16, l17, l18, l19, l20, l21], [.long (j1 * j2), .long j0], h) Q := t_go k_236_149 rfl
theorem k_236_150 : lk 236 150 = some (.lsub, 151, 0, 0, .null) := by decide +kernel
theorem x_236_150 : Tr sc d 236 (150, [l0, l1, l2, l3, l4, l5, l6, l7, l8, l9, l10, l11, l12, l13, l14, l15, l16, l17, l18, l19, l20, l21], [.long j1, .long j0], h) Q = Tr sc d 236 (151, [l0, l1, l2, l3, l4, l5, l6, l7, l8, l9, l10, l11, l12, l13, l14, l15, l16, l17, l18, l19, l20, l21], [.long (j0 - j1)], h) Q := t_go k_236_150 rfl
theorem k_236_151 : lk 236 151 = some (.lstore 10, 153, 10, 0, .null) := by decide +kernel
theorem x_236_151 : Tr sc d 236 (151, [l0, l1, l2, l3, l4, l5, l6, l7, l8, l9, l10, l11, l12, l13, l14, l15, l16, l17, l18, l19, l20, l21], [.long j0], h) Q = Tr sc d 236 (153, [l0, l1, l2, l3, l4, l5, l6, l7, l8, cl2 l9, some (.long j0), none, l12, l13, l14, l15, l16, l17, l18, l19, l20, l21], [], h) Q := t_lstore k_236_151 (Nat.le_of_ble_eq_true rfl)
theorem k_236_153 : lk 236 153 = some (.lload 8, 155, 8, 0, .null) := by decide +kernel
theorem x_236_153 : Tr sc d 236 (153, [l0, l1, l2, l3, l4, l5, l6, l7, some (.long xl), l9, l10, l11, l12, l13, l14, l15, l16, l17, l18, l19, l20, l21], [], h) Q = Tr sc d 236 (155, [l0, l1, l2, l3, l4, l5, l6, l7, some (.long xl), l9, l10, l11, l12, l13, l14, l15, l16, l17, l18, l19, l20, l21], [.long xl], h) Q := t_lload k_236_153 rfl
theorem k_236_155 : lk 236 155 = some (.lload 20, 157, 20, 0, .null) := by decide +kernel
theorem x_236_155 : Tr sc d 236 (155, [l0, l1, l2, l3, l4, l5, l6, l7, l8, l9, l10, l11, l12, l13, l14, l15, l16, l17, l18, l19, some (.long xl), l21], [.long j0], h) Q = Tr sc d 236 (157, [l0, l1, l2, l3, l4, l5, l6, l7, l8, l9, l10, l11, l12, l13, l14, l15, l16, l17, l18, l19, some (.long xl), l21], [.long xl, .long j0], h) Q := t_lload k_236_155 rfl
theorem k_236_157 : lk 236 157 = some (.aload_n 0, 158, 0, 0, .null) := by decide +kernel
theorem x_236_157 : Tr sc d 236 (157, [some (.ref xk), l1, l2, l3, l4, l5, l6, l7, l8, l9, l10, l11, l12, l13, l14, l15, l16, l17, l18, l19, l20, l21], [.long j1, .long j0], h) Q = Tr sc d 236 (158, [some (.ref xk), l1, l2, l3, l4, l5, l6, l7, l8, l9, l10, l11, l12, l13, l14, l15, l16, l17, l18, l19, l20, l21], [.ref xk, .long j1, .long j0], h) Q := t_aload_n k_236_157 rfl
theorem k_236_158 : lk 236 158 = some (.getfield 44, 161, 10, 19, .null) := by decide +kernel
theorem x_236_158 : Tr sc d 236 (158, [l0, l1, l2, l3, l4, l5, l6, l7, l8, l9, l10, l11, l12, l13, l14, l15, l16, l17, l18, l19, l20, l21], [.ref k2, .long j1, .long j0], h) Q = (okp h k2 10 = true ∧ ∃ q, hR h k2 19 = some q ∧ Tr sc d 236 (161, [l0, l1, l2, l3, l4, l5, l6, l7, l8, l9, l10, l11, l12, l13, l14, l15, l16, l17, l18, l19, l20, l21], [.ref q, .long j1, .long j0], h) Q) := t_getr k_236_158
theorem k_236_161 : lk 236 161 = some (.iload 19, 163, 19, 0, .null) := by decide +kernel
theorem x_236_161 : Tr sc d 236 (161, [l0, l1, l2, l3, l4, l5, l6, l7, l8, l9, l10, l11, l12, l13, l14, l15, l16, l17, l18, some (.int x), l20, l21], [.ref k2, .long j1, .long j0], h) Q = Tr sc d 236 (163, [l0, l1, l2, l3, l4, l5, l6, l7, l8, l9, l10, l11, l12, l13, l14, l15, l16, l17, l18, some (.int x), l20, l21], [.int x, .ref k2, .long j1, .long j0], h) Q := t_iload k_236_161 rfl
theorem k_236_163 : lk 236 163 = some (.iaload, 164, 0, 0, .null) := by decide +kernel
theorem x_236_163 : Tr sc d 236 (163, [l0, l1, l2, l3, l4, l5, l6, l7, l8, l9, l10, l11, l12, l13, l14, l15, l16, l17, l18, l19, l20, l21], [.int i3, .ref k2, .long j1, .long j0], h) Q = (iOk sc h k2 i3 ∧ Tr sc d 236 (164, [l0, l1, l2, l3, l4, l5, l6, l7, l8, l9, l10, l11, l12, l13, l14, l15, l16, l17, l18, l19, l20, l21], [.int (iRd sc h k2 i3), .long j1, .long j0], h) Q) := t_iald k_236_163
theorem k_236_164 : lk 236 164 = some (.iconst 0, 165, 0, 0, .int 0) := by decide +kernel
theorem x_236_164 : Tr sc d 236 (164, [l0, l1, l2, l3, l4, l5, l6, l7, l8, l9, l10, l11, l12, l13, l14, l15, l16, l17, l18, l19, l20, l21], [.int i2, .long j1, .long j0], h) Q = Tr sc d 236 (165, [l0, l1, l2, l3, l4, l5, l6, l7, l8, l9, l10, l11, l12, l13, l14, l15, l16, l17, l18, l19, l20, l21], [.int 0, .int i2, .long j1, .long j0], h) Q := t_go k_236_164 rfl
theorem k_236_165 : lk 236 165 = some (.iconst 1, 166, 0, 0, .int 1) := by decide +kernel
theorem x_236_165 : Tr sc d 236 (165, [l0, l1, l2, l3, l4, l5, l6, l7, l8, l9, l10, l11, l12, l13, l14, l15, l16, l17, l18, l19, l20, l21], [.int i3, .int i2, .long j1, .long j0], h) Q = Tr sc d 236 (166, [l0, l1, l2, l3, l4, l5, l6, l7, l8, l9, l10, l11, l12, l13, l14, l15, l16, l17, l18, l19, l20, l21], [.int 1, .int i3, .int i2, .long j1, .long j0], h) Q := t_go k_236_165 rfl
theorem k_236_166 : lk 236 166 = some (.invokestatic 250, 169, 178, 3, .null) := by decide +kernel
theorem x_236_166 : Tr sc (d + 1) 236 (166, [l0, l1, l2, l3, l4, l5, l6, l7, l8, l9, l10, l11, l12, l13, l14, l15, l16, l17, l18, l19, l20, l21], [.int i4, .int i3, .int i2, .long j1, .long j0], h) Q = Tr sc d 178 (ent0 178 [.int i2, .int i3, .int i4] h) (fun z => Tr sc (d + 1) 236 (169, [l0, l1, l2, l3, l4, l5, l6, l7, l8, l9, l10, l11, l12, l13, l14, l15, l16, l17, l18, l19, l20, l21], z.1.toList ++ [.long j1, .long j0], z.2) Q) := t_cs (as := [.int i2, .int i3, .int i4]) (r := [.long j1, .long j0]) k_236_166 (by decide) rfl rfl (Nat.le_of_ble_eq_true rfl) (Nat.le_of_ble_eq_true rfl)
theorem k_236_169 : lk 236 169 = some (.i2l, 170, 0, 0, .null) := by decide +kernel
theorem x_236_169 : Tr sc d 236 (169, [l0, l1, l2, l3, l4, l5, l6, l7, l8, l9, l10, l11, l12, l13, l14, l15, l16, l17, l18, l19, l20, l21], [.int i2, .long j1, .long j0], h) Q = Tr sc d 236 (170, [l0, l1, l2, l3, l4, l5, l6, l7, l8, l9, l10, l11, l12, l13, l14, l15, l16, l17, l18, l19, l20, l21], [.long i2.toInt64, .long j1, .long j0], h) Q := t_go k_236_169 rfl
theorem k_236_170 : lk 236 170 = some (.lmul, 171, 0, 0, .null) := by decide +kernel
theorem x_236_170 : Tr sc d 236 (170, [l0, l1, l2, l3, l4, l5, l6, l7, l8, l9, l10, l11, l12, l13, l14, l15, l16, l17, l18, l19, l20, l21], [.long j2, .long j1, .long j0], h) Q = Tr sc d 236 (171, [l0, l1, l2, l3, l4, l5, l6, l7, l8, l9, l10, l11, l12, l13, l14, l15, l16, l17, l18, l19, l20, l21], [.long (j1 * j2), .long j0], h) Q := t_go k_236_170 rfl
theorem k_236_171 : lk 236 171 = some (.lsub, 172, 0, 0, .null) := by decide +kernel
theorem x_236_171 : Tr sc d 236 (171, [l0, l1, l2, l3, l4, l5, l6, l7, l8, l9, l10, l11, l12, l13, l14, l15, l16, l17, l18, l19, l20, l21], [.long j1, .long j0], h) Q = Tr sc d 236 (172, [l0, l1, l2, l3, l4, l5, l6, l7, l8, l9, l10, l11, l12, l13, l14, l15, l16, l17, l18, l19, l20, l21], [.long (j0 - j1)], h) Q := t_go k_236_171 rfl
theorem k_236_172 : lk 236 172 = some (.lstore 8, 174, 8, 0, .null) := by decide +kernel
theorem x_236_172 : Tr sc d 236 (172, [l0, l1, l2, l3, l4, l5, l6, l7, l8, l9, l10, l11, l12, l13, l14, l15, l16, l17, l18, l19, l20, l21], [.long j0], h) Q = Tr sc d 236 (174, [l0, l1, l2, l3, l4, l5, l6, cl2 l7, some (.long j0), none, l10, l11, l12, l13, l14, l15, l16, l17, l18, l19, l20, l21], [], h) Q := t_lstore k_236_172 (Nat.le_of_ble_eq_true rfl)
theorem k_236_174 : lk 236 174 = some (.lload 12, 176, 12, 0, .null) := by decide +kernel
theorem x_236_174 : Tr sc d 236 (174, [l0, l1, l2, l3, l4, l5, l6, l7, l8, l9, l10, l11, some (.long xl), l13, l14, l15, l16, l17, l18, l19, l20, l21], [], h) Q = Tr sc d 236 (176, [l0, l1, l2, l3, l4, l5, l6, l7, l8, l9, l10, l11, some (.long xl), l13, l14, l15, l16, l17, l18, l19, l20, l21], [.long xl], h) Q := t_lload k_236_174 rfl
theorem k_236_176 : lk 236 176 = some (.lload 20, 178, 20, 0, .null) := by decide +kernel
theorem x_236_176 : Tr sc d 236 (176, [l0, l1, l2, l3, l4, l5, l6, l7, l8, l9, l10, l11, l12, l13, l14, l15, l16, l17, l18, l19, some (.long xl), l21], [.long j0], h) Q = Tr sc d 236 (178, [l0, l1, l2, l3, l4, l5, l6, l7, l8, l9, l10, l11, l12, l13, l14, l15, l16, l17, l18, l19, some (.long xl), l21], [.long xl, .long j0], h) Q := t_lload k_236_176 rfl
theorem k_236_178 : lk 236 178 = some (.aload_n 0, 179, 0, 0, .null) := by decide +kernel
theorem x_236_178 : Tr sc d 236 (178, [some (.ref xk), l1, l2, l3, l4, l5, l6, l7, l8, l9, l10, l11, l12, l13, l14, l15, l16, l17, l18, l19, l20, l21], [.long j1, .long j0], h) Q = Tr sc d 236 (179, [some (.ref xk), l1, l2, l3, l4, l5, l6, l7, l8, l9, l10, l11, l12, l13, l14, l15, l16, l17, l18, l19, l20, l21], [.ref xk, .long j1, .long j0], h) Q := t_aload_n k_236_178 rfl
theorem k_236_179 : lk 236 179 = some (.getfield 44, 182, 10, 19, .null) := by decide +kernel
theorem x_236_179 : Tr sc d 236 (179, [l0, l1, l2, l3, l4, l5, l6, l7, l8, l9, l10, l11, l12, l13, l14, l15, l16, l17, l18, l19, l20, l21], [.ref k2, .long j1, .long j0], h) Q = (okp h k2 10 = true ∧ ∃ q, hR h k2 19 = some q ∧ Tr sc d 236 (182, [l0, l1, l2, l3, l4, l5, l6, l7, l8, l9, l10, l11, l12, l13, l14, l15, l16, l17, l18, l19, l20, l21], [.ref q, .long j1, .long j0], h) Q) := t_getr k_236_179
theorem k_236_182 : lk 236 182 = some (.iload 19, 184, 19, 0, .null) := by decide +kernel
theorem x_236_182 : Tr sc d 236 (182, [l0, l1, l2, l3, l4, l5, l6, l7, l8, l9, l10, l11, l12, l13, l14, l15, l16, l17, l18, some (.int x), l20, l21], [.ref k2, .long j1, .long j0], h) Q = Tr sc d 236 (184, [l0, l1, l2, l3, l4, l5, l6, l7, l8, l9, l10, l11, l12, l13, l14, l15, l16, l17, l18, some (.int x), l20, l21], [.int x, .ref k2, .long j1, .long j0], h) Q := t_iload k_236_182 rfl
theorem k_236_184 : lk 236 184 = some (.iaload, 185, 0, 0, .null) := by decide +kernel
theorem x_236_184 : Tr sc d 236 (184, [l0, l1, l2, l3, l4, l5, l6, l7, l8, l9, l10, l11, l12, l13, l14, l15, l16, l17, l18, l19, l20, l21], [.int i3, .ref k2, .long j1, .long j0], h) Q = (iOk sc h k2 i3 ∧ Tr sc d 236 (185, [l0, l1, l2, l3, l4, l5, l6, l7, l8, l9, l10, l11, l12, l13, l14, l15, l16, l17, l18, l19, l20, l21], [.int (iRd sc h k2 i3), .long j1, .long j0], h) Q) := t_iald k_236_184
theorem k_236_185 : lk 236 185 = some (.iconst 0, 186, 0, 0, .int 0) := by decide +kernel
theorem x_236_185 : Tr sc d 236 (185, [l0, l1, l2, l3, l4, l5, l6, l7, l8, l9, l10, l11, l12, l13, l14, l15, l16, l17, l18, l19, l20, l21], [.int i2, .long j1, .long j0], h) Q = Tr sc d 236 (186, [l0, l1, l2, l3, l4, l5, l6, l7, l8, l9, l10, l11, l12, l13, l14, l15, l16, l17, l18, l19, l20, l21], [.int 0, .int i2, .long j1, .long j0], h) Q := t_go k_236_185 rfl
theorem k_236_186 : lk 236 186 = some (.iconst 1, 187, 0, 0, .int 1) := by decide +kernel
theorem x_236_186 : Tr sc d 236 (186, [l0, l1, l2, l3, l4, l5, l6, l7, l8, l9, l10, l11, l12, l13, l14, l15, l16, l17, l18, l19, l20, l21], [.int i3, .int i2, .long j1, .long j0], h) Q = Tr sc d 236 (187, [l0, l1, l2, l3, l4, l5, l6, l7, l8, l9, l10, l11, l12, l13, l14, l15, l16, l17, l18, l19, l20, l21], [.int 1, .int i3, .int i2, .long j1, .long j0], h) Q := t_go k_236_186 rfl
theorem k_236_187 : lk 236 187 = some (.invokestatic 254, 190, 179, 3, .null) := by decide +kernel
theorem x_236_187 : Tr sc (d + 1) 236 (187, [l0, l1, l2, l3, l4, l5, l6, l7, l8, l9, l10, l11, l12, l13, l14, l15, l16, l17, l18, l19, l20, l21], [.int i4, .int i3, .int i2, .long j1, .long j0], h) Q = Tr sc d 179 (ent0 179 [.int i2, .int i3, .int i4] h) (fun z => Tr sc (d + 1) 236 (190, [l0, l1, l2, l3, l4, l5, l6, l7, l8, l9, l10, l11, l12, l13, l14, l15, l16, l17, l18, l19, l20, l21], z.1.toList ++ [.long j1, .long j0], z.2) Q) := t_cs (as := [.int i2, .int i3, .int i4]) (r := [.long j1, .long j0]) k_236_187 (by decide) rfl rfl (Nat.le_of_ble_eq_true rfl) (Nat.le_of_ble_eq_true rfl)
theorem k_236_190 : lk 236 190 = some (.i2l, 191, 0, 0, .null) := by decide +kernel
theorem x_236_190 : Tr sc d 236 (190, [l0, l1, l2, l3, l4, l5, l6, l7, l8, l9, l10, l11, l12, l13, l14, l15, l16, l17, l18, l19, l20, l21], [.int i2, .long j1, .long j0], h) Q = Tr sc d 236 (191, [l0, l1, l2, l3, l4, l5, l6, l7, l8, l9, l10, l11, l12, l13, l14, l15, l16, l17, l18, l19, l20, l21], [.long i2.toInt64, .long j1, .long j0], h) Q := t_go k_236_190 rfl
theorem k_236_191 : lk 236 191 = some (.lmul, 192, 0, 0, .null) := by decide +kernel
theorem x_236_191 : Tr sc d 236 (191, [l0, l1, l2, l3, l4, l5, l6, l7, l8, l9, l10, l11, l12, l13, l14, l15, l16, l17, l18, l19, l20, l21], [.long j2, .long j1, .long j0], h) Q = Tr sc d 236 (192, [l0, l1, l2, l3, l4, l5, l6, l7, l8, l9, l10, l11, l12, l13, l14, l15, l16, l17, l18, l19, l20, l21], [.long (j1 * j2), .long j0], h) Q := t_go k_236_191 rfl
theorem k_236_192 : lk 236 192 = some (.lsub, 193, 0, 0, .null) := by decide +kernel
theorem x_236_192 : Tr sc d 236 (192, [l0, l1, l2, l3, l4, l5, l6, l7, l8, l9, l10, l11, l12, l13, l14, l15, l16, l17, l18, l19, l20, l21], [.long j1, .long j0], h) Q = Tr sc d 236 (193, [l0, l1, l2, l3, l4, l5, l6, l7, l8, l9, l10, l11, l12, l13, l14, l15, l16, l17, l18, l19, l20, l21], [.long (j0 - j1)], h) Q := t_go k_236_192 rfl
theorem k_236_193 : lk 236 193 = some (.lstore 12, 195, 12, 0, .null) := by decide +kernel
theorem x_236_193 : Tr sc d 236 (193, [l0, l1, l2, l3, l4, l5, l6, l7, l8, l9, l10, l11, l12, l13, l14, l15, l16, l17, l18, l19, l20, l21], [.long j0], h) Q = Tr sc d 236 (195, [l0, l1, l2, l3, l4, l5, l6, l7, l8, l9, l10, cl2 l11, some (.long j0), none, l14, l15, l16, l17, l18, l19, l20, l21], [], h) Q := t_lstore k_236_193 (Nat.le_of_ble_eq_true rfl)
theorem k_236_195 : lk 236 195 = some (.lload 14, 197, 14, 0, .null) := by decide +kernel
theorem x_236_195 : Tr sc d 236 (195, [l0, l1, l2, l3, l4, l5, l6, l7, l8, l9, l10, l11, l12, l13, some (.long xl), l15, l16, l17, l18, l19, l20, l21], [], h) Q = Tr sc d 236 (197, [l0, l1, l2, l3, l4, l5, l6, l7, l8, l9, l10, l11, l12, l13, some (.long xl), l15, l16, l17, l18, l19, l20, l21], [.long xl], h) Q := t_lload k_236_195 rfl
theorem k_236_197 : lk 236 197 = some (.lload 20, 199, 20, 0, .null) := by decide +kernel
theorem x_236_197 : Tr sc d 236 (197, [l0, l1, l2, l3, l4, l5, l6, l7, l8, l9, l10, l11, l12, l13, l14, l15, l16, l17, l18, l19, some (.long xl), l21], [.long j0], h) Q = Tr sc d 236 (199, [l0, l1, l2, l3, l4, l5, l6, l7, l8, l9, l10, l11, l12, l13, l14, l15, l16, l17, l18, l19, some (.long xl), l21], [.long xl, .long j0], h) Q := t_lload k_236_197 rfl
theorem k_236_199 : lk 236 199 = some (.aload_n 0, 200, 0, 0, .null) := by decide +kernel
theorem x_236_199 : Tr sc d 236 (199, [some (.ref xk), l1, l2, l3, l4, l5, l6, l7, l8, l9, l10, l11, l12, l13, l14, l15, l16, l17, l18, l19, l20, l21], [.long j1, .long j0], h) Q = Tr sc d 236 (200, [some (.ref xk), l1, l2, l3, l4, l5, l6, l7, l8, l9, l10, l11, l12, l13, l14, l15, l16, l17, l18, l19, l20, l21], [.ref xk, .long j1, .long j0], h) Q := t_aload_n k_236_199 rfl
theorem k_236_200 : lk 236 200 = some (.getfield 47, 203, 10, 20, .null) := by decide +kernel
theorem x_236_200 : Tr sc d 236 (200, [l0, l1, l2, l3, l4, l5, l6, l7, l8, l9, l10, l11, l12, l13, l14, l15, l16, l17, l18, l19, l20, l21], [.ref k2, .long j1, .long j0], h) Q = (okp h k2 10 = true ∧ ∃ q, hR h k2 20 = some q ∧ Tr sc d 236 (203, [l0, l1, l2, l3, l4, l5, l6, l7, l8, l9, l10, l11, l12, l13, l14, l15, l16, l17, l18, l19, l20, l21], [.ref q, .long j1, .long j0], h) Q) := t_getr k_236_200
theorem k_236_203 : lk 236 203 = some (.iload 19, 205, 19, 0, .null) := by decide +kernel
theorem x_236_203 : Tr sc d 236 (203, [l0, l1, l2, l3, l4, l5, l6, l7, l8, l9, l10, l11, l12, l13, l14, l15, l16, l17, l18, some (.int x), l20, l21], [.ref k2, .long j1, .long j0], h) Q = Tr sc d 236 (205, [l0, l1, l2, l3, l4, l5, l6, l7, l8, l9, l10, l11, l12, l13, l14, l15, l16, l17, l18, some (.int x), l20, l21], [.int x, .ref k2, .long j1, .long j0], h) Q := t_iload k_236_203 rfl
theorem k_236_205 : lk 236 205 = some (.iaload, 206, 0, 0, .null) := by decide +kernel
theorem x_236_205 : Tr sc d 236 (205, [l0, l1, l2, l3, l4, l5, l6, l7, l8, l9, l10, l11, l12, l13, l14, l15, l16, l17, l18, l19, l20, l21], [.int i3, .ref k2, .long j1, .long j0], h) Q = (iOk sc h k2 i3 ∧ Tr sc d 236 (206, [l0, l1, l2, l3, l4, l5, l6, l7, l8, l9, l10, l11, l12, l13, l14, l15, l16, l17, l18, l19, l20, l21], [.int (iRd sc h k2 i3), .long j1, .long j0], h) Q) := t_iald k_236_205
theorem k_236_206 : lk 236 206 = some (.i2l, 207, 0, 0, .null) := by decide +kernel
theorem x_236_206 : Tr sc d 236 (206, [l0, l1, l2, l3, l4, l5, l6, l7, l8, l9, l10, l11, l12, l13, l14, l15, l16, l17, l18, l19, l20, l21], [.int i2, .long j1, .long j0], h) Q = Tr sc d 236 (207, [l0, l1, l2, l3, l4, l5, l6, l7, l8, l9, l10, l11, l12, l13, l14, l15, l16, l17, l18, l19, l20, l21], [.long i2.toInt64, .long j1, .long j0], h) Q := t_go k_236_206 rfl
theorem k_236_207 : lk 236 207 = some (.lmul, 208, 0, 0, .null) := by decide +kernel
theorem x_236_207 : Tr sc d 236 (207, [l0, l1, l2, l3, l4, l5, l6, l7, l8, l9, l10, l11, l12, l13, l14, l15, l16, l17, l18, l19, l20, l21], [.long j2, .long j1, .long j0], h) Q = Tr sc d 236 (208, [l0, l1, l2, l3, l4, l5, l6, l7, l8, l9, l10, l11, l12, l13, l14, l15, l16, l17, l18, l19, l20, l21], [.long (j1 * j2), .long j0], h) Q := t_go k_236_207 rfl
theorem k_236_208 : lk 236 208 = some (.ladd, 209, 0, 0, .null) := by decide +kernel
theorem x_236_208 : Tr sc d 236 (208, [l0, l1, l2, l3, l4, l5, l6, l7, l8, l9, l10, l11, l12, l13, l14, l15, l16, l17, l18, l19, l20, l21], [.long j1, .long j0], h) Q = Tr sc d 236 (209, [l0, l1, l2, l3, l4, l5, l6, l7, l8, l9, l10, l11, l12, l13, l14, l15, l16, l17, l18, l19, l20, l21], [.long (j0 + j1)], h) Q := t_go k_236_208 rfl
theorem k_236_209 : lk 236 209 = some (.lstore 14, 211, 14, 0, .null) := by decide +kernel
theorem x_236_209 : Tr sc d 236 (209, [l0, l1, l2, l3, l4, l5, l6, l7, l8, l9, l10, l11, l12, l13, l14, l15, l16, l17, l18, l19, l20, l21], [.long j0], h) Q = Tr sc d 236 (211, [l0, l1, l2, l3, l4, l5, l6, l7, l8, l9, l10, l11, l12, cl2 l13, some (.long j0), none, l16, l17, l18, l19, l20, l21], [], h) Q := t_lstore k_236_209 (Nat.le_of_ble_eq_true rfl)
theorem k_236_211 : lk 236 211 = some (.lload 16, 213, 16, 0, .null) := by decide +kernel
theorem x_236_211 : Tr sc d 236 (211, [l0, l1, l2, l3, l4, l5, l6, l7, l8, l9, l10, l11, l12, l13, l14, l15, some (.long xl), l17, l18, l19, l20, l21], [], h) Q = Tr sc d 236 (213, [l0, l1, l2, l3, l4, l5, l6, l7, l8, l9, l10, l11, l12, l13, l14, l15, some (.long xl), l17, l18, l19, l20, l21], [.long xl], h) Q := t_lload k_236_211 rfl
theorem k_236_213 : lk 236 213 = some (.lload 20, 215, 20, 0, .null) := by decide +kernel
theorem x_236_213 : Tr sc d 236 (213, [l0, l1, l2, l3, l4, l5, l6, l7, l8, l9, l10, l11, l12, l13, l14, l15, l16, l17, l18, l19, some (.long xl), l21], [.long j0], h) Q = Tr sc d 236 (215, [l0, l1, l2, l3, l4, l5, l6, l7, l8, l9, l10, l11, l12, l13, l14, l15, l16, l17, l18, l19, some (.long xl), l21], [.long xl, .long j0], h) Q := t_lload k_236_213 rfl
theorem k_236_215 : lk 236 215 = some (.aload_n 0, 216, 0, 0, .null) := by decide +kernel
theorem x_236_215 : Tr sc d 236 (215, [some (.ref xk), l1, l2, l3, l4, l5, l6, l7, l8, l9, l10, l11, l12, l13, l14, l15, l16, l17, l18, l19, l20, l21], [.long j1, .long j0], h) Q = Tr sc d 236 (216, [some (.ref xk), l1, l2, l3, l4, l5, l6, l7, l8, l9, l10, l11, l12, l13, l14, l15, l16, l17, l18, l19, l20, l21], [.ref xk, .long j1, .long j0], h) Q := t_aload_n k_236_215 rfl
theorem k_236_216 : lk 236 216 = some (.getfield 50, 219, 10, 21, .null) := by decide +kernel
theorem x_236_216 : Tr sc d 236 (216, [l0, l1, l2, l3, l4, l5, l6, l7, l8, l9, l10, l11, l12, l13, l14, l15, l16, l17, l18, l19, l20, l21], [.ref k2, .long j1, .long j0], h) Q = (okp h k2 10 = true ∧ ∃ q, hR h k2 21 = some q ∧ Tr sc d 236 (219, [l0, l1, l2, l3, l4, l5, l6, l7, l8, l9, l10, l11, l12, l13, l14, l15, l16, l17, l18, l19, l20, l21], [.ref q, .long j1, .long j0], h) Q) := t_getr k_236_216
theorem k_236_219 : lk 236 219 = some (.iload 19, 221, 19, 0, .null) := by decide +kernel
theorem x_236_219 : Tr sc d 236 (219, [l0, l1, l2, l3, l4, l5, l6, l7, l8, l9, l10, l11, l12, l13, l14, l15, l16, l17, l18, some (.int x), l20, l21], [.ref k2, .long j1, .long j0], h) Q = Tr sc d 236 (221, [l0, l1, l2, l3, l4, l5, l6, l7, l8, l9, l10, l11, l12, l13, l14, l15, l16, l17, l18, some (.int x), l20, l21], [.int x, .ref k2, .long j1, .long j0], h) Q := t_iload k_236_219 rfl
theorem k_236_221 : lk 236 221 = some (.iaload, 222, 0, 0, .null) := by decide +kernel
theorem x_236_221 : Tr sc d 236 (221, [l0, l1, l2, l3, l4, l5, l6, l7, l8, l9, l10, l11, l12, l13, l14, l15, l16, l17, l18, l19, l20, l21], [.int i3, .ref k2, .long j1, .long j0], h) Q = (iOk sc h k2 i3 ∧ Tr sc d 236 (222, [l0, l1, l2, l3, l4, l5, l6, l7, l8, l9, l10, l11, l12, l13, l14, l15, l16, l17, l18, l19, l20, l21], [.int (iRd sc h k2 i3), .long j1, .long j0], h) Q) := t_iald k_236_221
theorem k_236_222 : lk 236 222 = some (.i2l, 223, 0, 0, .null) := by decide +kernel
theorem x_236_222 : Tr sc d 236 (222, [l0, l1, l2, l3, l4, l5, l6, l7, l8, l9, l10, l11, l12, l13, l14, l15, l16, l17, l18, l19, l20, l21], [.int i2, .long j1, .long j0], h) Q = Tr sc d 236 (223, [l0, l1, l2, l3, l4, l5, l6, l7, l8, l9, l10, l11, l12, l13, l14, l15, l16, l17, l18, l19, l20, l21], [.long i2.toInt64, .long j1, .long j0], h) Q := t_go k_236_222 rfl
theorem k_236_223 : lk 236 223 = some (.lmul, 224, 0, 0, .null) := by decide +kernel
theorem x_236_223 : Tr sc d 236 (223, [l0, l1, l2, l3, l4, l5, l6, l7, l8, l9, l10, l11, l12, l13, l14, l15, l16, l17, l18, l19, l20, l21], [.long j2, .long j1, .long j0], h) Q = Tr sc d 236 (224, [l0, l1, l2, l3, l4, l5, l6, l7, l8, l9, l10, l11, l12, l13, l14, l15, l16, l17, l18, l19, l20, l21], [.long (j1 * j2), .long j0], h) Q := t_go k_236_223 rfl
theorem k_236_224 : lk 236 224 = some (.ladd, 225, 0, 0, .null) := by decide +kernel
theorem x_236_224 : Tr sc d 236 (224, [l0, l1, l2, l3, l4, l5, l6, l7, l8, l9, l10, l11, l12, l13, l14, l15, l16, l17, l18, l19, l20, l21], [.long j1, .long j0], h) Q = Tr sc d 236 (225, [l0, l1, l2, l3, l4, l5, l6, l7, l8, l9, l10, l11, l12, l13, l14, l15, l16, l17, l18, l19, l20, l21], [.long (j0 + j1)], h) Q := t_go k_236_224 rfl
theorem k_236_225 : lk 236 225 = some (.lstore 16, 227, 16, 0, .null) := by decide +kernel
theorem x_236_225 : Tr sc d 236 (225, [l0, l1, l2, l3, l4, l5, l6, l7, l8, l9, l10, l11, l12, l13, l14, l15, l16, l17, l18, l19, l20, l21], [.long j0], h) Q = Tr sc d 236 (227, [l0, l1, l2, l3, l4, l5, l6, l7, l8, l9, l10, l11, l12, l13, l14, cl2 l15, some (.long j0), none, l18, l19, l20, l21], [], h) Q := t_lstore k_236_225 (Nat.le_of_ble_eq_true rfl)
theorem k_236_227 : lk 236 227 = some (.iinc 18 1, 230, 18, 0, .int 1) := by decide +kernel
theorem x_236_227 : Tr sc d 236 (227, [l0, l1, l2, l3, l4, l5, l6, l7, l8, l9, l10, l11, l12, l13, l14, l15, l16, l17, some (.int x), l19, l20, l21], [], h) Q = Tr sc d 236 (230, [l0, l1, l2, l3, l4, l5, l6, l7, l8, l9, l10, l11, l12, l13, l14, l15, l16, cl2 l17, some (.int (x + 1)), l19, l20, l21], [], h) Q := t_inc k_236_227 rfl (Nat.le_of_ble_eq_true rfl)
theorem k_236_230 : lk 236 230 = some (.goto (-163), 233, 67, 0, .null) := by decide +kernel
theorem x_236_230 : Tr sc d 236 (230, [l0, l1, l2, l3, l4, l5, l6, l7, l8, l9, l10, l11, l12, l13, l14, l15, l16, l17, l18, l19, l20, l21], [], h) Q = Tr sc d 236 (67, [l0, l1, l2, l3, l4, l5, l6, l7, l8, l9, l10, l11, l12, l13, l14, l15, l16, l17, l18, l19, l20, l21], [], h) Q := t_go k_236_230 rfl
theorem k_236_233 : lk 236 233 = some (.aload_n 0, 234, 0, 0, .null) := by decide +kernel
theorem x_236_233 : Tr sc d 236 (233, [some (.ref xk), l1, l2, l3, l4, l5, l6, l7, l8, l9, l10, l11, l12, l13, l14, l15, l16, l17, l18, l19, l20, l21], [], h) Q = Tr sc d 236 (234, [some (.ref xk), l1, l2, l3, l4, l5, l6, l7, l8, l9, l10, l11, l12, l13, l14, l15, l16, l17, l18, l19, l20, l21], [.ref xk], h) Q := t_aload_n k_236_233 rfl
theorem k_236_234 : lk 236 234 = some (.iload_n 2, 235, 2, 0, .null) := by decide +kernel
theorem x_236_234 : Tr sc d 236 (234, [l0, l1, some (.int x), l3, l4, l5, l6, l7, l8, l9, l10, l11, l12, l13, l14, l15, l16, l17, l18, l19, l20, l21], [.ref k0], h) Q = Tr sc d 236 (235, [l0, l1, some (.int x), l3, l4, l5, l6, l7, l8, l9, l10, l11, l12, l13, l14, l15, l16, l17, l18, l19, l20, l21], [.int x, .ref k0], h) Q := t_iload_n k_236_234 rfl
theorem k_236_235 : lk 236 235 = some (.ifCond .eq 17, 238, 252, 0, .null) := by decide +kernel
theorem x_236_235 : Tr sc d 236 (235, [l0, l1, l2, l3, l4, l5, l6, l7, l8, l9, l10, l11, l12, l13, l14, l15, l16, l17, l18, l19, l20, l21], [.int i1, .ref k0], h) Q = if i1 = 0 then Tr sc d 236 (252, [l0, l1, l2, l3, l4, l5, l6, l7, l8, l9, l10, l11, l12, l13, l14, l15, l16, l17, l18, l19, l20, l21], [.ref k0], h) Q else Tr sc d 236 (238, [l0, l1, l2, l3, l4, l5, l6, l7, l8, l9, l10, l11, l12, l13, l14, l15, l16, l17, l18, l19, l20, l21], [.ref k0], h) Q := t_if k_236_235 rfl
theorem k_236_238 : lk 236 238 = some (.lload 6, 240, 6, 0, .null) := by decide +kernel
theorem x_236_238 : Tr sc d 236 (238, [l0, l1, l2, l3, l4, l5, some (.long xl), l7, l8, l9, l10, l11, l12, l13, l14, l15, l16, l17, l18, l19, l20, l21], [.ref k0], h) Q = Tr sc d 236 (240, [l0, l1, l2, l3, l4, l5, some (.long xl), l7, l8, l9, l10, l11, l12, l13, l14, l15, l16, l17, l18, l19, l20, l21], [.long xl, .ref k0], h) Q := t_lload k_236_238 rfl
theorem k_236_240 : lk 236 240 = some (.lload 16, 242, 16, 0, .null) := by decide +kernel
theorem x_236_240 : Tr sc d 236 (240, [l0, l1, l2, l3, l4, l5, l6, l7, l8, l9, l10, l11, l12, l13, l14, l15, some (.long xl), l17, l18, l19, l20, l21], [.long j1, .ref k0], h) Q = Tr sc d 236 (242, [l0, l1, l2, l3, l4, l5, l6, l7, l8, l9, l10, l11, l12, l13, l14, l15, some (.long xl), l17, l18, l19, l20, l21], [.long xl, .long j1, .ref k0], h) Q := t_lload k_236_240 rfl
theorem k_236_242 : lk 236 242 = some (.lmul, 243, 0, 0, .null) := by decide +kernel
theorem x_236_242 : Tr sc d 236 (242, [l0, l1, l2, l3, l4, l5, l6, l7, l8, l9, l10, l11, l12, l13, l14, l15, l16, l17, l18, l19, l20, l21], [.long j2, .long j1, .ref k0], h) Q = Tr sc d 236 (243, [l0, l1, l2, l3, l4, l5, l6, l7, l8, l9, l10, l11, l12, l13, l14, l15, l16, l17, l18, l19, l20, l21], [.long (j1 * j2), .ref k0], h) Q := t_go k_236_242 rfl
theorem k_236_243 : lk 236 243 = some (.lload 10, 245, 10, 0, .null) := by decide +kernel
theorem x_236_243 : Tr sc d 236 (243, [l0, l1, l2, l3, l4, l5, l6, l7, l8, l9, some (.long xl), l11, l12, l13, l14, l15, l16, l17, l18, l19, l20, l21], [.long j1, .ref k0], h) Q = Tr sc d 236 (245, [l0, l1, l2, l3, l4, l5, l6, l7, l8, l9, some (.long xl), l11, l12, l13, l14, l15, l16, l17, l18, l19, l20, l21], [.long xl, .long j1, .ref k0], h) Q := t_lload k_236_243 rfl
theorem k_236_245 : lk 236 245 = some (.lload 14, 247, 14, 0, .null) := by decide +kernel
theorem x_236_245 : Tr sc d 236 (245, [l0, l1, l2, l3, l4, l5, l6, l7, l8, l9, l10, l11, l12, l13, some (.long xl), l15, l16, l17, l18, l19, l20, l21], [.long j2, .long j1, .ref k0], h) Q = Tr sc d 236 (247, [l0, l1, l2, l3, l4, l5, l6, l7, l8, l9, l10, l11, l12, l13, some (.long xl), l15, l16, l17, l18, l19, l20, l21], [.long xl, .long j2, .long j1, .ref k0], h) Q := t_lload k_236_245 rfl
theorem k_236_247 : lk 236 247 = some (.lmul, 248, 0, 0, .null) := by decide +kernel
theorem x_236_247 : Tr sc d 236 (247, [l0, l1, l2, l3, l4, l5, l6, l7, l8, l9, l10, l11, l12, l13, l14, l15, l16, l17, l18, l19, l20, l21], [.long j3, .long j2, .long j1, .ref k0], h) Q = Tr sc d 236 (248, [l0, l1, l2, l3, l4, l5, l6, l7, l8, l9, l10, l11, l12, l13, l14, l15, l16, l17, l18, l19, l20, l21], [.long (j2 * j3), .long j1, .ref k0], h) Q := t_go k_236_247 rfl
theorem k_236_248 : lk 236 248 = some (.lsub, 249, 0, 0, .null) := by decide +kernel
theorem x_236_248 : Tr sc d 236 (248, [l0, l1, l2, l3, l4, l5, l6, l7, l8, l9, l10, l11, l12, l13, l14, l15, l16, l17, l18, l19, l20, l21], [.long j2, .long j1, .ref k0], h) Q = Tr sc d 236 (249, [l0, l1, l2, l3, l4, l5, l6, l7, l8, l9, l10, l11, l12, l13, l14, l15, l16, l17, l18, l19, l20, l21], [.long (j1 - j2), .ref k0], h) Q := t_go k_236_248 rfl
theorem k_236_249 : lk 236 249 = some (.goto 14, 252, 263, 0, .null) := by decide +kernel
theorem x_236_249 : Tr sc d 236 (249, [l0, l1, l2, l3, l4, l5, l6, l7, l8, l9, l10, l11, l12, l13, l14, l15, l16, l17, l18, l19, l20, l21], [.long j1, .ref k0], h) Q = Tr sc d 236 (263, [l0, l1, l2, l3, l4, l5, l6, l7, l8, l9, l10, l11, l12, l13, l14, l15, l16, l17, l18, l19, l20, l21], [.long j1, .ref k0], h) Q := t_go k_236_249 rfl
theorem k_236_252 : lk 236 252 = some (.lload 12, 254, 12, 0, .null) := by decide +kernel
theorem x_236_252 : Tr sc d 236 (252, [l0, l1, l2, l3, l4, l5, l6, l7, l8, l9, l10, l11, some (.long xl), l13, l14, l15, l16, l17, l18, l19, l20, l21], [.ref k0], h) Q = Tr sc d 236 (254, [l0, l1, l2, l3, l4, l5, l6, l7, l8, l9, l10, l11, some (.long xl), l13, l14, l15, l16, l17, l18, l19, l20, l21], [.long xl, .ref k0], h) Q := t_lload k_236_252 rfl
theorem k_236_254 : lk 236 254 = some (.lload 14, 256, 14, 0, .null) := by decide +kernel
theorem x_236_254 : Tr sc d 236 (254, [l0, l1, l2, l3, l4, l5, l6, l7, l8, l9, l10, l11, l12, l13, some (.long xl), l15, l16, l17, l18, l19, l20, l21], [.long j1, .ref k0], h) Q = Tr sc d 236 (256, [l0, l1, l2, l3, l4, l5, l6, l7, l8, l9, l10, l11, l12, l13, some (.long xl), l15, l16, l17, l18, l19, l20, l21], [.long xl, .long j1, .ref k0], h) Q := t_lload k_236_254 rfl
theorem k_236_256 : lk 236 256 = some (.lmul, 257, 0, 0, .null) := by decide +kernel
theorem x_236_256 : Tr sc d 236 (256, [l0, l1, l2, l3, l4, l5, l6, l7, l8, l9, l10, l11, l12, l13, l14, l15, l16, l17, l18, l19, l20, l21], [.long j2, .long j1, .ref k0], h) Q = Tr sc d 236 (257, [l0, l1, l2, l3, l4, l5, l6, l7, l8, l9, l10, l11, l12, l13, l14, l15, l16, l17, l18, l19, l20, l21], [.long (j1 * j2), .ref k0], h) Q := t_go k_236_256 rfl
theorem k_236_257 : lk 236 257 = some (.lload 8, 259, 8, 0, .null) := by decide +kernel
theorem x_236_257 : Tr sc d 236 (257, [l0, l1, l2, l3, l4, l5, l6, l7, some (.long xl), l9, l10, l11, l12, l13, l14, l15, l16, l17, l18, l19, l20, l21], [.long j1, .ref k0], h) Q = Tr sc d 236 (259, [l0, l1, l2, l3, l4, l5, l6, l7, some (.long xl), l9, l10, l11, l12, l13, l14, l15, l16, l17, l18, l19, l20, l21], [.long xl, .long j1, .ref k0], h) Q := t_lload k_236_257 rfl
theorem k_236_259 : lk 236 259 = some (.lload 16, 261, 16, 0, .null) := by decide +kernel
theorem x_236_259 : Tr sc d 236 (259, [l0, l1, l2, l3, l4, l5, l6, l7, l8, l9, l10, l11, l12, l13, l14, l15, some (.long xl), l17, l18, l19, l20, l21], [.long j2, .long j1, .ref k0], h) Q = Tr sc d 236 (261, [l0, l1, l2, l3, l4, l5, l6, l7, l8, l9, l10, l11, l12, l13, l14, l15, some (.long xl), l17, l18, l19, l20, l21], [.long xl, .long j2, .long j1, .ref k0], h) Q := t_lload k_236_259 rfl
theorem k_236_261 : lk 236 261 = some (.lmul, 262, 0, 0, .null) := by decide +kernel
theorem x_236_261 : Tr sc d 236 (261, [l0, l1, l2, l3, l4, l5, l6, l7, l8, l9, l10, l11, l12, l13, l14, l15, l16, l17, l18, l19, l20, l21], [.long j3, .long j2, .long j1, .ref k0], h) Q = Tr sc d 236 (262, [l0, l1, l2, l3, l4, l5, l6, l7, l8, l9, l10, l11, l12, l13, l14, l15, l16, l17, l18, l19, l20, l21], [.long (j2 * j3), .long j1, .ref k0], h) Q := t_go k_236_261 rfl
theorem k_236_262 : lk 236 262 = some (.lsub, 263, 0, 0, .null) := by decide +kernel
theorem x_236_262 : Tr sc d 236 (262, [l0, l1, l2, l3, l4, l5, l6, l7, l8, l9, l10, l11, l12, l13, l14, l15, l16, l17, l18, l19, l20, l21], [.long j2, .long j1, .ref k0], h) Q = Tr sc d 236 (263, [l0, l1, l2, l3, l4, l5, l6, l7, l8, l9, l10, l11, l12, l13, l14, l15, l16, l17, l18, l19, l20, l21], [.long (j1 - j2), .ref k0], h) Q := t_go k_236_262 rfl
theorem k_236_263 : lk 236 263 = some (.lload 6, 265, 6, 0, .null) := by decide +kernel
theorem x_236_263 : Tr sc d 236 (263, [l0, l1, l2, l3, l4, l5, some (.long xl), l7, l8, l9, l10, l11, l12, l13, l14, l15, l16, l17, l18, l19, l20, l21], [.long j1, .ref k0], h) Q = Tr sc d 236 (265, [l0, l1, l2, l3, l4, l5, some (.long xl), l7, l8, l9, l10, l11, l12, l13, l14, l15, l16, l17, l18, l19, l20, l21], [.long xl, .long j1, .ref k0], h) Q := t_lload k_236_263 rfl
theorem k_236_265 : lk 236 265 = some (.lload 12, 267, 12, 0, .null) := by decide +kernel
theorem x_236_265 : Tr sc d 236 (265, [l0, l1, l2, l3, l4, l5, l6, l7, l8, l9, l10, l11, some (.long xl), l13, l14, l15, l16, l17, l18, l19, l20, l21], [.long j2, .long j1, .ref k0], h) Q = Tr sc d 236 (267, [l0, l1, l2, l3, l4, l5, l6, l7, l8, l9, l10, l11, some (.long xl), l13, l14, l15, l16, l17, l18, l19, l20, l21], [.long xl, .long j2, .long j1, .ref k0], h) Q := t_lload k_236_265 rfl
theorem k_236_267 : lk 236 267 = some (.lmul, 268, 0, 0, .null) := by decide +kernel
theorem x_236_267 : Tr sc d 236 (267, [l0, l1, l2, l3, l4, l5, l6, l7, l8, l9, l10, l11, l12, l13, l14, l15, l16, l17, l18, l19, l20, l21], [.long j3, .long j2, .long j1, .ref k0], h) Q = Tr sc d 236 (268, [l0, l1, l2, l3, l4, l5, l6, l7, l8, l9, l10, l11, l12, l13, l14, l15, l16, l17, l18, l19, l20, l21], [.long (j2 * j3), .long j1, .ref k0], h) Q := t_go k_236_267 rfl
theorem k_236_268 : lk 236 268 = some (.lload 8, 270, 8, 0, .null) := by decide +kernel
theorem x_236_268 : Tr sc d 236 (268, [l0, l1, l2, l3, l4, l5, l6, l7, some (.long xl), l9, l10, l11, l12, l13, l14, l15, l16, l17, l18, l19, l20, l21], [.long j2, .long j1, .ref k0], h) Q = Tr sc d 236 (270, [l0, l1, l2, l3, l4, l5, l6, l7, some (.long xl), l9, l10, l11, l12, l13, l14, l15, l16, l17, l18, l19, l20, l21], [.long xl, .long j2, .long j1, .ref k0], h) Q := t_lload k_236_268 rfl
theorem k_236_270 : lk 236 270 = some (.lload 10, 272, 10, 0, .null) := by decide +kernel
theorem x_236_270 : Tr sc d 236 (270, [l0, l1, l2, l3, l4, l5, l6, l7, l8, l9, some (.long xl), l11, l12, l13, l14, l15, l16, l17, l18, l19, l20, l21], [.long j3, .long j2, .long j1, .ref k0], h) Q = Tr sc d 236 (272, [l0, l1, l2, l3, l4, l5, l6, l7, l8, l9, some (.long xl), l11, l12, l13, l14, l15, l16, l17, l18, l19, l20, l21], [.long xl, .long j3, .long j2, .long j1, .ref k0], h) Q := t_lload k_236_270 rfl
theorem k_236_272 : lk 236 272 = some (.lmul, 273, 0, 0, .null) := by decide +kernel
theorem x_236_272 : Tr sc d 236 (272, [l0, l1, l2, l3, l4, l5, l6, l7, l8, l9, l10, l11, l12, l13, l14, l15, l16, l17, l18, l19, l20, l21], [.long j4, .long j3, .long j2, .long j1, .ref k0], h) Q = Tr sc d 236 (273, [l0, l1, l2, l3, l4, l5, l6, l7, l8, l9, l10, l11, l12, l13, l14, l15, l16, l17, l18, l19, l20, l21], [.long (j3 * j4), .long j2, .long j1, .ref k0], h) Q := t_go k_236_272 rfl
theorem k_236_273 : lk 236 273 = some (.lsub, 274, 0, 0, .null) := by decide +kernel
theorem x_236_273 : Tr sc d 236 (273, [l0, l1, l2, l3, l4, l5, l6, l7, l8, l9, l10, l11, l12, l13, l14, l15, l16, l17, l18, l19, l20, l21], [.long j3, .long j2, .long j1, .ref k0], h) Q = Tr sc d 236 (274, [l0, l1, l2, l3, l4, l5, l6, l7, l8, l9, l10, l11, l12, l13, l14, l15, l16, l17, l18, l19, l20, l21], [.long (j2 - j3), .long j1, .ref k0], h) Q := t_go k_236_273 rfl
theorem k_236_274 : lk 236 274 = some (.invokevirtual 263, 277, 160, 2, .null) := by decide +kernel
theorem x_236_274 : Tr sc (d + 1) 236 (274, [l0, l1, l2, l3, l4, l5, l6, l7, l8, l9, l10, l11, l12, l13, l14, l15, l16, l17, l18, l19, l20, l21], [.long j2, .long j1, .ref k0], h) Q = (okp h k0 10 = true ∧ Tr sc d 160 (ent0 160 [.ref k0, .long j1, .long j2] h) (fun z => Tr sc (d + 1) 236 (277, [l0, l1, l2, l3, l4, l5, l6, l7, l8, l9, l10, l11, l12, l13, l14, l15, l16, l17, l18, l19, l20, l21], z.1.toList ++ [], z.2) Q)) := t_cv (as := [.long j1, .long j2]) (r := []) k_236_274 rfl rfl (Nat.le_of_ble_eq_true rfl) (Nat.le_of_ble_eq_true rfl) (Nat.le_of_ble_eq_true rfl)
theorem k_236_277 : lk 236 277 = some (.ireturn, 278, 0, 0, .null) := by decide +kernel
theorem x_236_277 : Tr sc d 236 (277, [l0, l1, l2, l3, l4, l5, l6, l7, l8, l9, l10, l11, l12, l13, l14, l15, l16, l17, l18, l19, l20, l21], [.int i0], h) Q = Q (some (.int i0), h) := t_ret k_236_277 (by rw [r_236]; rfl)
theorem e_236 : Tr sc d 236 (ent0 236 [.ref k0, .int i1, .int i2] h) Q = Tr sc d 236 (0, [some (.ref k0), some (.int i1), some (.int i2), none, none, none, none, none, none, none, none, none, none, none, none, none, none, none, none, none, none, none], [], h) Q := by
  have e : mL 236 = 22 := by decide +kernel
  unfold ent0
  rw [e]
  rfl
theorem r_237 : mR 237 = some .int := by decide +kernel
theorem k_237_0 : lk 237 0 = some (.aload_n 0, 1, 0, 0, .null) := by decide +kernel
theorem x_237_0 : Tr sc d 237 (0, [some (.ref xk), l1, l2, l3, l4, l5, l6], [], h) Q = Tr sc d 237 (1, [some (.ref xk), l1, l2, l3, l4, l5, l6], [.ref xk], h) Q := t_aload_n k_237_0 rfl
theorem k_237_1 : lk 237 1 = some (.iload_n 1, 2, 1, 0, .null) := by decide +kernel
theorem x_237_1 : Tr sc d 237 (1, [l0, some (.int x), l2, l3, l4, l5, l6], [.ref k0], h) Q = Tr sc d 237 (2, [l0, some (.int x), l2, l3, l4, l5, l6], [.int x, .ref k0], h) Q := t_iload_n k_237_1 rfl
theorem k_237_2 : lk 237 2 = some (.iload_n 2, 3, 2, 0, .null) := by decide +kernel
theorem x_237_2 : Tr sc d 237 (2, [l0, l1, some (.int x), l3, l4, l5, l6], [.int i1, .ref k0], h) Q = Tr sc d 237 (3, [l0, l1, some (.int x), l3, l4, l5, l6], [.int x, .int i1, .ref k0], h) Q := t_iload_n k_237_2 rfl
theorem k_237_3 : lk 237 3 = some (.iconst 5, 4, 0, 0, .int 5) := by decide +kernel
theorem x_237_3 : Tr sc d 237 (3, [l0, l1, l2, l3, l4, l5, l6], [.int i2, .int i1, .ref k0], h) Q = Tr sc d 237 (4, [l0, l1, l2, l3, l4, l5, l6], [.int 5, .int i2, .int i1, .ref k0], h) Q := t_go k_237_3 rfl
theorem k_237_4 : lk 237 4 = some (.invokevirtual 304, 7, 206, 3, .null) := by decide +kernel
theorem x_237_4 : Tr sc (d + 1) 237 (4, [l0, l1, l2, l3, l4, l5, l6], [.int i3, .int i2, .int i1, .ref k0], h) Q = (okp h k0 10 = true ∧ Tr sc d 206 (ent0 206 [.ref k0, .int i1, .int i2, .int i3] h) (fun z => Tr sc (d + 1) 237 (7, [l0, l1, l2, l3, l4, l5, l6], z.1.toList ++ [], z.2) Q)) := t_cv (as := [.int i1, .int i2, .int i3]) (r := []) k_237_4 rfl rfl (Nat.le_of_ble_eq_true rfl) (Nat.le_of_ble_eq_true rfl) (Nat.le_of_ble_eq_true rfl)
theorem k_237_7 : lk 237 7 = some (.istore 5, 9, 5, 0, .null) := by decide +kernel
theorem x_237_7 : Tr sc d 237 (7, [l0, l1, l2, l3, l4, l5, l6], [.int i0], h) Q = Tr sc d 237 (9, [l0, l1, l2, l3, cl2 l4, some (.int i0), l6], [], h) Q := t_istore k_237_7 (Nat.le_of_ble_eq_true rfl)
theorem k_237_9 : lk 237 9 = some (.iload 5, 11, 5, 0, .null) := by decide +kernel
theorem x_237_9 : Tr sc d 237 (9, [l0, l1, l2, l3, l4, some (.int x), l6], [], h) Q = Tr sc d 237 (11, [l0, l1, l2, l3, l4, some (.int x), l6], [.int x], h) Q := t_iload k_237_9 rfl
theorem k_237_11 : lk 237 11 = some (.ifCond .ge 6, 14, 17, 0, .null) := by decide +kernel
theorem x_237_11 : Tr sc d 237 (11, [l0, l1, l2, l3, l4, l5, l6], [.int i0], h) Q = if 0 ≤ i0 then Tr sc d 237 (17, [l0, l1, l2, l3, l4, l5, l6], [], h) Q else Tr sc d 237 (14, [l0, l1, l2, l3, l4, l5, l6], [], h) Q := t_if k_237_11 rfl
theorem k_237_14 : lk 237 14 = some (.iload 5, 16, 5, 0, .null) := by decide +kernel
theorem x_237_14 : Tr sc d 237 (14, [l0, l1, l2, l3, l4, some (.int x), l6], [], h) Q = Tr sc d 237 (16, [l0, l1, l2, l3, l4, some (.int x), l6], [.int x], h) Q := t_iload k_237_14 rfl
theorem k_237_16 : lk 237 16 = some (.ireturn, 17, 0, 0, .null) := by decide +kernel
theorem x_237_16 : Tr sc d 237 (16, [l0, l1, l2, l3, l4, l5, l6], [.int i0], h) Q = Q (some (.int i0), h) := t_ret k_237_16 (by rw [r_237]; rfl)
theorem k_237_17 : lk 237 17 = some (.aload_n 0, 18, 0, 0, .null) := by decide +kernel
theorem x_237_17 : Tr sc d 237 (17, [some (.ref xk), l1, l2, l3, l4, l5, l6], [], h) Q = Tr sc d 237 (18, [some (.ref xk), l1, l2, l3, l4, l5, l6], [.ref xk], h) Q := t_aload_n k_237_17 rfl
theorem k_237_18 : lk 237 18 = some (.getfield 35, 21, 10, 16, .null) := by decide +kernel
theorem x_237_18 : Tr sc d 237 (18, [l0, l1, l2, l3, l4, l5, l6], [.ref k0], h) Q = (okp h k0 10 = true ∧ ∃ q, hR h k0 16 = some q ∧ Tr sc d 237 (21, [l0, l1, l2, l3, l4, l5, l6], [.ref q], h) Q) := t_getr k_237_18
theorem k_237_21 : lk 237 21 = some (.iload_n 1, 22, 1, 0, .null) := by decide +kernel
theorem x_237_21 : Tr sc d 237 (21, [l0, some (.int x), l2, l3, l4, l5, l6], [.ref k0], h) Q = Tr sc d 237 (22, [l0, some (.int x), l2, l3, l4, l5, l6], [.int x, .ref k0], h) Q := t_iload_n k_237_21 rfl
theorem k_237_22 : lk 237 22 = some (.iaload, 23, 0, 0, .null) := by decide +kernel
theorem x_237_22 : Tr sc d 237 (22, [l0, l1, l2, l3, l4, l5, l6], [.int i1, .ref k0], h) Q = (iOk sc h k0 i1 ∧ Tr sc d 237 (23, [l0, l1, l2, l3, l4, l5, l6], [.int (iRd sc h k0 i1)], h) Q) := t_iald k_237_22
theorem k_237_23 : lk 237 23 = some (.iconst 3, 24, 0, 0, .int 3) := by decide +kernel
theorem x_237_23 : Tr sc d 237 (23, [l0, l1, l2, l3, l4, l5, l6], [.int i0], h) Q = Tr sc d 237 (24, [l0, l1, l2, l3, l4, l5, l6], [.int 3, .int i0], h) Q := t_go k_237_23 rfl
theorem k_237_24 : lk 237 24 = some (.if_icmp .eq 9, 27, 33, 0, .null) := by decide +kernel
theorem x_237_24 : Tr sc d 237 (24, [l0, l1, l2, l3, l4, l5, l6], [.int i1, .int i0], h) Q = if i0 = i1 then Tr sc d 237 (33, [l0, l1, l2, l3, l4, l5, l6], [], h) Q else Tr sc d 237 (27, [l0, l1, l2, l3, l4, l5, l6], [], h) Q := t_if k_237_24 rfl
theorem k_237_27 : lk 237 27 = some (.aload_n 0, 28, 0, 0, .null) := by decide +kernel
theorem x_237_27 : Tr sc d 237 (27, [some (.ref xk), l1, l2, l3, l4, l5, l6], [], h) Q = Tr sc d 237 (28, [some (.ref xk), l1, l2, l3, l4, l5, l6], [.ref xk], h) Q := t_aload_n k_237_27 rfl
theorem k_237_28 : lk 237 28 = some (.iconst 3, 29, 0, 0, .int 3) := by decide +kernel
theorem x_237_28 : Tr sc d 237 (28, [l0, l1, l2, l3, l4, l5, l6], [.ref k0], h) Q = Tr sc d 237 (29, [l0, l1, l2, l3, l4, l5, l6], [.int 3, .ref k0], h) Q := t_go k_237_28 rfl
theorem k_237_29 : lk 237 29 = some (.invokevirtual 152, 32, 158, 1, .null) := by decide +kernel
theorem x_237_29 : Tr sc (d + 1) 237 (29, [l0, l1, l2, l3, l4, l5, l6], [.int i1, .ref k0], h) Q = (okp h k0 10 = true ∧ Tr sc d 158 (ent0 158 [.ref k0, .int i1] h) (fun z => Tr sc (d + 1) 237 (32, [l0, l1, l2, l3, l4, l5, l6], z.1.toList ++ [], z.2) Q)) := t_cv (as := [.int i1]) (r := []) k_237_29 rfl rfl (Nat.le_of_ble_eq_true rfl) (Nat.le_of_ble_eq_true rfl) (Nat.le_of_ble_eq_true rfl)
theorem k_237_32 : lk 237 32 = some (.ireturn, 33, 0, 0, .null) := by decide +kernel
theorem x_237_32 : Tr sc d 237 (32, [l0, l1, l2, l3, l4, l5, l6], [.int i0], h) Q = Q (some (.int i0), h) := t_ret k_237_32 (by rw [r_237]; rfl)
theorem k_237_33 : lk 237 33 = some (.aload_n 0, 34, 0, 0, .null) := by decide +kernel
theorem x_237_33 : Tr sc d 237 (33, [some (.ref xk), l1, l2, l3, l4, l5, l6], [], h) Q = Tr sc d 237 (34, [some (.ref xk), l1, l2, l3, l4, l5, l6], [.ref xk], h) Q := t_aload_n k_237_33 rfl
theorem k_237_34 : lk 237 34 = some (.iload_n 1, 35, 1, 0, .null) := by decide +kernel
theorem x_237_34 : Tr sc d 237 (34, [l0, some (.int x), l2, l3, l4, l5, l6], [.ref k0], h) Q = Tr sc d 237 (35, [l0, some (.int x), l2, l3, l4, l5, l6], [.int x, .ref k0], h) Q := t_iload_n k_237_34 rfl
theorem k_237_35 : lk 237 35 = some (.iload_n 2, 36, 2, 0, .null) := by decide +kernel
theorem x_237_35 : Tr sc d 237 (35, [l0, l1, some (.int x), l3, l4, l5, l6], [.int i1, .ref k0], h) Q = Tr sc d 237 (36, [l0, l1, some (.int x), l3, l4, l5, l6], [.int x, .int i1, .ref k0], h) Q := t_iload_n k_237_35 rfl
theorem k_237_36 : lk 237 36 = some (.invokevirtual 273, 39, 202, 2, .null) := by decide +kernel
theorem x_237_36 : Tr sc (d + 1) 237 (36, [l0, l1, l2, l3, l4, l5, l6], [.int i2, .int i1, .ref k0], h) Q = (okp h k0 10 = true ∧ Tr sc d 202 (ent0 202 [.ref k0, .int i1, .int i2] h) (fun z => Tr sc (d + 1) 237 (39, [l0, l1, l2, l3, l4, l5, l6], z.1.toList ++ [], z.2) Q)) := t_cv (as := [.int i1, .int i2]) (r := []) k_237_36 rfl rfl (Nat.le_of_ble_eq_true rfl) (Nat.le_of_ble_eq_true rfl) (Nat.le_of_ble_eq_true rfl)
theorem k_237_39 : lk 237 39 = some (.aload_n 0, 40, 0, 0, .null) := by decide +kernel
theorem x_237_39 : Tr sc d 237 (39, [some (.ref xk), l1, l2, l3, l4, l5, l6], [], h) Q = Tr sc d 237 (40, [some (.ref xk), l1, l2, l3, l4, l5, l6], [.ref xk], h) Q := t_aload_n k_237_39 rfl
theorem k_237_40 : lk 237 40 = some (.lconst 0, 41, 0, 0, .long 0) := by decide +kernel
theorem x_237_40 : Tr sc d 237 (40, [l0, l1, l2, l3, l4, l5, l6], [.ref k0], h) Q = Tr sc d 237 (41, [l0, l1, l2, l3, l4, l5, l6], [.long 0, .ref k0], h) Q := t_go k_237_40 rfl
theorem k_237_41 : lk 237 41 = some (.putfield 267, 44, 10, 3, .long 0) := by decide +kernel
theorem x_237_41 : Tr sc d 237 (41, [l0, l1, l2, l3, l4, l5, l6], [.long j1, .ref k0], h) Q = (okp h k0 10 = true ∧ Tr sc d 237 (44, [l0, l1, l2, l3, l4, l5, l6], [], (sL h k0 3 j1)) Q) := t_gd k_237_41 rfl
theorem k_237_44 : lk 237 44 = some (.iconst 0, 45, 0, 0, .int 0) := by decide +kernel
theorem x_237_44 : Tr sc d 237 (44, [l0, l1, l2, l3, l4, l5, l6], [], h) Q = Tr sc d 237 (45, [l0, l1, l2, l3, l4, l5, l6], [.int 0], h) Q := t_go k_237_44 rfl
theorem k_237_45 : lk 237 45 = some (.istore 6, 47, 6, 0, .null) := by decide +kernel
theorem x_237_45 : Tr sc d 237 (45, [l0, l1, l2, l3, l4, l5, l6], [.int i0], h) Q = Tr sc d 237 (47, [l0, l1, l2, l3, l4, cl2 l5, some (.int i0)], [], h) Q := t_istore k_237_45 (Nat.le_of_ble_eq_true rfl)
theorem k_237_47 : lk 237 47 = some (.iload 6, 49, 6, 0, .null) := by decide +kernel
theorem x_237_47 : Tr sc d 237 (47, [l0, l1, l2, l3, l4, l5, some (.int x)], [], h) Q = Tr sc d 237 (49, [l0, l1, l2, l3, l4, l5, some (.int x)], [.int x], h) Q := t_iload k_237_47 rfl
theorem k_237_49 : lk 237 49 = some (.aload_n 0, 50, 0, 0, .null) := by decide +kernel
theorem x_237_49 : Tr sc d 237 (49, [some (.ref xk), l1, l2, l3, l4, l5, l6], [.int i0], h) Q = Tr sc d 237 (50, [some (.ref xk), l1, l2, l3, l4, l5, l6], [.ref xk, .int i0], h) Q := t_aload_n k_237_49 rfl
theorem k_237_50 : lk 237 50 = some (.getfield 270, 53, 10, 31, .int 0) := by decide +kernel
theorem x_237_50 : Tr sc d 237 (50, [l0, l1, l2, l3, l4, l5, l6], [.ref k1, .int i0], h) Q = (okp h k1 10 = true ∧ Tr sc d 237 (53, [l0, l1, l2, l3, l4, l5, l6], [.int (hI h k1 31), .int i0], h) Q) := t_gd k_237_50 rfl
theorem k_237_53 : lk 237 53 = some (.if_icmp .ge 52, 56, 105, 0, .null) := by decide +kernel
theorem x_237_53 : Tr sc d 237 (53, [l0, l1, l2, l3, l4, l5, l6], [.int i1, .int i0], h) Q = if i1 ≤ i0 then Tr sc d 237 (105, [l0, l1, l2, l3, l4, l5, l6], [], h) Q else Tr sc d 237 (56, [l0, l1, l2, l3, l4, l5, l6], [], h) Q := t_if k_237_53 rfl
theorem k_237_56 : lk 237 56 = some (.aload_n 0, 57, 0, 0, .null) := by decide +kernel
theorem x_237_56 : Tr sc d 237 (56, [some (.ref xk), l1, l2, l3, l4, l5, l6], [], h) Q = Tr sc d 237 (57, [some (.ref xk), l1, l2, l3, l4, l5, l6], [.ref xk], h) Q := t_aload_n k_237_56 rfl
theorem k_237_57 : lk 237 57 = some (.dup, 58, 0, 0, .null) := by decide +kernel
theorem x_237_57 : Tr sc d 237 (57, [l0, l1, l2, l3, l4, l5, l6], [.ref k0], h) Q = Tr sc d 237 (58, [l0, l1, l2, l3, l4, l5, l6], [.ref k0, .ref k0], h) Q := t_go k_237_57 rfl
theorem k_237_58 : lk 237 58 = some (.getfield 267, 61, 10, 3, .long 0) := by decide +kernel
theorem x_237_58 : Tr sc d 237 (58, [l0, l1, l2, l3, l4, l5, l6], [.ref k1, .ref k0], h) Q = (okp h k1 10 = true ∧ Tr sc d 237 (61, [l0, l1, l2, l3, l4, l5, l6], [.long (hL h k1 3), .ref k0], h) Q) := t_gd k_237_58 rfl
theorem k_237_61 : lk 237 61 = some (.aload_n 0, 62, 0, 0, .null) := by decide +kernel
theorem x_237_61 : Tr sc d 237 (61, [some (.ref xk), l1, l2, l3, l4, l5, l6], [.long j1, .ref k0], h) Q = Tr sc d 237 (62, [some (.ref xk), l1, l2, l3, l4, l5, l6], [.ref xk, .long j1, .ref k0], h) Q := t_aload_n k_237_61 rfl
theorem k_237_62 : lk 237 62 = some (.getfield 63, 65, 10, 32, .null) := by decide +kernel
theorem x_237_62 : Tr sc d 237 (62, [l0, l1, l2, l3, l4, l5, l6], [.ref k2, .long j1, .ref k0], h) Q = (okp h k2 10 = true ∧ ∃ q, hR h k2 32 = some q ∧ Tr sc d 237 (65, [l0, l1, l2, l3, l4, l5, l6], [.ref q, .long j1, .ref k0], h) Q) := t_getr k_237_62
theorem k_237_65 : lk 237 65 = some (.iload 6, 67, 6, 0, .null) := by decide +kernel
theorem x_237_65 : Tr sc d 237 (65, [l0, l1, l2, l3, l4, l5, some (.int x)], [.ref k2, .long j1, .ref k0], h) Q = Tr sc d 237 (67, [l0, l1, l2, l3, l4, l5, some (.int x)], [.int x, .ref k2, .long j1, .ref k0], h) Q := t_iload k_237_65 rfl
theorem k_237_67 : lk 237 67 = some (.iaload, 68, 0, 0, .null) := by decide +kernel
theorem x_237_67 : Tr sc d 237 (67, [l0, l1, l2, l3, l4, l5, l6], [.int i3, .ref k2, .long j1, .ref k0], h) Q = (iOk sc h k2 i3 ∧ Tr sc d 237 (68, [l0, l1, l2, l3, l4, l5, l6], [.int (iRd sc h k2 i3), .long j1, .ref k0], h) Q) := t_iald k_237_67
theorem k_237_68 : lk 237 68 = some (.iload_n 3, 69, 3, 0, .null) := by decide +kernel
theorem x_237_68 : Tr sc d 237 (68, [l0, l1, l2, some (.int x), l4, l5, l6], [.int i2, .long j1, .ref k0], h) Q = Tr sc d 237 (69, [l0, l1, l2, some (.int x), l4, l5, l6], [.int x, .int i2, .long j1, .ref k0], h) Q := t_iload_n k_237_68 rfl
theorem k_237_69 : lk 237 69 = some (.if_icmp .ne 25, 72, 94, 0, .null) := by decide +kernel
theorem x_237_69 : Tr sc d 237 (69, [l0, l1, l2, l3, l4, l5, l6], [.int i3, .int i2, .long j1, .ref k0], h) Q = if i2 = i3 then Tr sc d 237 (72, [l0, l1, l2, l3, l4, l5, l6], [.long j1, .ref k0], h) Q else Tr sc d 237 (94, [l0, l1, l2, l3, l4, l5, l6], [.long j1, .ref k0], h) Q := t_if k_237_69 rfl
theorem k_237_72 : lk 237 72 = some (.aload_n 0, 73, 0, 0, .null) := by decide +kernel
theorem x_237_72 : Tr sc d 237 (72, [some (.ref xk), l1, l2, l3, l4, l5, l6], [.long j1, .ref k0], h) Q = Tr sc d 237 (73, [some (.ref xk), l1, l2, l3, l4, l5, l6], [.ref xk, .long j1, .ref k0], h) Q := t_aload_n k_237_72 rfl
theorem k_237_73 : lk 237 73 = some (.getfield 66, 76, 10, 33, .null) := by decide +kernel
theorem x_237_73 : Tr sc d 237 (73, [l0, l1, l2, l3, l4, l5, l6], [.ref k2, .long j1, .ref k0], h) Q = (okp h k2 10 = true ∧ ∃ q, hR h k2 33 = some q ∧ Tr sc d 237 (76, [l0, l1, l2, l3, l4, l5, l6], [.ref q, .long j1, .ref k0], h) Q) := t_getr k_237_73
theorem k_237_76 : lk 237 76 = some (.iload 6, 78, 6, 0, .null) := by decide +kernel
theorem x_237_76 : Tr sc d 237 (76, [l0, l1, l2, l3, l4, l5, some (.int x)], [.ref k2, .long j1, .ref k0], h) Q = Tr sc d 237 (78, [l0, l1, l2, l3, l4, l5, some (.int x)], [.int x, .ref k2, .long j1, .ref k0], h) Q := t_iload k_237_76 rfl
theorem k_237_78 : lk 237 78 = some (.iaload, 79, 0, 0, .null) := by decide +kernel
theorem x_237_78 : Tr sc d 237 (78, [l0, l1, l2, l3, l4, l5, l6], [.int i3, .ref k2, .long j1, .ref k0], h) Q = (iOk sc h k2 i3 ∧ Tr sc d 237 (79, [l0, l1, l2, l3, l4, l5, l6], [.int (iRd sc h k2 i3), .long j1, .ref k0], h) Q) := t_iald k_237_78
theorem k_237_79 : lk 237 79 = some (.iload 4, 81, 4, 0, .null) := by decide +kernel
theorem x_237_79 : Tr sc d 237 (79, [l0, l1, l2, l3, some (.int x), l5, l6], [.int i2, .long j1, .ref k0], h) Q = Tr sc d 237 (81, [l0, l1, l2, l3, some (.int x), l5, l6], [.int x, .int i2, .long j1, .ref k0], h) Q := t_iload k_237_79 rfl
theorem k_237_81 : lk 237 81 = some (.if_icmp .ne 13, 84, 94, 0, .null) := by decide +kernel
theorem x_237_81 : Tr sc d 237 (81, [l0, l1, l2, l3, l4, l5, l6], [.int i3, .int i2, .long j1, .ref k0], h) Q = if i2 = i3 then Tr sc d 237 (84, [l0, l1, l2, l3, l4, l5, l6], [.long j1, .ref k0], h) Q else Tr sc d 237 (94, [l0, l1, l2, l3, l4, l5, l6], [.long j1, .ref k0], h) Q := t_if k_237_81 rfl
theorem k_237_84 : lk 237 84 = some (.aload_n 0, 85, 0, 0, .null) := by decide +kernel
theorem x_237_84 : Tr sc d 237 (84, [some (.ref xk), l1, l2, l3, l4, l5, l6], [.long j1, .ref k0], h) Q = Tr sc d 237 (85, [some (.ref xk), l1, l2, l3, l4, l5, l6], [.ref xk, .long j1, .ref k0], h) Q := t_aload_n k_237_84 rfl
theorem k_237_85 : lk 237 85 = some (.getfield 72, 88, 10, 35, .null) := by decide +kernel
theorem x_237_85 : Tr sc d 237 (85, [l0, l1, l2, l3, l4, l5, l6], [.ref k2, .long j1, .ref k0], h) Q = (okp h k2 10 = true ∧ ∃ q, hR h k2 35 = some q ∧ Tr sc d 237 (88, [l0, l1, l2, l3, l4, l5, l6], [.ref q, .long j1, .ref k0], h) Q) := t_getr k_237_85
theorem k_237_88 : lk 237 88 = some (.iload 6, 90, 6, 0, .null) := by decide +kernel
theorem x_237_88 : Tr sc d 237 (88, [l0, l1, l2, l3, l4, l5, some (.int x)], [.ref k2, .long j1, .ref k0], h) Q = Tr sc d 237 (90, [l0, l1, l2, l3, l4, l5, some (.int x)], [.int x, .ref k2, .long j1, .ref k0], h) Q := t_iload k_237_88 rfl
theorem k_237_90 : lk 237 90 = some (.laload, 91, 0, 0, .null) := by decide +kernel
theorem x_237_90 : Tr sc d 237 (90, [l0, l1, l2, l3, l4, l5, l6], [.int i3, .ref k2, .long j1, .ref k0], h) Q = ((okp h k2 12 && inb i3 (LN k2)) = true ∧ Tr sc d 237 (91, [l0, l1, l2, l3, l4, l5, l6], [.long (hL h k2 i3.toNatClampNeg), .long j1, .ref k0], h) Q) := t_gd k_237_90 rfl
theorem k_237_91 : lk 237 91 = some (.goto 4, 94, 95, 0, .null) := by decide +kernel
theorem x_237_91 : Tr sc d 237 (91, [l0, l1, l2, l3, l4, l5, l6], [.long j2, .long j1, .ref k0], h) Q = Tr sc d 237 (95, [l0, l1, l2, l3, l4, l5, l6], [.long j2, .long j1, .ref k0], h) Q := t_go k_237_91 rfl
theorem k_237_94 : lk 237 94 = some (.lconst 0, 95, 0, 0, .long 0) := by decide +kernel
theorem x_237_94 : Tr sc d 237 (94, [l0, l1, l2, l3, l4, l5, l6], [.long j1, .ref k0], h) Q = Tr sc d 237 (95, [l0, l1, l2, l3, l4, l5, l6], [.long 0, .long j1, .ref k0], h) Q := t_go k_237_94 rfl
theorem k_237_95 : lk 237 95 = some (.ladd, 96, 0, 0, .null) := by decide +kernel
theorem x_237_95 : Tr sc d 237 (95, [l0, l1, l2, l3, l4, l5, l6], [.long j2, .long j1, .ref k0], h) Q = Tr sc d 237 (96, [l0, l1, l2, l3, l4, l5, l6], [.long (j1 + j2), .ref k0], h) Q := t_go k_237_95 rfl
theorem k_237_96 : lk 237 96 = some (.putfield 267, 99, 10, 3, .long 0) := by decide +kernel
theorem x_237_96 : Tr sc d 237 (96, [l0, l1, l2, l3, l4, l5, l6], [.long j1, .ref k0], h) Q = (okp h k0 10 = true ∧ Tr sc d 237 (99, [l0, l1, l2, l3, l4, l5, l6], [], (sL h k0 3 j1)) Q) := t_gd k_237_96 rfl
theorem k_237_99 : lk 237 99 = some (.iinc 6 1, 102, 6, 0, .int 1) := by decide +kernel
theorem x_237_99 : Tr sc d 237 (99, [l0, l1, l2, l3, l4, l5, some (.int x)], [], h) Q = Tr sc d 237 (102, [l0, l1, l2, l3, l4, cl2 l5, some (.int (x + 1))], [], h) Q := t_inc k_237_99 rfl (Nat.le_of_ble_eq_true rfl)
theorem k_237_102 : lk 237 102 = some (.goto (-55), 105, 47, 0, .null) := by decide +kernel
theorem x_237_102 : Tr sc d 237 (102, [l0, l1, l2, l3, l4, l5, l6], [], h) Q = Tr sc d 237 (47, [l0, l1, l2, l3, l4, l5, l6], [], h) Q := t_go k_237_102 rfl
theorem k_237_105 : lk 237 105 = some (.iconst 1, 106, 0, 0, .int 1) := by decide +kernel
theorem x_237_105 : Tr sc d 237 (105, [l0, l1, l2, l3, l4, l5, l6], [], h) Q = Tr sc d 237 (106, [l0, l1, l2, l3, l4, l5, l6], [.int 1], h) Q := t_go k_237_105 rfl
theorem k_237_106 : lk 237 106 = some (.ireturn, 107, 0, 0, .null) := by decide +kernel
theorem x_237_106 : Tr sc d 237 (106, [l0, l1, l2, l3, l4, l5, l6], [.int i0], h) Q = Q (some (.int i0), h) := t_ret k_237_106 (by rw [r_237]; rfl)
theorem e_237 : Tr sc d 237 (ent0 237 [.ref k0, .int i1, .int i2, .int i3, .int i4] h) Q = Tr sc d 237 (0, [some (.ref k0), some (.int i1), some (.int i2), some (.int i3), some (.int i4), none, none], [], h) Q := by
  have e : mL 237 = 7 := by decide +kernel
  unfold ent0
  rw [e]
  rfl
theorem r_238 : mR 238 = some .int := by decide +kernel
theorem k_238_0 : lk 238 0 = some (.aload_n 0, 1, 0, 0, .null) := by decide +kernel
theorem x_238_0 : Tr sc d 238 (0, [some (.ref xk), l1, l2, l3, l4, l5, l6, l7], [], h) Q = Tr sc d 238 (1, [some (.ref xk), l1, l2, l3, l4, l5, l6, l7], [.ref xk], h) Q := t_aload_n k_238_0 rfl
theorem k_238_1 : lk 238 1 = some (.iload_n 1, 2, 1, 0, .null) := by decide +kernel
theorem x_238_1 : Tr sc d 238 (1, [l0, some (.int x), l2, l3, l4, l5, l6, l7], [.ref k0], h) Q = Tr sc d 238 (2, [l0, some (.int x), l2, l3, l4, l5, l6, l7], [.int x, .ref k0], h) Q := t_iload_n k_238_1 rfl
theorem k_238_2 : lk 238 2 = some (.iload_n 2, 3, 2, 0, .null) := by decide +kernel
theorem x_238_2 : Tr sc d 238 (2, [l0, l1, some (.int x), l3, l4, l5, l6, l7], [.int i1, .ref k0], h) Q = Tr sc d 238 (3, [l0, l1, some (.int x), l3, l4, l5, l6, l7], [.int x, .int i1, .ref k0], h) Q := t_iload_n k_238_2 rfl
theorem k_238_3 : lk 238 3 = some (.iconst 3, 4, 0, 0, .int 3) := by decide +kernel
theorem x_238_3 : Tr sc d 238 (3, [l0, l1, l2, l3, l4, l5, l6, l7], [.int i2, .int i1, .ref k0], h) Q = Tr sc d 238 (4, [l0, l1, l2, l3, l4, l5, l6, l7], [.int 3, .int i2, .int i1, .ref k0], h) Q := t_go k_238_3 rfl
theorem k_238_4 : lk 238 4 = some (.invokevirtual 304, 7, 206, 3, .null) := by decide +kernel
theorem x_238_4 : Tr sc (d + 1) 238 (4, [l0, l1, l2, l3, l4, l5, l6, l7], [.int i3, .int i2, .int i1, .ref k0], h) Q = (okp h k0 10 = true ∧ Tr sc d 206 (ent0 206 [.ref k0, .int i1, .int i2, .int i3] h) (fun z => Tr sc (d + 1) 238 (7, [l0, l1, l2, l3, l4, l5, l6, l7], z.1.toList ++ [], z.2) Q)) := t_cv (as := [.int i1, .int i2, .int i3]) (r := []) k_238_4 rfl rfl (Nat.le_of_ble_eq_true rfl) (Nat.le_of_ble_eq_true rfl) (Nat.le_of_ble_eq_true rfl)
theorem k_238_7 : lk 238 7 = some (.istore_n 3, 8, 3, 0, .null) := by decide +kernel
theorem x_238_7 : Tr sc d 238 (7, [l0, l1, l2, l3, l4, l5, l6, l7], [.int i0], h) Q = Tr sc d 238 (8, [l0, l1, cl2 l2, some (.int i0), l4, l5, l6, l7], [], h) Q := t_istore_n k_238_7 (Nat.le_of_ble_eq_true rfl)
theorem k_238_8 : lk 238 8 = some (.iload_n 3, 9, 3, 0, .null) := by decide +kernel
theorem x_238_8 : Tr sc d 238 (8, [l0, l1, l2, some (.int x), l4, l5, l6, l7], [], h) Q = Tr sc d 238 (9, [l0, l1, l2, some (.int x), l4, l5, l6, l7], [.int x], h) Q := t_iload_n k_238_8 rfl
theorem k_238_9 : lk 238 9 = some (.ifCond .ge 5, 12, 14, 0, .null) := by decide +kernel
theorem x_238_9 : Tr sc d 238 (9, [l0, l1, l2, l3, l4, l5, l6, l7], [.int i0], h) Q = if 0 ≤ i0 then Tr sc d 238 (14, [l0, l1, l2, l3, l4, l5, l6, l7], [], h) Q else Tr sc d 238 (12, [l0, l1, l2, l3, l4, l5, l6, l7], [], h) Q := t_if k_238_9 rfl
theorem k_238_12 : lk 238 12 = some (.iload_n 3, 13, 3, 0, .null) := by decide +kernel
theorem x_238_12 : Tr sc d 238 (12, [l0, l1, l2, some (.int x), l4, l5, l6, l7], [], h) Q = Tr sc d 238 (13, [l0, l1, l2, some (.int x), l4, l5, l6, l7], [.int x], h) Q := t_iload_n k_238_12 rfl
theorem k_238_13 : lk 238 13 = some (.ireturn, 14, 0, 0, .null) := by decide +kernel
theorem x_238_13 : Tr sc d 238 (13, [l0, l1, l2, l3, l4, l5, l6, l7], [.int i0], h) Q = Q (some (.int i0), h) := t_ret k_238_13 (by rw [r_238]; rfl)
theorem k_238_14 : lk 238 14 = some (.aload_n 0, 15, 0, 0, .null) := by decide +kernel
theorem x_238_14 : Tr sc d 238 (14, [some (.ref xk), l1, l2, l3, l4, l5, l6, l7], [], h) Q = Tr sc d 238 (15, [some (.ref xk), l1, l2, l3, l4, l5, l6, l7], [.ref xk], h) Q := t_aload_n k_238_14 rfl
theorem k_238_15 : lk 238 15 = some (.iload_n 1, 16, 1, 0, .null) := by decide +kernel
theorem x_238_15 : Tr sc d 238 (15, [l0, some (.int x), l2, l3, l4, l5, l6, l7], [.ref k0], h) Q = Tr sc d 238 (16, [l0, some (.int x), l2, l3, l4, l5, l6, l7], [.int x, .ref k0], h) Q := t_iload_n k_238_15 rfl
theorem k_238_16 : lk 238 16 = some (.iload_n 2, 17, 2, 0, .null) := by decide +kernel
theorem x_238_16 : Tr sc d 238 (16, [l0, l1, some (.int x), l3, l4, l5, l6, l7], [.int i1, .ref k0], h) Q = Tr sc d 238 (17, [l0, l1, some (.int x), l3, l4, l5, l6, l7], [.int x, .int i1, .ref k0], h) Q := t_iload_n k_238_16 rfl
theorem k_238_17 : lk 238 17 = some (.invokevirtual 307, 20, 204, 2, .null) := by decide +kernel
theorem x_238_17 : Tr sc (d + 1) 238 (17, [l0, l1, l2, l3, l4, l5, l6, l7], [.int i2, .int i1, .ref k0], h) Q = (okp h k0 10 = true ∧ Tr sc d 204 (ent0 204 [.ref k0, .int i1, .int i2] h) (fun z => Tr sc (d + 1) 238 (20, [l0, l1, l2, l3, l4, l5, l6, l7], z.1.toList ++ [], z.2) Q)) := t_cv (as := [.int i1, .int i2]) (r := []) k_238_17 rfl rfl (Nat.le_of_ble_eq_true rfl) (Nat.le_of_ble_eq_true rfl) (Nat.le_of_ble_eq_true rfl)
theorem k_238_20 : lk 238 20 = some (.aload_n 0, 21, 0, 0, .null) := by decide +kernel
theorem x_238_20 : Tr sc d 238 (20, [some (.ref xk), l1, l2, l3, l4, l5, l6, l7], [], h) Q = Tr sc d 238 (21, [some (.ref xk), l1, l2, l3, l4, l5, l6, l7], [.ref xk], h) Q := t_aload_n k_238_20 rfl
theorem k_238_21 : lk 238 21 = some (.getfield 283, 24, 10, 36, .int 0) := by decide +kernel
theorem x_238_21 : Tr sc d 238 (21, [l0, l1, l2, l3, l4, l5, l6, l7], [.ref k0], h) Q = (okp h k0 10 = true ∧ Tr sc d 238 (24, [l0, l1, l2, l3, l4, l5, l6, l7], [.int (hI h k0 36)], h) Q) := t_gd k_238_21 rfl
theorem k_238_24 : lk 238 24 = some (.ifCond .ne 5, 27, 29, 0, .null) := by decide +kernel
theorem x_238_24 : Tr sc d 238 (24, [l0, l1, l2, l3, l4, l5, l6, l7], [.int i0], h) Q = if i0 = 0 then Tr sc d 238 (27, [l0, l1, l2, l3, l4, l5, l6, l7], [], h) Q else Tr sc d 238 (29, [l0, l1, l2, l3, l4, l5, l6, l7], [], h) Q := t_if k_238_24 rfl
theorem k_238_27 : lk 238 27 = some (.iconst 0, 28, 0, 0, .int 0) := by decide +kernel
theorem x_238_27 : Tr sc d 238 (27, [l0, l1, l2, l3, l4, l5, l6, l7], [], h) Q = Tr sc d 238 (28, [l0, l1, l2, l3, l4, l5, l6, l7], [.int 0], h) Q := t_go k_238_27 rfl
theorem k_238_28 : lk 238 28 = some (.ireturn, 29, 0, 0, .null) := by decide +kernel
theorem x_238_28 : Tr sc d 238 (28, [l0, l1, l2, l3, l4, l5, l6, l7], [.int i0], h) Q = Q (some (.int i0), h) := t_ret k_238_28 (by rw [r_238]; rfl)
theorem k_238_29 : lk 238 29 = some (.aload_n 0, 30, 0, 0, .null) := by decide +kernel
theorem x_238_29 : Tr sc d 238 (29, [some (.ref xk), l1, l2, l3, l4, l5, l6, l7], [], h) Q = Tr sc d 238 (30, [some (.ref xk), l1, l2, l3, l4, l5, l6, l7], [.ref xk], h) Q := t_aload_n k_238_29 rfl
theorem k_238_30 : lk 238 30 = some (.getfield 295, 33, 10, 42, .int 0) := by decide +kernel
theorem x_238_30 : Tr sc d 238 (30, [l0, l1, l2, l3, l4, l5, l6, l7], [.ref k0], h) Q = (okp h k0 10 = true ∧ Tr sc d 238 (33, [l0, l1, l2, l3, l4, l5, l6, l7], [.int (hI h k0 42)], h) Q) := t_gd k_238_30 rfl
theorem k_238_33 : lk 238 33 = some (.aload_n 0, 34, 0, 0, .null) := by decide +kernel
theorem x_238_33 : Tr sc d 238 (33, [some (.ref xk), l1, l2, l3, l4, l5, l6, l7], [.int i0], h) Q = Tr sc d 238 (34, [some (.ref xk), l1, l2, l3, l4, l5, l6, l7], [.ref xk, .int i0], h) Q := t_aload_n k_238_33 rfl
theorem k_238_34 : lk 238 34 = some (.getfield 292, 37, 10, 41, .int 0) := by decide +kernel
theorem x_238_34 : Tr sc d 238 (34, [l0, l1, l2, l3, l4, l5, l6, l7], [.ref k1, .int i0], h) Q = (okp h k1 10 = true ∧ Tr sc d 238 (37, [l0, l1, l2, l3, l4, l5, l6, l7], [.int (hI h k1 41), .int i0], h) Q) := t_gd k_238_34 rfl
theorem k_238_37 : lk 238 37 = some (.isub, 38, 0, 0, .null) := by decide +kernel
theorem x_238_37 : Tr sc d 238 (37, [l0, l1, l2, l3, l4, l5, l6, l7], [.int i1, .int i0], h) Q = Tr sc d 238 (38, [l0, l1, l2, l3, l4, l5, l6, l7], [.int (i0 - i1)], h) Q := t_go k_238_37 rfl
theorem k_238_38 : lk 238 38 = some (.iconst 3, 39, 0, 0, .int 3) := by decide +kernel
theorem x_238_38 : Tr sc d 238 (38, [l0, l1, l2, l3, l4, l5, l6, l7], [.int i0], h) Q = Tr sc d 238 (39, [l0, l1, l2, l3, l4, l5, l6, l7], [.int 3, .int i0], h) Q := t_go k_238_38 rfl
theorem k_238_39 : lk 238 39 = some (.iadd, 40, 0, 0, .null) := by decide +kernel
theorem x_238_39 : Tr sc d 238 (39, [l0, l1, l2, l3, l4, l5, l6, l7], [.int i1, .int i0], h) Q = Tr sc d 238 (40, [l0, l1, l2, l3, l4, l5, l6, l7], [.int (i0 + i1)], h) Q := t_go k_238_39 rfl
theorem k_238_40 : lk 238 40 = some (.istore 4, 42, 4, 0, .null) := by decide +kernel
theorem x_238_40 : Tr sc d 238 (40, [l0, l1, l2, l3, l4, l5, l6, l7], [.int i0], h) Q = Tr sc d 238 (42, [l0, l1, l2, cl2 l3, some (.int i0), l5, l6, l7], [], h) Q := t_istore k_238_40 (Nat.le_of_ble_eq_true rfl)
theorem k_238_42 : lk 238 42 = some (.aload_n 0, 43, 0, 0, .null) := by decide +kernel
theorem x_238_42 : Tr sc d 238 (42, [some (.ref xk), l1, l2, l3, l4, l5, l6, l7], [], h) Q = Tr sc d 238 (43, [some (.ref xk), l1, l2, l3, l4, l5, l6, l7], [.ref xk], h) Q := t_aload_n k_238_42 rfl
theorem k_238_43 : lk 238 43 = some (.getfield 301, 46, 10, 44, .int 0) := by decide +kernel
theorem x_238_43 : Tr sc d 238 (43, [l0, l1, l2, l3, l4, l5, l6, l7], [.ref k0], h) Q = (okp h k0 10 = true ∧ Tr sc d 238 (46, [l0, l1, l2, l3, l4, l5, l6, l7], [.int (hI h k0 44)], h) Q) := t_gd k_238_43 rfl
theorem k_238_46 : lk 238 46 = some (.aload_n 0, 47, 0, 0, .null) := by decide +kernel
theorem x_238_46 : Tr sc d 238 (46, [some (.ref xk), l1, l2, l3, l4, l5, l6, l7], [.int i0], h) Q = Tr sc d 238 (47, [some (.ref xk), l1, l2, l3, l4, l5, l6, l7], [.ref xk, .int i0], h) Q := t_aload_n k_238_46 rfl
theorem k_238_47 : lk 238 47 = some (.getfield 298, 50, 10, 43, .int 0) := by decide +kernel
theorem x_238_47 : Tr sc d 238 (47, [l0, l1, l2, l3, l4, l5, l6, l7], [.ref k1, .int i0], h) Q = (okp h k1 10 = true ∧ Tr sc d 238 (50, [l0, l1, l2, l3, l4, l5, l6, l7], [.int (hI h k1 43), .int i0], h) Q) := t_gd k_238_47 rfl
theorem k_238_50 : lk 238 50 = some (.isub, 51, 0, 0, .null) := by decide +kernel
theorem x_238_50 : Tr sc d 238 (50, [l0, l1, l2, l3, l4, l5, l6, l7], [.int i1, .int i0], h) Q = Tr sc d 238 (51, [l0, l1, l2, l3, l4, l5, l6, l7], [.int (i0 - i1)], h) Q := t_go k_238_50 rfl
theorem k_238_51 : lk 238 51 = some (.iconst 3, 52, 0, 0, .int 3) := by decide +kernel
theorem x_238_51 : Tr sc d 238 (51, [l0, l1, l2, l3, l4, l5, l6, l7], [.int i0], h) Q = Tr sc d 238 (52, [l0, l1, l2, l3, l4, l5, l6, l7], [.int 3, .int i0], h) Q := t_go k_238_51 rfl
theorem k_238_52 : lk 238 52 = some (.iadd, 53, 0, 0, .null) := by decide +kernel
theorem x_238_52 : Tr sc d 238 (52, [l0, l1, l2, l3, l4, l5, l6, l7], [.int i1, .int i0], h) Q = Tr sc d 238 (53, [l0, l1, l2, l3, l4, l5, l6, l7], [.int (i0 + i1)], h) Q := t_go k_238_52 rfl
theorem k_238_53 : lk 238 53 = some (.istore 5, 55, 5, 0, .null) := by decide +kernel
theorem x_238_53 : Tr sc d 238 (53, [l0, l1, l2, l3, l4, l5, l6, l7], [.int i0], h) Q = Tr sc d 238 (55, [l0, l1, l2, l3, cl2 l4, some (.int i0), l6, l7], [], h) Q := t_istore k_238_53 (Nat.le_of_ble_eq_true rfl)
theorem k_238_55 : lk 238 55 = some (.iload 4, 57, 4, 0, .null) := by decide +kernel
theorem x_238_55 : Tr sc d 238 (55, [l0, l1, l2, l3, some (.int x), l5, l6, l7], [], h) Q = Tr sc d 238 (57, [l0, l1, l2, l3, some (.int x), l5, l6, l7], [.int x], h) Q := t_iload k_238_55 rfl
theorem k_238_57 : lk 238 57 = some (.i2l, 58, 0, 0, .null) := by decide +kernel
theorem x_238_57 : Tr sc d 238 (57, [l0, l1, l2, l3, l4, l5, l6, l7], [.int i0], h) Q = Tr sc d 238 (58, [l0, l1, l2, l3, l4, l5, l6, l7], [.long i0.toInt64], h) Q := t_go k_238_57 rfl
theorem k_238_58 : lk 238 58 = some (.iload 5, 60, 5, 0, .null) := by decide +kernel
theorem x_238_58 : Tr sc d 238 (58, [l0, l1, l2, l3, l4, some (.int x), l6, l7], [.long j0], h) Q = Tr sc d 238 (60, [l0, l1, l2, l3, l4, some (.int x), l6, l7], [.int x, .long j0], h) Q := t_iload k_238_58 rfl
theorem k_238_60 : lk 238 60 = some (.i2l, 61, 0, 0, .null) := by decide +kernel
theorem x_238_60 : Tr sc d 238 (60, [l0, l1, l2, l3, l4, l5, l6, l7], [.int i1, .long j0], h) Q = Tr sc d 238 (61, [l0, l1, l2, l3, l4, l5, l6, l7], [.long i1.toInt64, .long j0], h) Q := t_go k_238_60 rfl
theorem k_238_61 : lk 238 61 = some (.lmul, 62, 0, 0, .null) := by decide +kernel
theorem x_238_61 : Tr sc d 238 (61, [l0, l1, l2, l3, l4, l5, l6, l7], [.long j1, .long j0], h) Q = Tr sc d 238 (62, [l0, l1, l2, l3, l4, l5, l6, l7], [.long (j0 * j1)], h) Q := t_go k_238_61 rfl
theorem k_238_62 : lk 238 62 = some (.ldc2_w 362, 65, 0, 1692, .long 1600) := by decide +kernel
theorem x_238_62 : Tr sc d 238 (62, [l0, l1, l2, l3, l4, l5, l6, l7], [.long j0], h) Q = Tr sc d 238 (65, [l0, l1, l2, l3, l4, l5, l6, l7], [.long 1600, .long j0], h) Q := t_go k_238_62 rfl
theorem k_238_65 : lk 238 65 = some (.lcmp, 66, 0, 0, .null) := by decide +kernel
theorem x_238_65 : Tr sc d 238 (65, [l0, l1, l2, l3, l4, l5, l6, l7], [.long j1, .long j0], h) Q = Tr sc d 238 (66, [l0, l1, l2, l3, l4, l5, l6, l7], [.int (lg_cmp j0 j1)], h) Q := t_go k_238_65 rfl
theorem k_238_66 : lk 238 66 = some (.ifCond .le 6, 69, 72, 0, .null) := by decide +kernel
theorem x_238_66 : Tr sc d 238 (66, [l0, l1, l2, l3, l4, l5, l6, l7], [.int i0], h) Q = if i0 ≤ 0 then Tr sc d 238 (72, [l0, l1, l2, l3, l4, l5, l6, l7], [], h) Q else Tr sc d 238 (69, [l0, l1, l2, l3, l4, l5, l6, l7], [], h) Q := t_if k_238_66 rfl
theorem k_238_69 : lk 238 69 = some (.bipush (-6), 71, 0, 0, .int (-6)) := by decide +kernel
theorem x_238_69 : Tr sc d 238 (69, [l0, l1, l2, l3, l4, l5, l6, l7], [], h) Q = Tr sc d 238 (71, [l0, l1, l2, l3, l4, l5, l6, l7], [.int (-6)], h) Q := t_go k_238_69 rfl
theorem k_238_71 : lk 238 71 = some (.ireturn, 72, 0, 0, .null) := by decide +kernel
theorem x_238_71 : Tr sc d 238 (71, [l0, l1, l2, l3, l4, l5, l6, l7], [.int i0], h) Q = Q (some (.int i0), h) := t_ret k_238_71 (by rw [r_238]; rfl)
theorem k_238_72 : lk 238 72 = some (.iconst 0, 73, 0, 0, .int 0) := by decide +kernel
theorem x_238_72 : Tr sc d 238 (72, [l0, l1, l2, l3, l4, l5, l6, l7], [], h) Q = Tr sc d 238 (73, [l0, l1, l2, l3, l4, l5, l6, l7], [.int 0], h) Q := t_go k_238_72 rfl
theorem k_238_73 : lk 238 73 = some (.istore 6, 75, 6, 0, .null) := by decide +kernel
theorem x_238_73 : Tr sc d 238 (73, [l0, l1, l2, l3, l4, l5, l6, l7], [.int i0], h) Q = Tr sc d 238 (75, [l0, l1, l2, l3, l4, cl2 l5, some (.int i0), l7], [], h) Q := t_istore k_238_73 (Nat.le_of_ble_eq_true rfl)
theorem k_238_75 : lk 238 75 = some (.iload 6, 77, 6, 0, .null) := by decide +kernel
theorem x_238_75 : Tr sc d 238 (75, [l0, l1, l2, l3, l4, l5, some (.int x), l7], [], h) Q = Tr sc d 238 (77, [l0, l1, l2, l3, l4, l5, some (.int x), l7], [.int x], h) Q := t_iload k_238_75 rfl
theorem k_238_77 : lk 238 77 = some (.iload 4, 79, 4, 0, .null) := by decide +kernel
theorem x_238_77 : Tr sc d 238 (77, [l0, l1, l2, l3, some (.int x), l5, l6, l7], [.int i0], h) Q = Tr sc d 238 (79, [l0, l1, l2, l3, some (.int x), l5, l6, l7], [.int x, .int i0], h) Q := t_iload k_238_77 rfl
theorem k_238_79 : lk 238 79 = some (.iload 5, 81, 5, 0, .null) := by decide +kernel
theorem x_238_79 : Tr sc d 238 (79, [l0, l1, l2, l3, l4, some (.int x), l6, l7], [.int i1, .int i0], h) Q = Tr sc d 238 (81, [l0, l1, l2, l3, l4, some (.int x), l6, l7], [.int x, .int i1, .int i0], h) Q := t_iload k_238_79 rfl
theorem k_238_81 : lk 238 81 = some (.imul, 82, 0, 0, .null) := by decide +kernel
theorem x_238_81 : Tr sc d 238 (81, [l0, l1, l2, l3, l4, l5, l6, l7], [.int i2, .int i1, .int i0], h) Q = Tr sc d 238 (82, [l0, l1, l2, l3, l4, l5, l6, l7], [.int (i1 * i2), .int i0], h) Q := t_go k_238_81 rfl
theorem k_238_82 : lk 238 82 = some (.if_icmp .ge 17, 85, 99, 0, .null) := by decide +kernel
theorem x_238_82 : Tr sc d 238 (82, [l0, l1, l2, l3, l4, l5, l6, l7], [.int i1, .int i0], h) Q = if i1 ≤ i0 then Tr sc d 238 (99, [l0, l1, l2, l3, l4, l5, l6, l7], [], h) Q else Tr sc d 238 (85, [l0, l1, l2, l3, l4, l5, l6, l7], [], h) Q := t_if k_238_82 rfl
theorem k_238_85 : lk 238 85 = some (.aload_n 0, 86, 0, 0, .null) := by decide +kernel
theorem x_238_85 : Tr sc d 238 (85, [some (.ref xk), l1, l2, l3, l4, l5, l6, l7], [], h) Q = Tr sc d 238 (86, [some (.ref xk), l1, l2, l3, l4, l5, l6, l7], [.ref xk], h) Q := t_aload_n k_238_85 rfl
theorem k_238_86 : lk 238 86 = some (.getfield 122, 89, 10, 58, .null) := by decide +kernel
theorem x_238_86 : Tr sc d 238 (86, [l0, l1, l2, l3, l4, l5, l6, l7], [.ref k0], h) Q = (okp h k0 10 = true ∧ ∃ q, hR h k0 58 = some q ∧ Tr sc d 238 (89, [l0, l1, l2, l3, l4, l5, l6, l7], [.ref q], h) Q) := t_getr k_238_86
theorem k_238_89 : lk 238 89 = some (.iload 6, 91, 6, 0, .null) := by decide +kernel
theorem x_238_89 : Tr sc d 238 (89, [l0, l1, l2, l3, l4, l5, some (.int x), l7], [.ref k0], h) Q = Tr sc d 238 (91, [l0, l1, l2, l3, l4, l5, some (.int x), l7], [.int x, .ref k0], h) Q := t_iload k_238_89 rfl
theorem k_238_91 : lk 238 91 = some (.iconst 0, 92, 0, 0, .int 0) := by decide +kernel
theorem x_238_91 : Tr sc d 238 (91, [l0, l1, l2, l3, l4, l5, l6, l7], [.int i1, .ref k0], h) Q = Tr sc d 238 (92, [l0, l1, l2, l3, l4, l5, l6, l7], [.int 0, .int i1, .ref k0], h) Q := t_go k_238_91 rfl
theorem k_238_92 : lk 238 92 = some (.iastore, 93, 0, 0, .null) := by decide +kernel
theorem x_238_92 : Tr sc d 238 (92, [l0, l1, l2, l3, l4, l5, l6, l7], [.int i2, .int i1, .ref k0], h) Q = ((okp h k0 11 && inb i1 (LN k0)) = true ∧ Tr sc d 238 (93, [l0, l1, l2, l3, l4, l5, l6, l7], [], (sI h k0 i1.toNatClampNeg i2)) Q) := t_gd k_238_92 rfl
theorem k_238_93 : lk 238 93 = some (.iinc 6 1, 96, 6, 0, .int 1) := by decide +kernel
theorem x_238_93 : Tr sc d 238 (93, [l0, l1, l2, l3, l4, l5, some (.int x), l7], [], h) Q = Tr sc d 238 (96, [l0, l1, l2, l3, l4, cl2 l5, some (.int (x + 1)), l7], [], h) Q := t_inc k_238_93 rfl (Nat.le_of_ble_eq_true rfl)
theorem k_238_96 : lk 238 96 = some (.goto (-21), 99, 75, 0, .null) := by decide +kernel
theorem x_238_96 : Tr sc d 238 (96, [l0, l1, l2, l3, l4, l5, l6, l7], [], h) Q = Tr sc d 238 (75, [l0, l1, l2, l3, l4, l5, l6, l7], [], h) Q := t_go k_238_96 rfl
theorem k_238_99 : lk 238 99 = some (.iconst 0, 100, 0, 0, .int 0) := by decide +kernel
theorem x_238_99 : Tr sc d 238 (99, [l0, l1, l2, l3, l4, l5, l6, l7], [], h) Q = Tr sc d 238 (100, [l0, l1, l2, l3, l4, l5, l6, l7], [.int 0], h) Q := t_go k_238_99 rfl
theorem k_238_100 : lk 238 100 = some (.istore 6, 102, 6, 0, .null) := by decide +kernel
theorem x_238_100 : Tr sc d 238 (100, [l0, l1, l2, l3, l4, l5, l6, l7], [.int i0], h) Q = Tr sc d 238 (102, [l0, l1, l2, l3, l4, cl2 l5, some (.int i0), l7], [], h) Q := t_istore k_238_100 (Nat.le_of_ble_eq_true rfl)
theorem k_238_102 : lk 238 102 = some (.iload 6, 104, 6, 0, .null) := by decide +kernel
theorem x_238_102 : Tr sc d 238 (102, [l0, l1, l2, l3, l4, l5, some (.int x), l7], [], h) Q = Tr sc d 238 (104, [l0, l1, l2, l3, l4, l5, some (.int x), l7], [.int x], h) Q := t_iload k_238_102 rfl
theorem k_238_104 : lk 238 104 = some (.aload_n 0, 105, 0, 0, .null) := by decide +kernel
theorem x_238_104 : Tr sc d 238 (104, [some (.ref xk), l1, l2, l3, l4, l5, l6, l7], [.int i0], h) Q = Tr sc d 238 (105, [some (.ref xk), l1, l2, l3, l4, l5, l6, l7], [.ref xk, .int i0], h) Q := t_aload_n k_238_104 rfl
theorem k_238_105 : lk 238 105 = some (.getfield 283, 108, 10, 36, .int 0) := by decide +kernel
theorem x_238_105 : Tr sc d 238 (105, [l0, l1, l2, l3, l4, l5, l6, l7], [.ref k1, .int i0], h) Q = (okp h k1 10 = true ∧ Tr sc d 238 (108, [l0, l1, l2, l3, l4, l5, l6, l7], [.int (hI h k1 36), .int i0], h) Q) := t_gd k_238_105 rfl
theorem k_238_108 : lk 238 108 = some (.if_icmp .ge 47, 111, 155, 0, .null) := by decide +kernel
theorem x_238_108 : Tr sc d 238 (108, [l0, l1, l2, l3, l4, l5, l6, l7], [.int i1, .int i0], h) Q = if i1 ≤ i0 then Tr sc d 238 (155, [l0, l1, l2, l3, l4, l5, l6, l7], [], h) Q else Tr sc d 238 (111, [l0, l1, l2, l3, l4, l5, l6, l7], [], h) Q := t_if k_238_108 rfl
theorem k_238_111 : lk 238 111 = some (.aload_n 0, 112, 0, 0, .null) := by decide +kernel
theorem x_238_111 : Tr sc d 238 (111, [some (.ref xk), l1, l2, l3, l4, l5, l6, l7], [], h) Q = Tr sc d 238 (112, [some (.ref xk), l1, l2, l3, l4, l5, l6, l7], [.ref xk], h) Q := t_aload_n k_238_111 rfl
theorem k_238_112 : lk 238 112 = some (.getfield 122, 115, 10, 58, .null) := by decide +kernel
theorem x_238_112 : Tr sc d 238 (112, [l0, l1, l2, l3, l4, l5, l6, l7], [.ref k0], h) Q = (okp h k0 10 = true ∧ ∃ q, hR h k0 58 = some q ∧ Tr sc d 238 (115, [l0, l1, l2, l3, l4, l5, l6, l7], [.ref q], h) Q) := t_getr k_238_112
theorem k_238_115 : lk 238 115 = some (.iload 4, 117, 4, 0, .null) := by decide +kernel
theorem x_238_115 : Tr sc d 238 (115, [l0, l1, l2, l3, some (.int x), l5, l6, l7], [.ref k0], h) Q = Tr sc d 238 (117, [l0, l1, l2, l3, some (.int x), l5, l6, l7], [.int x, .ref k0], h) Q := t_iload k_238_115 rfl
theorem k_238_117 : lk 238 117 = some (.aload_n 0, 118, 0, 0, .null) := by decide +kernel
theorem x_238_117 : Tr sc d 238 (117, [some (.ref xk), l1, l2, l3, l4, l5, l6, l7], [.int i1, .ref k0], h) Q = Tr sc d 238 (118, [some (.ref xk), l1, l2, l3, l4, l5, l6, l7], [.ref xk, .int i1, .ref k0], h) Q := t_aload_n k_238_117 rfl
theorem k_238_118 : lk 238 118 = some (.getfield 81, 121, 10, 40, .null) := by decide +kernel
theorem x_238_118 : Tr sc d 238 (118, [l0, l1, l2, l3, l4, l5, l6, l7], [.ref k2, .int i1, .ref k0], h) Q = (okp h k2 10 = true ∧ ∃ q, hR h k2 40 = some q ∧ Tr sc d 238 (121, [l0, l1, l2, l3, l4, l5, l6, l7], [.ref q, .int i1, .ref k0], h) Q) := t_getr k_238_118
theorem k_238_121 : lk 238 121 = some (.iload 6, 123, 6, 0, .null) := by decide +kernel
theorem x_238_121 : Tr sc d 238 (121, [l0, l1, l2, l3, l4, l5, some (.int x), l7], [.ref k2, .int i1, .ref k0], h) Q = Tr sc d 238 (123, [l0, l1, l2, l3, l4, l5, some (.int x), l7], [.int x, .ref k2, .int i1, .ref k0], h) Q := t_iload k_238_121 rfl
theorem k_238_123 : lk 238 123 = some (.iaload, 124, 0, 0, .null) := by decide +kernel
theorem x_238_123 : Tr sc d 238 (123, [l0, l1, l2, l3, l4, l5, l6, l7], [.int i3, .ref k2, .int i1, .ref k0], h) Q = (iOk sc h k2 i3 ∧ Tr sc d 238 (124, [l0, l1, l2, l3, l4, l5, l6, l7], [.int (iRd sc h k2 i3), .int i1, .ref k0], h) Q) := t_iald k_238_123
theorem k_238_124 : lk 238 124 = some (.aload_n 0, 125, 0, 0, .null) := by decide +kernel
theorem x_238_124 : Tr sc d 238 (124, [some (.ref xk), l1, l2, l3, l4, l5, l6, l7], [.int i2, .int i1, .ref k0], h) Q = Tr sc d 238 (125, [some (.ref xk), l1, l2, l3, l4, l5, l6, l7], [.ref xk, .int i2, .int i1, .ref k0], h) Q := t_aload_n k_238_124 rfl
theorem k_238_125 : lk 238 125 = some (.getfield 298, 128, 10, 43, .int 0) := by decide +kernel
theorem x_238_125 : Tr sc d 238 (125, [l0, l1, l2, l3, l4, l5, l6, l7], [.ref k3, .int i2, .int i1, .ref k0], h) Q = (okp h k3 10 = true ∧ Tr sc d 238 (128, [l0, l1, l2, l3, l4, l5, l6, l7], [.int (hI h k3 43), .int i2, .int i1, .ref k0], h) Q) := t_gd k_238_125 rfl
theorem k_238_128 : lk 238 128 = some (.isub, 129, 0, 0, .null) := by decide +kernel
theorem x_238_128 : Tr sc d 238 (128, [l0, l1, l2, l3, l4, l5, l6, l7], [.int i3, .int i2, .int i1, .ref k0], h) Q = Tr sc d 238 (129, [l0, l1, l2, l3, l4, l5, l6, l7], [.int (i2 - i3), .int i1, .ref k0], h) Q := t_go k_238_128 rfl
theorem k_238_129 : lk 238 129 = some (.iconst 1, 130, 0, 0, .int 1) := by decide +kernel
theorem x_238_129 : Tr sc d 238 (129, [l0, l1, l2, l3, l4, l5, l6, l7], [.int i2, .int i1, .ref k0], h) Q = Tr sc d 238 (130, [l0, l1, l2, l3, l4, l5, l6, l7], [.int 1, .int i2, .int i1, .ref k0], h) Q := t_go k_238_129 rfl
theorem k_238_130 : lk 238 130 = some (.iadd, 131, 0, 0, .null) := by decide +kernel
theorem x_238_130 : Tr sc d 238 (130, [l0, l1, l2, l3, l4, l5, l6, l7], [.int i3, .int i2, .int i1, .ref k0], h) Q = Tr sc d 238 (131, [l0, l1, l2, l3, l4, l5, l6, l7], [.int (i2 + i3), .int i1, .ref k0], h) Q := t_go k_238_130 rfl
theorem k_238_131 : lk 238 131 = some (.imul, 132, 0, 0, .null) := by decide +kernel
theorem x_238_131 : Tr sc d 238 (131, [l0, l1, l2, l3, l4, l5, l6, l7], [.int i2, .int i1, .ref k0], h) Q = Tr sc d 238 (132, [l0, l1, l2, l3, l4, l5, l6, l7], [.int (i1 * i2), .ref k0], h) Q := t_go k_238_131 rfl
theorem k_238_132 : lk 238 132 = some (.aload_n 0, 133, 0, 0, .null) := by decide +kernel
theorem x_238_132 : Tr sc d 238 (132, [some (.ref xk), l1, l2, l3, l4, l5, l6, l7], [.int i1, .ref k0], h) Q = Tr sc d 238 (133, [some (.ref xk), l1, l2, l3, l4, l5, l6, l7], [.ref xk, .int i1, .ref k0], h) Q := t_aload_n k_238_132 rfl
theorem k_238_133 : lk 238 133 = some (.getfield 78, 136, 10, 39, .null) := by decide +kernel
theorem x_238_133 : Tr sc d 238 (133, [l0, l1, l2, l3, l4, l5, l6, l7], [.ref k2, .int i1, .ref k0], h) Q = (okp h k2 10 = true ∧ ∃ q, hR h k2 39 = some q ∧ Tr sc d 238 (136, [l0, l1, l2, l3, l4, l5, l6, l7], [.ref q, .int i1, .ref k0], h) Q) := t_getr k_238_133
theorem k_238_136 : lk 238 136 = some (.iload 6, 138, 6, 0, .null) := by decide +kernel
theorem x_238_136 : Tr sc d 238 (136, [l0, l1, l2, l3, l4, l5, some (.int x), l7], [.ref k2, .int i1, .ref k0], h) Q = Tr sc d 238 (138, [l0, l1, l2, l3, l4, l5, some (.int x), l7], [.int x, .ref k2, .int i1, .ref k0], h) Q := t_iload k_238_136 rfl
theorem k_238_138 : lk 238 138 = some (.iaload, 139, 0, 0, .null) := by decide +kernel
theorem x_238_138 : Tr sc d 238 (138, [l0, l1, l2, l3, l4, l5, l6, l7], [.int i3, .ref k2, .int i1, .ref k0], h) Q = (iOk sc h k2 i3 ∧ Tr sc d 238 (139, [l0, l1, l2, l3, l4, l5, l6, l7], [.int (iRd sc h k2 i3), .int i1, .ref k0], h) Q) := t_iald k_238_138
theorem k_238_139 : lk 238 139 = some (.iadd, 140, 0, 0, .null) := by decide +kernel
theorem x_238_139 : Tr sc d 238 (139, [l0, l1, l2, l3, l4, l5, l6, l7], [.int i2, .int i1, .ref k0], h) Q = Tr sc d 238 (140, [l0, l1, l2, l3, l4, l5, l6, l7], [.int (i1 + i2), .ref k0], h) Q := t_go k_238_139 rfl
theorem k_238_140 : lk 238 140 = some (.aload_n 0, 141, 0, 0, .null) := by decide +kernel
theorem x_238_140 : Tr sc d 238 (140, [some (.ref xk), l1, l2, l3, l4, l5, l6, l7], [.int i1, .ref k0], h) Q = Tr sc d 238 (141, [some (.ref xk), l1, l2, l3, l4, l5, l6, l7], [.ref xk, .int i1, .ref k0], h) Q := t_aload_n k_238_140 rfl
theorem k_238_141 : lk 238 141 = some (.getfield 292, 144, 10, 41, .int 0) := by decide +kernel
theorem x_238_141 : Tr sc d 238 (141, [l0, l1, l2, l3, l4, l5, l6, l7], [.ref k2, .int i1, .ref k0], h) Q = (okp h k2 10 = true ∧ Tr sc d 238 (144, [l0, l1, l2, l3, l4, l5, l6, l7], [.int (hI h k2 41), .int i1, .ref k0], h) Q) := t_gd k_238_141 rfl
theorem k_238_144 : lk 238 144 = some (.isub, 145, 0, 0, .null) := by decide +kernel
theorem x_238_144 : Tr sc d 238 (144, [l0, l1, l2, l3, l4, l5, l6, l7], [.int i2, .int i1, .ref k0], h) Q = Tr sc d 238 (145, [l0, l1, l2, l3, l4, l5, l6, l7], [.int (i1 - i2), .ref k0], h) Q := t_go k_238_144 rfl
theorem k_238_145 : lk 238 145 = some (.iconst 1, 146, 0, 0, .int 1) := by decide +kernel
theorem x_238_145 : Tr sc d 238 (145, [l0, l1, l2, l3, l4, l5, l6, l7], [.int i1, .ref k0], h) Q = Tr sc d 238 (146, [l0, l1, l2, l3, l4, l5, l6, l7], [.int 1, .int i1, .ref k0], h) Q := t_go k_238_145 rfl
theorem k_238_146 : lk 238 146 = some (.iadd, 147, 0, 0, .null) := by decide +kernel
theorem x_238_146 : Tr sc d 238 (146, [l0, l1, l2, l3, l4, l5, l6, l7], [.int i2, .int i1, .ref k0], h) Q = Tr sc d 238 (147, [l0, l1, l2, l3, l4, l5, l6, l7], [.int (i1 + i2), .ref k0], h) Q := t_go k_238_146 rfl
theorem k_238_147 : lk 238 147 = some (.iconst 1, 148, 0, 0, .int 1) := by decide +kernel
theorem x_238_147 : Tr sc d 238 (147, [l0, l1, l2, l3, l4, l5, l6, l7], [.int i1, .ref k0], h) Q = Tr sc d 238 (148, [l0, l1, l2, l3, l4, l5, l6, l7], [.int 1, .int i1, .ref k0], h) Q := t_go k_238_147 rfl
theorem k_238_148 : lk 238 148 = some (.iastore, 149, 0, 0, .null) := by decide +kernel
theorem x_238_148 : Tr sc d 238 (148, [l0, l1, l2, l3, l4, l5, l6, l7], [.int i2, .int i1, .ref k0], h) Q = ((okp h k0 11 && inb i1 (LN k0)) = true ∧ Tr sc d 238 (149, [l0, l1, l2, l3, l4, l5, l6, l7], [], (sI h k0 i1.toNatClampNeg i2)) Q) := t_gd k_238_148 rfl
theorem k_238_149 : lk 238 149 = some (.iinc 6 1, 152, 6, 0, .int 1) := by decide +kernel
theorem x_238_149 : Tr sc d 238 (149, [l0, l1, l2, l3, l4, l5, some (.int x), l7], [], h) Q = Tr sc d 238 (152, [l0, l1, l2, l3, l4, cl2 l5, some (.int (x + 1)), l7], [], h) Q := t_inc k_238_149 rfl (Nat.le_of_ble_eq_true rfl)
theorem k_238_152 : lk 238 152 = some (.goto (-50), 155, 102, 0, .null) := by decide +kernel
theorem x_238_152 : Tr sc d 238 (152, [l0, l1, l2, l3, l4, l5, l6, l7], [], h) Q = Tr sc d 238 (102, [l0, l1, l2, l3, l4, l5, l6, l7], [], h) Q := t_go k_238_152 rfl
theorem k_238_155 : lk 238 155 = some (.iconst 0, 156, 0, 0, .int 0) := by decide +kernel
theorem x_238_155 : Tr sc d 238 (155, [l0, l1, l2, l3, l4, l5, l6, l7], [], h) Q = Tr sc d 238 (156, [l0, l1, l2, l3, l4, l5, l6, l7], [.int 0], h) Q := t_go k_238_155 rfl
theorem k_238_156 : lk 238 156 = some (.istore 6, 158, 6, 0, .null) := by decide +kernel
theorem x_238_156 : Tr sc d 238 (156, [l0, l1, l2, l3, l4, l5, l6, l7], [.int i0], h) Q = Tr sc d 238 (158, [l0, l1, l2, l3, l4, cl2 l5, some (.int i0), l7], [], h) Q := t_istore k_238_156 (Nat.le_of_ble_eq_true rfl)
theorem k_238_158 : lk 238 158 = some (.iconst 0, 159, 0, 0, .int 0) := by decide +kernel
theorem x_238_158 : Tr sc d 238 (158, [l0, l1, l2, l3, l4, l5, l6, l7], [], h) Q = Tr sc d 238 (159, [l0, l1, l2, l3, l4, l5, l6, l7], [.int 0], h) Q := t_go k_238_158 rfl
theorem k_238_159 : lk 238 159 = some (.istore 7, 161, 7, 0, .null) := by decide +kernel
theorem x_238_159 : Tr sc d 238 (159, [l0, l1, l2, l3, l4, l5, l6, l7], [.int i0], h) Q = Tr sc d 238 (161, [l0, l1, l2, l3, l4, l5, cl2 l6, some (.int i0)], [], h) Q := t_istore k_238_159 (Nat.le_of_ble_eq_true rfl)
theorem k_238_161 : lk 238 161 = some (.iload 7, 163, 7, 0, .null) := by decide +kernel
theorem x_238_161 : Tr sc d 238 (161, [l0, l1, l2, l3, l4, l5, l6, some (.int x)], [], h) Q = Tr sc d 238 (163, [l0, l1, l2, l3, l4, l5, l6, some (.int x)], [.int x], h) Q := t_iload k_238_161 rfl
theorem k_238_163 : lk 238 163 = some (.iload 4, 165, 4, 0, .null) := by decide +kernel
theorem x_238_163 : Tr sc d 238 (163, [l0, l1, l2, l3, some (.int x), l5, l6, l7], [.int i0], h) Q = Tr sc d 238 (165, [l0, l1, l2, l3, some (.int x), l5, l6, l7], [.int x, .int i0], h) Q := t_iload k_238_163 rfl
theorem k_238_165 : lk 238 165 = some (.iload 5, 167, 5, 0, .null) := by decide +kernel
theorem x_238_165 : Tr sc d 238 (165, [l0, l1, l2, l3, l4, some (.int x), l6, l7], [.int i1, .int i0], h) Q = Tr sc d 238 (167, [l0, l1, l2, l3, l4, some (.int x), l6, l7], [.int x, .int i1, .int i0], h) Q := t_iload k_238_165 rfl
theorem k_238_167 : lk 238 167 = some (.imul, 168, 0, 0, .null) := by decide +kernel
theorem x_238_167 : Tr sc d 238 (167, [l0, l1, l2, l3, l4, l5, l6, l7], [.int i2, .int i1, .int i0], h) Q = Tr sc d 238 (168, [l0, l1, l2, l3, l4, l5, l6, l7], [.int (i1 * i2), .int i0], h) Q := t_go k_238_167 rfl
theorem k_238_168 : lk 238 168 = some (.if_icmp .ge 32, 171, 200, 0, .null) := by decide +kernel
theorem x_238_168 : Tr sc d 238 (168, [l0, l1, l2, l3, l4, l5, l6, l7], [.int i1, .int i0], h) Q = if i1 ≤ i0 then Tr sc d 238 (200, [l0, l1, l2, l3, l4, l5, l6, l7], [], h) Q else Tr sc d 238 (171, [l0, l1, l2, l3, l4, l5, l6, l7], [], h) Q := t_if k_238_168 rfl
theorem k_238_171 : lk 238 171 = some (.aload_n 0, 172, 0, 0, .null) := by decide +kernel
theorem x_238_171 : Tr sc d 238 (171, [some (.ref xk), l1, l2, l3, l4, l5, l6, l7], [], h) Q = Tr sc d 238 (172, [some (.ref xk), l1, l2, l3, l4, l5, l6, l7], [.ref xk], h) Q := t_aload_n k_238_171 rfl
theorem k_238_172 : lk 238 172 = some (.getfield 122, 175, 10, 58, .null) := by decide +kernel
theorem x_238_172 : Tr sc d 238 (172, [l0, l1, l2, l3, l4, l5, l6, l7], [.ref k0], h) Q = (okp h k0 10 = true ∧ ∃ q, hR h k0 58 = some q ∧ Tr sc d 238 (175, [l0, l1, l2, l3, l4, l5, l6, l7], [.ref q], h) Q) := t_getr k_238_172
theorem k_238_175 : lk 238 175 = some (.iload 7, 177, 7, 0, .null) := by decide +kernel
theorem x_238_175 : Tr sc d 238 (175, [l0, l1, l2, l3, l4, l5, l6, some (.int x)], [.ref k0], h) Q = Tr sc d 238 (177, [l0, l1, l2, l3, l4, l5, l6, some (.int x)], [.int x, .ref k0], h) Q := t_iload k_238_175 rfl
theorem k_238_177 : lk 238 177 = some (.iaload, 178, 0, 0, .null) := by decide +kernel
theorem x_238_177 : Tr sc d 238 (177, [l0, l1, l2, l3, l4, l5, l6, l7], [.int i1, .ref k0], h) Q = (iOk sc h k0 i1 ∧ Tr sc d 238 (178, [l0, l1, l2, l3, l4, l5, l6, l7], [.int (iRd sc h k0 i1)], h) Q) := t_iald k_238_177
theorem k_238_178 : lk 238 178 = some (.ifCond .ne 16, 181, 194, 0, .null) := by decide +kernel
theorem x_238_178 : Tr sc d 238 (178, [l0, l1, l2, l3, l4, l5, l6, l7], [.int i0], h) Q = if i0 = 0 then Tr sc d 238 (181, [l0, l1, l2, l3, l4, l5, l6, l7], [], h) Q else Tr sc d 238 (194, [l0, l1, l2, l3, l4, l5, l6, l7], [], h) Q := t_if k_238_178 rfl
theorem k_238_181 : lk 238 181 = some (.iinc 6 1, 184, 6, 0, .int 1) := by decide +kernel
theorem x_238_181 : Tr sc d 238 (181, [l0, l1, l2, l3, l4, l5, some (.int x), l7], [], h) Q = Tr sc d 238 (184, [l0, l1, l2, l3, l4, cl2 l5, some (.int (x + 1)), l7], [], h) Q := t_inc k_238_181 rfl (Nat.le_of_ble_eq_true rfl)
theorem k_238_184 : lk 238 184 = some (.aload_n 0, 185, 0, 0, .null) := by decide +kernel
theorem x_238_184 : Tr sc d 238 (184, [some (.ref xk), l1, l2, l3, l4, l5, l6, l7], [], h) Q = Tr sc d 238 (185, [some (.ref xk), l1, l2, l3, l4, l5, l6, l7], [.ref xk], h) Q := t_aload_n k_238_184 rfl
theorem k_238_185 : lk 238 185 = some (.iload 7, 187, 7, 0, .null) := by decide +kernel
theorem x_238_185 : Tr sc d 238 (185, [l0, l1, l2, l3, l4, l5, l6, some (.int x)], [.ref k0], h) Q = Tr sc d 238 (187, [l0, l1, l2, l3, l4, l5, l6, some (.int x)], [.int x, .ref k0], h) Q := t_iload k_238_185 rfl
theorem k_238_187 : lk 238 187 = some (.iload 4, 189, 4, 0, .null) := by decide +kernel
theorem x_238_187 : Tr sc d 238 (187, [l0, l1, l2, l3, some (.int x), l5, l6, l7], [.int i1, .ref k0], h) Q = Tr sc d 238 (189, [l0, l1, l2, l3, some (.int x), l5, l6, l7], [.int x, .int i1, .ref k0], h) Q := t_iload k_238_187 rfl
theorem k_238_189 : lk 238 189 = some (.iload 5, 191, 5, 0, .null) := by decide +kernel
theorem x_238_189 : Tr sc d 238 (189, [l0, l1, l2, l3, l4, some (.int x), l6, l7], [.int i2, .int i1, .ref k0], h) Q = Tr sc d 238 (191, [l0, l1, l2, l3, l4, some (.int x), l6, l7], [.int x, .int i2, .int i1, .ref k0], h) Q := t_iload k_238_189 rfl
theorem k_238_191 : lk 238 191 = some (.invokevirtual 364, 194, 239, 3, .null) := by decide +kernel
theorem x_238_191 : Tr sc (d + 1) 238 (191, [l0, l1, l2, l3, l4, l5, l6, l7], [.int i3, .int i2, .int i1, .ref k0], h) Q = (okp h k0 10 = true ∧ Tr sc d 239 (ent0 239 [.ref k0, .int i1, .int i2, .int i3] h) (fun z => Tr sc (d + 1) 238 (194, [l0, l1, l2, l3, l4, l5, l6, l7], z.1.toList ++ [], z.2) Q)) := t_cv (as := [.int i1, .int i2, .int i3]) (r := []) k_238_191 rfl rfl (Nat.le_of_ble_eq_true rfl) (Nat.le_of_ble_eq_true rfl) (Nat.le_of_ble_eq_true rfl)
theorem k_238_194 : lk 238 194 = some (.iinc 7 1, 197, 7, 0, .int 1) := by decide +kernel
theorem x_238_194 : Tr sc d 238 (194, [l0, l1, l2, l3, l4, l5, l6, some (.int x)], [], h) Q = Tr sc d 238 (197, [l0, l1, l2, l3, l4, l5, cl2 l6, some (.int (x + 1))], [], h) Q := t_inc k_238_194 rfl (Nat.le_of_ble_eq_true rfl)
theorem k_238_197 : lk 238 197 = some (.goto (-36), 200, 161, 0, .null) := by decide +kernel
theorem x_238_197 : Tr sc d 238 (197, [l0, l1, l2, l3, l4, l5, l6, l7], [], h) Q = Tr sc d 238 (161, [l0, l1, l2, l3, l4, l5, l6, l7], [], h) Q := t_go k_238_197 rfl
theorem k_238_200 : lk 238 200 = some (.iload 6, 202, 6, 0, .null) := by decide +kernel
theorem x_238_200 : Tr sc d 238 (200, [l0, l1, l2, l3, l4, l5, some (.int x), l7], [], h) Q = Tr sc d 238 (202, [l0, l1, l2, l3, l4, l5, some (.int x), l7], [.int x], h) Q := t_iload k_238_200 rfl
theorem k_238_202 : lk 238 202 = some (.iconst 1, 203, 0, 0, .int 1) := by decide +kernel
theorem x_238_202 : Tr sc d 238 (202, [l0, l1, l2, l3, l4, l5, l6, l7], [.int i0], h) Q = Tr sc d 238 (203, [l0, l1, l2, l3, l4, l5, l6, l7], [.int 1, .int i0], h) Q := t_go k_238_202 rfl
theorem k_238_203 : lk 238 203 = some (.isub, 204, 0, 0, .null) := by decide +kernel
theorem x_238_203 : Tr sc d 238 (203, [l0, l1, l2, l3, l4, l5, l6, l7], [.int i1, .int i0], h) Q = Tr sc d 238 (204, [l0, l1, l2, l3, l4, l5, l6, l7], [.int (i0 - i1)], h) Q := t_go k_238_203 rfl
theorem k_238_204 : lk 238 204 = some (.ireturn, 205, 0, 0, .null) := by decide +kernel
theorem x_238_204 : Tr sc d 238 (204, [l0, l1, l2, l3, l4, l5, l6, l7], [.int i0], h) Q = Q (some (.int i0), h) := t_ret k_238_204 (by rw [r_238]; rfl)
theorem e_238 : Tr sc d 238 (ent0 238 [.ref k0, .int i1, .int i2] h) Q = Tr sc d 238 (0, [some (.ref k0), some (.int i1), some (.int i2), none, none, none, none, none], [], h) Q := by
  have e : mL 238 = 8 := by decide +kernel
  unfold ent0
  rw [e]
  rfl
theorem r_239 : mR 239 = none := by decide +kernel
theorem k_239_0 : lk 239 0 = some (.iconst 1, 1, 0, 0, .int 1) := by decide +kernel
theorem x_239_0 : Tr sc d 239 (0, [l0, l1, l2, l3, l4, l5, l6, l7, l8, l9], [], h) Q = Tr sc d 239 (1, [l0, l1, l2, l3, l4, l5, l6, l7, l8, l9], [.int 1], h) Q := t_go k_239_0 rfl
theorem k_239_1 : lk 239 1 = some (.istore 4, 3, 4, 0, .null) := by decide +kernel
theorem x_239_1 : Tr sc d 239 (1, [l0, l1, l2, l3, l4, l5, l6, l7, l8, l9], [.int i0], h) Q = Tr sc d 239 (3, [l0, l1, l2, cl2 l3, some (.int i0), l5, l6, l7, l8, l9], [], h) Q := t_istore k_239_1 (Nat.le_of_ble_eq_true rfl)
theorem k_239_3 : lk 239 3 = some (.aload_n 0, 4, 0, 0, .null) := by decide +kernel
theorem x_239_3 : Tr sc d 239 (3, [some (.ref xk), l1, l2, l3, l4, l5, l6, l7, l8, l9], [], h) Q = Tr sc d 239 (4, [some (.ref xk), l1, l2, l3, l4, l5, l6, l7, l8, l9], [.ref xk], h) Q := t_aload_n k_239_3 rfl
theorem k_239_4 : lk 239 4 = some (.getfield 125, 7, 10, 59, .null) := by decide +kernel
theorem x_239_4 : Tr sc d 239 (4, [l0, l1, l2, l3, l4, l5, l6, l7, l8, l9], [.ref k0], h) Q = (okp h k0 10 = true ∧ ∃ q, hR h k0 59 = some q ∧ Tr sc d 239 (7, [l0, l1, l2, l3, l4, l5, l6, l7, l8, l9], [.ref q], h) Q) := t_getr k_239_4
theorem k_239_7 : lk 239 7 = some (.iconst 0, 8, 0, 0, .int 0) := by decide +kernel
theorem x_239_7 : Tr sc d 239 (7, [l0, l1, l2, l3, l4, l5, l6, l7, l8, l9], [.ref k0], h) Q = Tr sc d 239 (8, [l0, l1, l2, l3, l4, l5, l6, l7, l8, l9], [.int 0, .ref k0], h) Q := t_go k_239_7 rfl
theorem k_239_8 : lk 239 8 = some (.iload_n 1, 9, 1, 0, .null) := by decide +kernel
theorem x_239_8 : Tr sc d 239 (8, [l0, some (.int x), l2, l3, l4, l5, l6, l7, l8, l9], [.int i1, .ref k0], h) Q = Tr sc d 239 (9, [l0, some (.int x), l2, l3, l4, l5, l6, l7, l8, l9], [.int x, .int i1, .ref k0], h) Q := t_iload_n k_239_8 rfl
theorem k_239_9 : lk 239 9 = some (.iastore, 10, 0, 0, .null) := by decide +kernel
theorem x_239_9 : Tr sc d 239 (9, [l0, l1, l2, l3, l4, l5, l6, l7, l8, l9], [.int i2, .int i1, .ref k0], h) Q = ((okp h k0 11 && inb i1 (LN k0)) = true ∧ Tr sc d 239 (10, [l0, l1, l2, l3, l4, l5, l6, l7, l8, l9], [], (sI h k0 i1.toNatClampNeg i2)) Q) := t_gd k_239_9 rfl
theorem k_239_10 : lk 239 10 = some (.aload_n 0, 11, 0, 0, .null) := by decide +kernel
theorem x_239_10 : Tr sc d 239 (10, [some (.ref xk), l1, l2, l3, l4, l5, l6, l7, l8, l9], [], h) Q = Tr sc d 239 (11, [some (.ref xk), l1, l2, l3, l4, l5, l6, l7, l8, l9], [.ref xk], h) Q := t_aload_n k_239_10 rfl
theorem k_239_11 : lk 239 11 = some (.getfield 122, 14, 10, 58, .null) := by decide +kernel
theorem x_239_11 : Tr sc d 239 (11, [l0, l1, l2, l3, l4, l5, l6, l7, l8, l9], [.ref k0], h) Q = (okp h k0 10 = true ∧ ∃ q, hR h k0 58 = some q ∧ Tr sc d 239 (14, [l0, l1, l2, l3, l4, l5, l6, l7, l8, l9], [.ref q], h) Q) := t_getr k_239_11
theorem k_239_14 : lk 239 14 = some (.iload_n 1, 15, 1, 0, .null) := by decide +kernel
theorem x_239_14 : Tr sc d 239 (14, [l0, some (.int x), l2, l3, l4, l5, l6, l7, l8, l9], [.ref k0], h) Q = Tr sc d 239 (15, [l0, some (.int x), l2, l3, l4, l5, l6, l7, l8, l9], [.int x, .ref k0], h) Q := t_iload_n k_239_14 rfl
theorem k_239_15 : lk 239 15 = some (.iconst 1, 16, 0, 0, .int 1) := by decide +kernel
theorem x_239_15 : Tr sc d 239 (15, [l0, l1, l2, l3, l4, l5, l6, l7, l8, l9], [.int i1, .ref k0], h) Q = Tr sc d 239 (16, [l0, l1, l2, l3, l4, l5, l6, l7, l8, l9], [.int 1, .int i1, .ref k0], h) Q := t_go k_239_15 rfl
theorem k_239_16 : lk 239 16 = some (.iastore, 17, 0, 0, .null) := by decide +kernel
theorem x_239_16 : Tr sc d 239 (16, [l0, l1, l2, l3, l4, l5, l6, l7, l8, l9], [.int i2, .int i1, .ref k0], h) Q = ((okp h k0 11 && inb i1 (LN k0)) = true ∧ Tr sc d 239 (17, [l0, l1, l2, l3, l4, l5, l6, l7, l8, l9], [], (sI h k0 i1.toNatClampNeg i2)) Q) := t_gd k_239_16 rfl
theorem k_239_17 : lk 239 17 = some (.iconst 0, 18, 0, 0, .int 0) := by decide +kernel
theorem x_239_17 : Tr sc d 239 (17, [l0, l1, l2, l3, l4, l5, l6, l7, l8, l9], [], h) Q = Tr sc d 239 (18, [l0, l1, l2, l3, l4, l5, l6, l7, l8, l9], [.int 0], h) Q := t_go k_239_17 rfl
theorem k_239_18 : lk 239 18 = some (.istore 5, 20, 5, 0, .null) := by decide +kernel
theorem x_239_18 : Tr sc d 239 (18, [l0, l1, l2, l3, l4, l5, l6, l7, l8, l9], [.int i0], h) Q = Tr sc d 239 (20, [l0, l1, l2, l3, cl2 l4, some (.int i0), l6, l7, l8, l9], [], h) Q := t_istore k_239_18 (Nat.le_of_ble_eq_true rfl)
theorem k_239_20 : lk 239 20 = some (.iload 5, 22, 5, 0, .null) := by decide +kernel
theorem x_239_20 : Tr sc d 239 (20, [l0, l1, l2, l3, l4, some (.int x), l6, l7, l8, l9], [], h) Q = Tr sc d 239 (22, [l0, l1, l2, l3, l4, some (.int x), l6, l7, l8, l9], [.int x], h) Q := t_iload k_239_20 rfl
theorem k_239_22 : lk 239 22 = some (.iload 4, 24, 4, 0, .null) := by decide +kernel
theorem x_239_22 : Tr sc d 239 (22, [l0, l1, l2, l3, some (.int x), l5, l6, l7, l8, l9], [.int i0], h) Q = Tr sc d 239 (24, [l0, l1, l2, l3, some (.int x), l5, l6, l7, l8, l9], [.int x, .int i0], h) Q := t_iload k_239_22 rfl
theorem k_239_24 : lk 239 24 = some (.if_icmp .ge 193, 27, 217, 0, .null) := by decide +kernel
theorem x_239_24 : Tr sc d 239 (24, [l0, l1, l2, l3, l4, l5, l6, l7, l8, l9], [.int i1, .int i0], h) Q = if i1 ≤ i0 then Tr sc d 239 (217, [l0, l1, l2, l3, l4, l5, l6, l7, l8, l9], [], h) Q else Tr sc d 239 (27, [l0, l1, l2, l3, l4, l5, l6, l7, l8, l9], [], h) Q := t_if k_239_24 rfl
theorem k_239_27 : lk 239 27 = some (.aload_n 0, 28, 0, 0, .null) := by decide +kernel
theorem x_239_27 : Tr sc d 239 (27, [some (.ref xk), l1, l2, l3, l4, l5, l6, l7, l8, l9], [], h) Q = Tr sc d 239 (28, [some (.ref xk), l1, l2, l3, l4, l5, l6, l7, l8, l9], [.ref xk], h) Q := t_aload_n k_239_27 rfl
theorem k_239_28 : lk 239 28 = some (.getfield 125, 31, 10, 59, .null) := by decide +kernel
theorem x_239_28 : Tr sc d 239 (28, [l0, l1, l2, l3, l4, l5, l6, l7, l8, l9], [.ref k0], h) Q = (okp h k0 10 = true ∧ ∃ q, hR h k0 59 = some q ∧ Tr sc d 239 (31, [l0, l1, l2, l3, l4, l5, l6, l7, l8, l9], [.ref q], h) Q) := t_getr k_239_28
theorem k_239_31 : lk 239 31 = some (.iload 5, 33, 5, 0, .null) := by decide +kernel
theorem x_239_31 : Tr sc d 239 (31, [l0, l1, l2, l3, l4, some (.int x), l6, l7, l8, l9], [.ref k0], h) Q = Tr sc d 239 (33, [l0, l1, l2, l3, l4, some (.int x), l6, l7, l8, l9], [.int x, .ref k0], h) Q := t_iload k_239_31 rfl
theorem k_239_33 : lk 239 33 = some (.iaload, 34, 0, 0, .null) := by decide +kernel
theorem x_239_33 : Tr sc d 239 (33, [l0, l1, l2, l3, l4, l5, l6, l7, l8, l9], [.int i1, .ref k0], h) Q = (iOk sc h k0 i1 ∧ Tr sc d 239 (34, [l0, l1, l2, l3, l4, l5, l6, l7, l8, l9], [.int (iRd sc h k0 i1)], h) Q) := t_iald k_239_33
theorem k_239_34 : lk 239 34 = some (.istore 6, 36, 6, 0, .null) := by decide +kernel
theorem x_239_34 : Tr sc d 239 (34, [l0, l1, l2, l3, l4, l5, l6, l7, l8, l9], [.int i0], h) Q = Tr sc d 239 (36, [l0, l1, l2, l3, l4, cl2 l5, some (.int i0), l7, l8, l9], [], h) Q := t_istore k_239_34 (Nat.le_of_ble_eq_true rfl)
theorem k_239_36 : lk 239 36 = some (.iconst 0, 37, 0, 0, .int 0) := by decide +kernel
theorem x_239_36 : Tr sc d 239 (36, [l0, l1, l2, l3, l4, l5, l6, l7, l8, l9], [], h) Q = Tr sc d 239 (37, [l0, l1, l2, l3, l4, l5, l6, l7, l8, l9], [.int 0], h) Q := t_go k_239_36 rfl
theorem k_239_37 : lk 239 37 = some (.istore 7, 39, 7, 0, .null) := by decide +kernel
theorem x_239_37 : Tr sc d 239 (37, [l0, l1, l2, l3, l4, l5, l6, l7, l8, l9], [.int i0], h) Q = Tr sc d 239 (39, [l0, l1, l2, l3, l4, l5, cl2 l6, some (.int i0), l8, l9], [], h) Q := t_istore k_239_37 (Nat.le_of_ble_eq_true rfl)
theorem k_239_39 : lk 239 39 = some (.iload 7, 41, 7, 0, .null) := by decide +kernel
theorem x_239_39 : Tr sc d 239 (39, [l0, l1, l2, l3, l4, l5, l6, some (.int x), l8, l9], [], h) Q = Tr sc d 239 (41, [l0, l1, l2, l3, l4, l5, l6, some (.int x), l8, l9], [.int x], h) Q := t_iload k_239_39 rfl
theorem k_239_41 : lk 239 41 = some (.iconst 4, 42, 0, 0, .int 4) := by decide +kernel
theorem x_239_41 : Tr sc d 239 (41, [l0, l1, l2, l3, l4, l5, l6, l7, l8, l9], [.int i0], h) Q = Tr sc d 239 (42, [l0, l1, l2, l3, l4, l5, l6, l7, l8, l9], [.int 4, .int i0], h) Q := t_go k_239_41 rfl
theorem k_239_42 : lk 239 42 = some (.if_icmp .ge 169, 45, 211, 0, .null) := by decide +kernel
theorem x_239_42 : Tr sc d 239 (42, [l0, l1, l2, l3, l4, l5, l6, l7, l8, l9], [.int i1, .int i0], h) Q = if i1 ≤ i0 then Tr sc d 239 (211, [l0, l1, l2, l3, l4, l5, l6, l7, l8, l9], [], h) Q else Tr sc d 239 (45, [l0, l1, l2, l3, l4, l5, l6, l7, l8, l9], [], h) Q := t_if k_239_42 rfl
theorem k_239_45 : lk 239 45 = some (.iload 7, 47, 7, 0, .null) := by decide +kernel
theorem x_239_45 : Tr sc d 239 (45, [l0, l1, l2, l3, l4, l5, l6, some (.int x), l8, l9], [], h) Q = Tr sc d 239 (47, [l0, l1, l2, l3, l4, l5, l6, some (.int x), l8, l9], [.int x], h) Q := t_iload k_239_45 rfl
theorem k_239_47 : lk 239 47 = some (.ifCond .ne 18, 50, 65, 0, .null) := by decide +kernel
theorem x_239_47 : Tr sc d 239 (47, [l0, l1, l2, l3, l4, l5, l6, l7, l8, l9], [.int i0], h) Q = if i0 = 0 then Tr sc d 239 (50, [l0, l1, l2, l3, l4, l5, l6, l7, l8, l9], [], h) Q else Tr sc d 239 (65, [l0, l1, l2, l3, l4, l5, l6, l7, l8, l9], [], h) Q := t_if k_239_47 rfl
theorem k_239_50 : lk 239 50 = some (.iload 6, 52, 6, 0, .null) := by decide +kernel
theorem x_239_50 : Tr sc d 239 (50, [l0, l1, l2, l3, l4, l5, some (.int x), l7, l8, l9], [], h) Q = Tr sc d 239 (52, [l0, l1, l2, l3, l4, l5, some (.int x), l7, l8, l9], [.int x], h) Q := t_iload k_239_50 rfl
theorem k_239_52 : lk 239 52 = some (.iload_n 2, 53, 2, 0, .null) := by decide +kernel
theorem x_239_52 : Tr sc d 239 (52, [l0, l1, some (.int x), l3, l4, l5, l6, l7, l8, l9], [.int i0], h) Q = Tr sc d 239 (53, [l0, l1, some (.int x), l3, l4, l5, l6, l7, l8, l9], [.int x, .int i0], h) Q := t_iload_n k_239_52 rfl
theorem k_239_53 : lk 239 53 = some (.irem, 54, 0, 0, .null) := by decide +kernel
theorem x_239_53 : Tr sc d 239 (53, [l0, l1, l2, l3, l4, l5, l6, l7, l8, l9], [.int i1, .int i0], h) Q = (¬ i1 = 0 ∧ Tr sc d 239 (54, [l0, l1, l2, l3, l4, l5, l6, l7, l8, l9], [.int (i0 - i0 / i1 * i1)], h) Q) := t_ng k_239_53 rfl
theorem k_239_54 : lk 239 54 = some (.ifCond .le 7, 57, 61, 0, .null) := by decide +kernel
theorem x_239_54 : Tr sc d 239 (54, [l0, l1, l2, l3, l4, l5, l6, l7, l8, l9], [.int i0], h) Q = if i0 ≤ 0 then Tr sc d 239 (61, [l0, l1, l2, l3, l4, l5, l6, l7, l8, l9], [], h) Q else Tr sc d 239 (57, [l0, l1, l2, l3, l4, l5, l6, l7, l8, l9], [], h) Q := t_if k_239_54 rfl
theorem k_239_57 : lk 239 57 = some (.iconst 1, 58, 0, 0, .int 1) := by decide +kernel
theorem x_239_57 : Tr sc d 239 (57, [l0, l1, l2, l3, l4, l5, l6, l7, l8, l9], [], h) Q = Tr sc d 239 (58, [l0, l1, l2, l3, l4, l5, l6, l7, l8, l9], [.int 1], h) Q := t_go k_239_57 rfl
theorem k_239_58 : lk 239 58 = some (.goto 66, 61, 124, 0, .null) := by decide +kernel
theorem x_239_58 : Tr sc d 239 (58, [l0, l1, l2, l3, l4, l5, l6, l7, l8, l9], [.int i0], h) Q = Tr sc d 239 (124, [l0, l1, l2, l3, l4, l5, l6, l7, l8, l9], [.int i0], h) Q := t_go k_239_58 rfl
theorem k_239_61 : lk 239 61 = some (.iconst 0, 62, 0, 0, .int 0) := by decide +kernel
theorem x_239_61 : Tr sc d 239 (61, [l0, l1, l2, l3, l4, l5, l6, l7, l8, l9], [], h) Q = Tr sc d 239 (62, [l0, l1, l2, l3, l4, l5, l6, l7, l8, l9], [.int 0], h) Q := t_go k_239_61 rfl
theorem k_239_62 : lk 239 62 = some (.goto 62, 65, 124, 0, .null) := by decide +kernel
theorem x_239_62 : Tr sc d 239 (62, [l0, l1, l2, l3, l4, l5, l6, l7, l8, l9], [.int i0], h) Q = Tr sc d 239 (124, [l0, l1, l2, l3, l4, l5, l6, l7, l8, l9], [.int i0], h) Q := t_go k_239_62 rfl
theorem k_239_65 : lk 239 65 = some (.iload 7, 67, 7, 0, .null) := by decide +kernel
theorem x_239_65 : Tr sc d 239 (65, [l0, l1, l2, l3, l4, l5, l6, some (.int x), l8, l9], [], h) Q = Tr sc d 239 (67, [l0, l1, l2, l3, l4, l5, l6, some (.int x), l8, l9], [.int x], h) Q := t_iload k_239_65 rfl
theorem k_239_67 : lk 239 67 = some (.iconst 1, 68, 0, 0, .int 1) := by decide +kernel
theorem x_239_67 : Tr sc d 239 (67, [l0, l1, l2, l3, l4, l5, l6, l7, l8, l9], [.int i0], h) Q = Tr sc d 239 (68, [l0, l1, l2, l3, l4, l5, l6, l7, l8, l9], [.int 1, .int i0], h) Q := t_go k_239_67 rfl
theorem k_239_68 : lk 239 68 = some (.if_icmp .ne 21, 71, 89, 0, .null) := by decide +kernel
theorem x_239_68 : Tr sc d 239 (68, [l0, l1, l2, l3, l4, l5, l6, l7, l8, l9], [.int i1, .int i0], h) Q = if i0 = i1 then Tr sc d 239 (71, [l0, l1, l2, l3, l4, l5, l6, l7, l8, l9], [], h) Q else Tr sc d 239 (89, [l0, l1, l2, l3, l4, l5, l6, l7, l8, l9], [], h) Q := t_if k_239_68 rfl
theorem k_239_71 : lk 239 71 = some (.iload 6, 73, 6, 0, .null) := by decide +kernel
theorem x_239_71 : Tr sc d 239 (71, [l0, l1, l2, l3, l4, l5, some (.int x), l7, l8, l9], [], h) Q = Tr sc d 239 (73, [l0, l1, l2, l3, l4, l5, some (.int x), l7, l8, l9], [.int x], h) Q := t_iload k_239_71 rfl
theorem k_239_73 : lk 239 73 = some (.iload_n 2, 74, 2, 0, .null) := by decide +kernel
theorem x_239_73 : Tr sc d 239 (73, [l0, l1, some (.int x), l3, l4, l5, l6, l7, l8, l9], [.int i0], h) Q = Tr sc d 239 (74, [l0, l1, some (.int x), l3, l4, l5, l6, l7, l8, l9], [.int x, .int i0], h) Q := t_iload_n k_239_73 rfl
theorem k_239_74 : lk 239 74 = some (.irem, 75, 0, 0, .null) := by decide +kernel
theorem x_239_74 : Tr sc d 239 (74, [l0, l1, l2, l3, l4, l5, l6, l7, l8, l9], [.int i1, .int i0], h) Q = (¬ i1 = 0 ∧ Tr sc d 239 (75, [l0, l1, l2, l3, l4, l5, l6, l7, l8, l9], [.int (i0 - i0 / i1 * i1)], h) Q) := t_ng k_239_74 rfl
theorem k_239_75 : lk 239 75 = some (.iload_n 2, 76, 2, 0, .null) := by decide +kernel
theorem x_239_75 : Tr sc d 239 (75, [l0, l1, some (.int x), l3, l4, l5, l6, l7, l8, l9], [.int i0], h) Q = Tr sc d 239 (76, [l0, l1, some (.int x), l3, l4, l5, l6, l7, l8, l9], [.int x, .int i0], h) Q := t_iload_n k_239_75 rfl
theorem k_239_76 : lk 239 76 = some (.iconst 1, 77, 0, 0, .int 1) := by decide +kernel
theorem x_239_76 : Tr sc d 239 (76, [l0, l1, l2, l3, l4, l5, l6, l7, l8, l9], [.int i1, .int i0], h) Q = Tr sc d 239 (77, [l0, l1, l2, l3, l4, l5, l6, l7, l8, l9], [.int 1, .int i1, .int i0], h) Q := t_go k_239_76 rfl
theorem k_239_77 : lk 239 77 = some (.isub, 78, 0, 0, .null) := by decide +kernel
theorem x_239_77 : Tr sc d 239 (77, [l0, l1, l2, l3, l4, l5, l6, l7, l8, l9], [.int i2, .int i1, .int i0], h) Q = Tr sc d 239 (78, [l0, l1, l2, l3, l4, l5, l6, l7, l8, l9], [.int (i1 - i2), .int i0], h) Q := t_go k_239_77 rfl
theorem k_239_78 : lk 239 78 = some (.if_icmp .ge 7, 81, 85, 0, .null) := by decide +kernel
theorem x_239_78 : Tr sc d 239 (78, [l0, l1, l2, l3, l4, l5, l6, l7, l8, l9], [.int i1, .int i0], h) Q = if i1 ≤ i0 then Tr sc d 239 (85, [l0, l1, l2, l3, l4, l5, l6, l7, l8, l9], [], h) Q else Tr sc d 239 (81, [l0, l1, l2, l3, l4, l5, l6, l7, l8, l9], [], h) Q := t_if k_239_78 rfl
theorem k_239_81 : lk 239 81 = some (.iconst 1, 82, 0, 0, .int 1) := by decide +kernel
theorem x_239_81 : Tr sc d 239 (81, [l0, l1, l2, l3, l4, l5, l6, l7, l8, l9], [], h) Q = Tr sc d 239 (82, [l0, l1, l2, l3, l4, l5, l6, l7, l8, l9], [.int 1], h) Q := t_go k_239_81 rfl
theorem k_239_82 : lk 239 82 = some (.goto 42, 85, 124, 0, .null) := by decide +kernel
theorem x_239_82 : Tr sc d 239 (82, [l0, l1, l2, l3, l4, l5, l6, l7, l8, l9], [.int i0], h) Q = Tr sc d 239 (124, [l0, l1, l2, l3, l4, l5, l6, l7, l8, l9], [.int i0], h) Q := t_go k_239_82 rfl
theorem k_239_85 : lk 239 85 = some (.iconst 0, 86, 0, 0, .int 0) := by decide +kernel
theorem x_239_85 : Tr sc d 239 (85, [l0, l1, l2, l3, l4, l5, l6, l7, l8, l9], [], h) Q = Tr sc d 239 (86, [l0, l1, l2, l3, l4, l5, l6, l7, l8, l9], [.int 0], h) Q := t_go k_239_85 rfl
theorem k_239_86 : lk 239 86 = some (.goto 38, 89, 124, 0, .null) := by decide +kernel
theorem x_239_86 : Tr sc d 239 (86, [l0, l1, l2, l3, l4, l5, l6, l7, l8, l9], [.int i0], h) Q = Tr sc d 239 (124, [l0, l1, l2, l3, l4, l5, l6, l7, l8, l9], [.int i0], h) Q := t_go k_239_86 rfl
theorem k_239_89 : lk 239 89 = some (.iload 7, 91, 7, 0, .null) := by decide +kernel
theorem x_239_89 : Tr sc d 239 (89, [l0, l1, l2, l3, l4, l5, l6, some (.int x), l8, l9], [], h) Q = Tr sc d 239 (91, [l0, l1, l2, l3, l4, l5, l6, some (.int x), l8, l9], [.int x], h) Q := t_iload k_239_89 rfl
theorem k_239_91 : lk 239 91 = some (.iconst 2, 92, 0, 0, .int 2) := by decide +kernel
theorem x_239_91 : Tr sc d 239 (91, [l0, l1, l2, l3, l4, l5, l6, l7, l8, l9], [.int i0], h) Q = Tr sc d 239 (92, [l0, l1, l2, l3, l4, l5, l6, l7, l8, l9], [.int 2, .int i0], h) Q := t_go k_239_91 rfl
theorem k_239_92 : lk 239 92 = some (.if_icmp .ne 17, 95, 109, 0, .null) := by decide +kernel
theorem x_239_92 : Tr sc d 239 (92, [l0, l1, l2, l3, l4, l5, l6, l7, l8, l9], [.int i1, .int i0], h) Q = if i0 = i1 then Tr sc d 239 (95, [l0, l1, l2, l3, l4, l5, l6, l7, l8, l9], [], h) Q else Tr sc d 239 (109, [l0, l1, l2, l3, l4, l5, l6, l7, l8, l9], [], h) Q := t_if k_239_92 rfl
theorem k_239_95 : lk 239 95 = some (.iload 6, 97, 6, 0, .null) := by decide +kernel
theorem x_239_95 : Tr sc d 239 (95, [l0, l1, l2, l3, l4, l5, some (.int x), l7, l8, l9], [], h) Q = Tr sc d 239 (97, [l0, l1, l2, l3, l4, l5, some (.int x), l7, l8, l9], [.int x], h) Q := t_iload k_239_95 rfl
theorem k_239_97 : lk 239 97 = some (.iload_n 2, 98, 2, 0, .null) := by decide +kernel
theorem x_239_97 : Tr sc d 239 (97, [l0, l1, some (.int x), l3, l4, l5, l6, l7, l8, l9], [.int i0], h) Q = Tr sc d 239 (98, [l0, l1, some (.int x), l3, l4, l5, l6, l7, l8, l9], [.int x, .int i0], h) Q := t_iload_n k_239_97 rfl
theorem k_239_98 : lk 239 98 = some (.if_icmp .lt 7, 101, 105, 0, .null) := by decide +kernel
theorem x_239_98 : Tr sc d 239 (98, [l0, l1, l2, l3, l4, l5, l6, l7, l8, l9], [.int i1, .int i0], h) Q = if i0 < i1 then Tr sc d 239 (105, [l0, l1, l2, l3, l4, l5, l6, l7, l8, l9], [], h) Q else Tr sc d 239 (101, [l0, l1, l2, l3, l4, l5, l6, l7, l8, l9], [], h) Q := t_if k_239_98 rfl
theorem k_239_101 : lk 239 101 = some (.iconst 1, 102, 0, 0, .int 1) := by decide +kernel
theorem x_239_101 : Tr sc d 239 (101, [l0, l1, l2, l3, l4, l5, l6, l7, l8, l9], [], h) Q = Tr sc d 239 (102, [l0, l1, l2, l3, l4, l5, l6, l7, l8, l9], [.int 1], h) Q := t_go k_239_101 rfl
theorem k_239_102 : lk 239 102 = some (.goto 22, 105, 124, 0, .null) := by decide +kernel
theorem x_239_102 : Tr sc d 239 (102, [l0, l1, l2, l3, l4, l5, l6, l7, l8, l9], [.int i0], h) Q = Tr sc d 239 (124, [l0, l1, l2, l3, l4, l5, l6, l7, l8, l9], [.int i0], h) Q := t_go k_239_102 rfl
theorem k_239_105 : lk 239 105 = some (.iconst 0, 106, 0, 0, .int 0) := by decide +kernel
theorem x_239_105 : Tr sc d 239 (105, [l0, l1, l2, l3, l4, l5, l6, l7, l8, l9], [], h) Q = Tr sc d 239 (106, [l0, l1, l2, l3, l4, l5, l6, l7, l8, l9], [.int 0], h) Q := t_go k_239_105 rfl
theorem k_239_106 : lk 239 106 = some (.goto 18, 109, 124, 0, .null) := by decide +kernel
theorem x_239_106 : Tr sc d 239 (106, [l0, l1, l2, l3, l4, l5, l6, l7, l8, l9], [.int i0], h) Q = Tr sc d 239 (124, [l0, l1, l2, l3, l4, l5, l6, l7, l8, l9], [.int i0], h) Q := t_go k_239_106 rfl
theorem k_239_109 : lk 239 109 = some (.iload 6, 111, 6, 0, .null) := by decide +kernel
theorem x_239_109 : Tr sc d 239 (109, [l0, l1, l2, l3, l4, l5, some (.int x), l7, l8, l9], [], h) Q = Tr sc d 239 (111, [l0, l1, l2, l3, l4, l5, some (.int x), l7, l8, l9], [.int x], h) Q := t_iload k_239_109 rfl
theorem k_239_111 : lk 239 111 = some (.iload_n 2, 112, 2, 0, .null) := by decide +kernel
theorem x_239_111 : Tr sc d 239 (111, [l0, l1, some (.int x), l3, l4, l5, l6, l7, l8, l9], [.int i0], h) Q = Tr sc d 239 (112, [l0, l1, some (.int x), l3, l4, l5, l6, l7, l8, l9], [.int x, .int i0], h) Q := t_iload_n k_239_111 rfl
theorem k_239_112 : lk 239 112 = some (.iload_n 3, 113, 3, 0, .null) := by decide +kernel
theorem x_239_112 : Tr sc d 239 (112, [l0, l1, l2, some (.int x), l4, l5, l6, l7, l8, l9], [.int i1, .int i0], h) Q = Tr sc d 239 (113, [l0, l1, l2, some (.int x), l4, l5, l6, l7, l8, l9], [.int x, .int i1, .int i0], h) Q := t_iload_n k_239_112 rfl
theorem k_239_113 : lk 239 113 = some (.iconst 1, 114, 0, 0, .int 1) := by decide +kernel
theorem x_239_113 : Tr sc d 239 (113, [l0, l1, l2, l3, l4, l5, l6, l7, l8, l9], [.int i2, .int i1, .int i0], h) Q = Tr sc d 239 (114, [l0, l1, l2, l3, l4, l5, l6, l7, l8, l9], [.int 1, .int i2, .int i1, .int i0], h) Q := t_go k_239_113 rfl
theorem k_239_114 : lk 239 114 = some (.isub, 115, 0, 0, .null) := by decide +kernel
theorem x_239_114 : Tr sc d 239 (114, [l0, l1, l2, l3, l4, l5, l6, l7, l8, l9], [.int i3, .int i2, .int i1, .int i0], h) Q = Tr sc d 239 (115, [l0, l1, l2, l3, l4, l5, l6, l7, l8, l9], [.int (i2 - i3), .int i1, .int i0], h) Q := t_go k_239_114 rfl
theorem k_239_115 : lk 239 115 = some (.imul, 116, 0, 0, .null) := by decide +kernel
theorem x_239_115 : Tr sc d 239 (115, [l0, l1, l2, l3, l4, l5, l6, l7, l8, l9], [.int i2, .int i1, .int i0], h) Q = Tr sc d 239 (116, [l0, l1, l2, l3, l4, l5, l6, l7, l8, l9], [.int (i1 * i2), .int i0], h) Q := t_go k_239_115 rfl
theorem k_239_116 : lk 239 116 = some (.if_icmp .ge 7, 119, 123, 0, .null) := by decide +kernel
theorem x_239_116 : Tr sc d 239 (116, [l0, l1, l2, l3, l4, l5, l6, l7, l8, l9], [.int i1, .int i0], h) Q = if i1 ≤ i0 then Tr sc d 239 (123, [l0, l1, l2, l3, l4, l5, l6, l7, l8, l9], [], h) Q else Tr sc d 239 (119, [l0, l1, l2, l3, l4, l5, l6, l7, l8, l9], [], h) Q := t_if k_239_116 rfl
theorem k_239_119 : lk 239 119 = some (.iconst 1, 120, 0, 0, .int 1) := by decide +kernel
theorem x_239_119 : Tr sc d 239 (119, [l0, l1, l2, l3, l4, l5, l6, l7, l8, l9], [], h) Q = Tr sc d 239 (120, [l0, l1, l2, l3, l4, l5, l6, l7, l8, l9], [.int 1], h) Q := t_go k_239_119 rfl
theorem k_239_120 : lk 239 120 = some (.goto 4, 123, 124, 0, .null) := by decide +kernel
theorem x_239_120 : Tr sc d 239 (120, [l0, l1, l2, l3, l4, l5, l6, l7, l8, l9], [.int i0], h) Q = Tr sc d 239 (124, [l0, l1, l2, l3, l4, l5, l6, l7, l8, l9], [.int i0], h) Q := t_go k_239_120 rfl
theorem k_239_123 : lk 239 123 = some (.iconst 0, 124, 0, 0, .int 0) := by decide +kernel
theorem x_239_123 : Tr sc d 239 (123, [l0, l1, l2, l3, l4, l5, l6, l7, l8, l9], [], h) Q = Tr sc d 239 (124, [l0, l1, l2, l3, l4, l5, l6, l7, l8, l9], [.int 0], h) Q := t_go k_239_123 rfl
theorem k_239_124 : lk 239 124 = some (.istore 8, 126, 8, 0, .null) := by decide +kernel
theorem x_239_124 : Tr sc d 239 (124, [l0, l1, l2, l3, l4, l5, l6, l7, l8, l9], [.int i0], h) Q = Tr sc d 239 (126, [l0, l1, l2, l3, l4, l5, l6, cl2 l7, some (.int i0), l9], [], h) Q := t_istore k_239_124 (Nat.le_of_ble_eq_true rfl)
theorem k_239_126 : lk 239 126 = some (.iload 7, 128, 7, 0, .null) := by decide +kernel
theorem x_239_126 : Tr sc d 239 (126, [l0, l1, l2, l3, l4, l5, l6, some (.int x), l8, l9], [], h) Q = Tr sc d 239 (128, [l0, l1, l2, l3, l4, l5, l6, some (.int x), l8, l9], [.int x], h) Q := t_iload k_239_126 rfl
theorem k_239_128 : lk 239 128 = some (.ifCond .ne 10, 131, 138, 0, .null) := by decide +kernel
theorem x_239_128 : Tr sc d 239 (128, [l0, l1, l2, l3, l4, l5, l6, l7, l8, l9], [.int i0], h) Q = if i0 = 0 then Tr sc d 239 (131, [l0, l1, l2, l3, l4, l5, l6, l7, l8, l9], [], h) Q else Tr sc d 239 (138, [l0, l1, l2, l3, l4, l5, l6, l7, l8, l9], [], h) Q := t_if k_239_128 rfl
theorem k_239_131 : lk 239 131 = some (.iload 6, 133, 6, 0, .null) := by decide +kernel
theorem x_239_131 : Tr sc d 239 (131, [l0, l1, l2, l3, l4, l5, some (.int x), l7, l8, l9], [], h) Q = Tr sc d 239 (133, [l0, l1, l2, l3, l4, l5, some (.int x), l7, l8, l9], [.int x], h) Q := t_iload k_239_131 rfl
theorem k_239_133 : lk 239 133 = some (.iconst 1, 134, 0, 0, .int 1) := by decide +kernel
theorem x_239_133 : Tr sc d 239 (133, [l0, l1, l2, l3, l4, l5, l6, l7, l8, l9], [.int i0], h) Q = Tr sc d 239 (134, [l0, l1, l2, l3, l4, l5, l6, l7, l8, l9], [.int 1, .int i0], h) Q := t_go k_239_133 rfl
theorem k_239_134 : lk 239 134 = some (.isub, 135, 0, 0, .null) := by decide +kernel
theorem x_239_134 : Tr sc d 239 (134, [l0, l1, l2, l3, l4, l5, l6, l7, l8, l9], [.int i1, .int i0], h) Q = Tr sc d 239 (135, [l0, l1, l2, l3, l4, l5, l6, l7, l8, l9], [.int (i0 - i1)], h) Q := t_go k_239_134 rfl
theorem k_239_135 : lk 239 135 = some (.goto 33, 138, 168, 0, .null) := by decide +kernel
theorem x_239_135 : Tr sc d 239 (135, [l0, l1, l2, l3, l4, l5, l6, l7, l8, l9], [.int i0], h) Q = Tr sc d 239 (168, [l0, l1, l2, l3, l4, l5, l6, l7, l8, l9], [.int i0], h) Q := t_go k_239_135 rfl
theorem k_239_138 : lk 239 138 = some (.iload 7, 140, 7, 0, .null) := by decide +kernel
theorem x_239_138 : Tr sc d 239 (138, [l0, l1, l2, l3, l4, l5, l6, some (.int x), l8, l9], [], h) Q = Tr sc d 239 (140, [l0, l1, l2, l3, l4, l5, l6, some (.int x), l8, l9], [.int x], h) Q := t_iload k_239_138 rfl
theorem k_239_140 : lk 239 140 = some (.iconst 1, 141, 0, 0, .int 1) := by decide +kernel
theorem x_239_140 : Tr sc d 239 (140, [l0, l1, l2, l3, l4, l5, l6, l7, l8, l9], [.int i0], h) Q = Tr sc d 239 (141, [l0, l1, l2, l3, l4, l5, l6, l7, l8, l9], [.int 1, .int i0], h) Q := t_go k_239_140 rfl
theorem k_239_141 : lk 239 141 = some (.if_icmp .ne 10, 144, 151, 0, .null) := by decide +kernel
theorem x_239_141 : Tr sc d 239 (141, [l0, l1, l2, l3, l4, l5, l6, l7, l8, l9], [.int i1, .int i0], h) Q = if i0 = i1 then Tr sc d 239 (144, [l0, l1, l2, l3, l4, l5, l6, l7, l8, l9], [], h) Q else Tr sc d 239 (151, [l0, l1, l2, l3, l4, l5, l6, l7, l8, l9], [], h) Q := t_if k_239_141 rfl
theorem k_239_144 : lk 239 144 = some (.iload 6, 146, 6, 0, .null) := by decide +kernel
theorem x_239_144 : Tr sc d 239 (144, [l0, l1, l2, l3, l4, l5, some (.int x), l7, l8, l9], [], h) Q = Tr sc d 239 (146, [l0, l1, l2, l3, l4, l5, some (.int x), l7, l8, l9], [.int x], h) Q := t_iload k_239_144 rfl
theorem k_239_146 : lk 239 146 = some (.iconst 1, 147, 0, 0, .int 1) := by decide +kernel
theorem x_239_146 : Tr sc d 239 (146, [l0, l1, l2, l3, l4, l5, l6, l7, l8, l9], [.int i0], h) Q = Tr sc d 239 (147, [l0, l1, l2, l3, l4, l5, l6, l7, l8, l9], [.int 1, .int i0], h) Q := t_go k_239_146 rfl
theorem k_239_147 : lk 239 147 = some (.iadd, 148, 0, 0, .null) := by decide +kernel
theorem x_239_147 : Tr sc d 239 (147, [l0, l1, l2, l3, l4, l5, l6, l7, l8, l9], [.int i1, .int i0], h) Q = Tr sc d 239 (148, [l0, l1, l2, l3, l4, l5, l6, l7, l8, l9], [.int (i0 + i1)], h) Q := t_go k_239_147 rfl
theorem k_239_148 : lk 239 148 = some (.goto 20, 151, 168, 0, .null) := by decide +kernel
theorem x_239_148 : Tr sc d 239 (148, [l0, l1, l2, l3, l4, l5, l6, l7, l8, l9], [.int i0], h) Q = Tr sc d 239 (168, [l0, l1, l2, l3, l4, l5, l6, l7, l8, l9], [.int i0], h) Q := t_go k_239_148 rfl
theorem k_239_151 : lk 239 151 = some (.iload 7, 153, 7, 0, .null) := by decide +kernel
theorem x_239_151 : Tr sc d 239 (151, [l0, l1, l2, l3, l4, l5, l6, some (.int x), l8, l9], [], h) Q = Tr sc d 239 (153, [l0, l1, l2, l3, l4, l5, l6, some (.int x), l8, l9], [.int x], h) Q := t_iload k_239_151 rfl
theorem k_239_153 : lk 239 153 = some (.iconst 2, 154, 0, 0, .int 2) := by decide +kernel
theorem x_239_153 : Tr sc d 239 (153, [l0, l1, l2, l3, l4, l5, l6, l7, l8, l9], [.int i0], h) Q = Tr sc d 239 (154, [l0, l1, l2, l3, l4, l5, l6, l7, l8, l9], [.int 2, .int i0], h) Q := t_go k_239_153 rfl
theorem k_239_154 : lk 239 154 = some (.if_icmp .ne 10, 157, 164, 0, .null) := by decide +kernel
theorem x_239_154 : Tr sc d 239 (154, [l0, l1, l2, l3, l4, l5, l6, l7, l8, l9], [.int i1, .int i0], h) Q = if i0 = i1 then Tr sc d 239 (157, [l0, l1, l2, l3, l4, l5, l6, l7, l8, l9], [], h) Q else Tr sc d 239 (164, [l0, l1, l2, l3, l4, l5, l6, l7, l8, l9], [], h) Q := t_if k_239_154 rfl
theorem k_239_157 : lk 239 157 = some (.iload 6, 159, 6, 0, .null) := by decide +kernel
theorem x_239_157 : Tr sc d 239 (157, [l0, l1, l2, l3, l4, l5, some (.int x), l7, l8, l9], [], h) Q = Tr sc d 239 (159, [l0, l1, l2, l3, l4, l5, some (.int x), l7, l8, l9], [.int x], h) Q := t_iload k_239_157 rfl
theorem k_239_159 : lk 239 159 = some (.iload_n 2, 160, 2, 0, .null) := by decide +kernel
theorem x_239_159 : Tr sc d 239 (159, [l0, l1, some (.int x), l3, l4, l5, l6, l7, l8, l9], [.int i0], h) Q = Tr sc d 239 (160, [l0, l1, some (.int x), l3, l4, l5, l6, l7, l8, l9], [.int x, .int i0], h) Q := t_iload_n k_239_159 rfl
theorem k_239_160 : lk 239 160 = some (.isub, 161, 0, 0, .null) := by decide +kernel
theorem x_239_160 : Tr sc d 239 (160, [l0, l1, l2, l3, l4, l5, l6, l7, l8, l9], [.int i1, .int i0], h) Q = Tr sc d 239 (161, [l0, l1, l2, l3, l4, l5, l6, l7, l8, l9], [.int (i0 - i1)], h) Q := t_go k_239_160 rfl
theorem k_239_161 : lk 239 161 = some (.goto 7, 164, 168, 0, .null) := by decide +kernel
theorem x_239_161 : Tr sc d 239 (161, [l0, l1, l2, l3, l4, l5, l6, l7, l8, l9], [.int i0], h) Q = Tr sc d 239 (168, [l0, l1, l2, l3, l4, l5, l6, l7, l8, l9], [.int i0], h) Q := t_go k_239_161 rfl
theorem k_239_164 : lk 239 164 = some (.iload 6, 166, 6, 0, .null) := by decide +kernel
theorem x_239_164 : Tr sc d 239 (164, [l0, l1, l2, l3, l4, l5, some (.int x), l7, l8, l9], [], h) Q = Tr sc d 239 (166, [l0, l1, l2, l3, l4, l5, some (.int x), l7, l8, l9], [.int x], h) Q := t_iload k_239_164 rfl
theorem k_239_166 : lk 239 166 = some (.iload_n 2, 167, 2, 0, .null) := by decide +kernel
theorem x_239_166 : Tr sc d 239 (166, [l0, l1, some (.int x), l3, l4, l5, l6, l7, l8, l9], [.int i0], h) Q = Tr sc d 239 (167, [l0, l1, some (.int x), l3, l4, l5, l6, l7, l8, l9], [.int x, .int i0], h) Q := t_iload_n k_239_166 rfl
theorem k_239_167 : lk 239 167 = some (.iadd, 168, 0, 0, .null) := by decide +kernel
theorem x_239_167 : Tr sc d 239 (167, [l0, l1, l2, l3, l4, l5, l6, l7, l8, l9], [.int i1, .int i0], h) Q = Tr sc d 239 (168, [l0, l1, l2, l3, l4, l5, l6, l7, l8, l9], [.int (i0 + i1)], h) Q := t_go k_239_167 rfl
theorem k_239_168 : lk 239 168 = some (.istore 9, 170, 9, 0, .null) := by decide +kernel
theorem x_239_168 : Tr sc d 239 (168, [l0, l1, l2, l3, l4, l5, l6, l7, l8, l9], [.int i0], h) Q = Tr sc d 239 (170, [l0, l1, l2, l3, l4, l5, l6, l7, cl2 l8, some (.int i0)], [], h) Q := t_istore k_239_168 (Nat.le_of_ble_eq_true rfl)
theorem k_239_170 : lk 239 170 = some (.iload 8, 172, 8, 0, .null) := by decide +kernel
theorem x_239_170 : Tr sc d 239 (170, [l0, l1, l2, l3, l4, l5, l6, l7, some (.int x), l9], [], h) Q = Tr sc d 239 (172, [l0, l1, l2, l3, l4, l5, l6, l7, some (.int x), l9], [.int x], h) Q := t_iload k_239_170 rfl
theorem k_239_172 : lk 239 172 = some (.ifCond .eq 33, 175, 205, 0, .null) := by decide +kernel
theorem x_239_172 : Tr sc d 239 (172, [l0, l1, l2, l3, l4, l5, l6, l7, l8, l9], [.int i0], h) Q = if i0 = 0 then Tr sc d 239 (205, [l0, l1, l2, l3, l4, l5, l6, l7, l8, l9], [], h) Q else Tr sc d 239 (175, [l0, l1, l2, l3, l4, l5, l6, l7, l8, l9], [], h) Q := t_if k_239_172 rfl
theorem k_239_175 : lk 239 175 = some (.aload_n 0, 176, 0, 0, .null) := by decide +kernel
theorem x_239_175 : Tr sc d 239 (175, [some (.ref xk), l1, l2, l3, l4, l5, l6, l7, l8, l9], [], h) Q = Tr sc d 239 (176, [some (.ref xk), l1, l2, l3, l4, l5, l6, l7, l8, l9], [.ref xk], h) Q := t_aload_n k_239_175 rfl
theorem k_239_176 : lk 239 176 = some (.getfield 122, 179, 10, 58, .null) := by decide +kernel
theorem x_239_176 : Tr sc d 239 (176, [l0, l1, l2, l3, l4, l5, l6, l7, l8, l9], [.ref k0], h) Q = (okp h k0 10 = true ∧ ∃ q, hR h k0 58 = some q ∧ Tr sc d 239 (179, [l0, l1, l2, l3, l4, l5, l6, l7, l8, l9], [.ref q], h) Q) := t_getr k_239_176
theorem k_239_179 : lk 239 179 = some (.iload 9, 181, 9, 0, .null) := by decide +kernel
theorem x_239_179 : Tr sc d 239 (179, [l0, l1, l2, l3, l4, l5, l6, l7, l8, some (.int x)], [.ref k0], h) Q = Tr sc d 239 (181, [l0, l1, l2, l3, l4, l5, l6, l7, l8, some (.int x)], [.int x, .ref k0], h) Q := t_iload k_239_179 rfl
theorem k_239_181 : lk 239 181 = some (.iaload, 182, 0, 0, .null) := by decide +kernel
theorem x_239_181 : Tr sc d 239 (181, [l0, l1, l2, l3, l4, l5, l6, l7, l8, l9], [.int i1, .ref k0], h) Q = (iOk sc h k0 i1 ∧ Tr sc d 239 (182, [l0, l1, l2, l3, l4, l5, l6, l7, l8, l9], [.int (iRd sc h k0 i1)], h) Q) := t_iald k_239_181
theorem k_239_182 : lk 239 182 = some (.ifCond .ne 23, 185, 205, 0, .null) := by decide +kernel
theorem x_239_182 : Tr sc d 239 (182, [l0, l1, l2, l3, l4, l5, l6, l7, l8, l9], [.int i0], h) Q = if i0 = 0 then Tr sc d 239 (185, [l0, l1, l2, l3, l4, l5, l6, l7, l8, l9], [], h) Q else Tr sc d 239 (205, [l0, l1, l2, l3, l4, l5, l6, l7, l8, l9], [], h) Q := t_if k_239_182 rfl
theorem k_239_185 : lk 239 185 = some (.aload_n 0, 186, 0, 0, .null) := by decide +kernel
theorem x_239_185 : Tr sc d 239 (185, [some (.ref xk), l1, l2, l3, l4, l5, l6, l7, l8, l9], [], h) Q = Tr sc d 239 (186, [some (.ref xk), l1, l2, l3, l4, l5, l6, l7, l8, l9], [.ref xk], h) Q := t_aload_n k_239_185 rfl
theorem k_239_186 : lk 239 186 = some (.getfield 122, 189, 10, 58, .null) := by decide +kernel
theorem x_239_186 : Tr sc d 239 (186, [l0, l1, l2, l3, l4, l5, l6, l7, l8, l9], [.ref k0], h) Q = (okp h k0 10 = true ∧ ∃ q, hR h k0 58 = some q ∧ Tr sc d 239 (189, [l0, l1, l2, l3, l4, l5, l6, l7, l8, l9], [.ref q], h) Q) := t_getr k_239_186
theorem k_239_189 : lk 239 189 = some (.iload 9, 191, 9, 0, .null) := by decide +kernel
theorem x_239_189 : Tr sc d 239 (189, [l0, l1, l2, l3, l4, l5, l6, l7, l8, some (.int x)], [.ref k0], h) Q = Tr sc d 239 (191, [l0, l1, l2, l3, l4, l5, l6, l7, l8, some (.int x)], [.int x, .ref k0], h) Q := t_iload k_239_189 rfl
theorem k_239_191 : lk 239 191 = some (.iconst 1, 192, 0, 0, .int 1) := by decide +kernel
theorem x_239_191 : Tr sc d 239 (191, [l0, l1, l2, l3, l4, l5, l6, l7, l8, l9], [.int i1, .ref k0], h) Q = Tr sc d 239 (192, [l0, l1, l2, l3, l4, l5, l6, l7, l8, l9], [.int 1, .int i1, .ref k0], h) Q := t_go k_239_191 rfl
theorem k_239_192 : lk 239 192 = some (.iastore, 193, 0, 0, .null) := by decide +kernel
theorem x_239_192 : Tr sc d 239 (192, [l0, l1, l2, l3, l4, l5, l6, l7, l8, l9], [.int i2, .int i1, .ref k0], h) Q = ((okp h k0 11 && inb i1 (LN k0)) = true ∧ Tr sc d 239 (193, [l0, l1, l2, l3, l4, l5, l6, l7, l8, l9], [], (sI h k0 i1.toNatClampNeg i2)) Q) := t_gd k_239_192 rfl
theorem k_239_193 : lk 239 193 = some (.aload_n 0, 194, 0, 0, .null) := by decide +kernel
theorem x_239_193 : Tr sc d 239 (193, [some (.ref xk), l1, l2, l3, l4, l5, l6, l7, l8, l9], [], h) Q = Tr sc d 239 (194, [some (.ref xk), l1, l2, l3, l4, l5, l6, l7, l8, l9], [.ref xk], h) Q := t_aload_n k_239_193 rfl
theorem k_239_194 : lk 239 194 = some (.getfield 125, 197, 10, 59, .null) := by decide +kernel
theorem x_239_194 : Tr sc d 239 (194, [l0, l1, l2, l3, l4, l5, l6, l7, l8, l9], [.ref k0], h) Q = (okp h k0 10 = true ∧ ∃ q, hR h k0 59 = some q ∧ Tr sc d 239 (197, [l0, l1, l2, l3, l4, l5, l6, l7, l8, l9], [.ref q], h) Q) := t_getr k_239_194
theorem k_239_197 : lk 239 197 = some (.iload 4, 199, 4, 0, .null) := by decide +kernel
theorem x_239_197 : Tr sc d 239 (197, [l0, l1, l2, l3, some (.int x), l5, l6, l7, l8, l9], [.ref k0], h) Q = Tr sc d 239 (199, [l0, l1, l2, l3, some (.int x), l5, l6, l7, l8, l9], [.int x, .ref k0], h) Q := t_iload k_239_197 rfl
theorem k_239_199 : lk 239 199 = some (.iload 9, 201, 9, 0, .null) := by decide +kernel
theorem x_239_199 : Tr sc d 239 (199, [l0, l1, l2, l3, l4, l5, l6, l7, l8, some (.int x)], [.int i1, .ref k0], h) Q = Tr sc d 239 (201, [l0, l1, l2, l3, l4, l5, l6, l7, l8, some (.int x)], [.int x, .int i1, .ref k0], h) Q := t_iload k_239_199 rfl
theorem k_239_201 : lk 239 201 = some (.iastore, 202, 0, 0, .null) := by decide +kernel
theorem x_239_201 : Tr sc d 239 (201, [l0, l1, l2, l3, l4, l5, l6, l7, l8, l9], [.int i2, .int i1, .ref k0], h) Q = ((okp h k0 11 && inb i1 (LN k0)) = true ∧ Tr sc d 239 (202, [l0, l1, l2, l3, l4, l5, l6, l7, l8, l9], [], (sI h k0 i1.toNatClampNeg i2)) Q) := t_gd k_239_201 rfl
theorem k_239_202 : lk 239 202 = some (.iinc 4 1, 205, 4, 0, .int 1) := by decide +kernel
theorem x_239_202 : Tr sc d 239 (202, [l0, l1, l2, l3, some (.int x), l5, l6, l7, l8, l9], [], h) Q = Tr sc d 239 (205, [l0, l1, l2, cl2 l3, some (.int (x + 1)), l5, l6, l7, l8, l9], [], h) Q := t_inc k_239_202 rfl (Nat.le_of_ble_eq_true rfl)
theorem k_239_205 : lk 239 205 = some (.iinc 7 1, 208, 7, 0, .int 1) := by decide +kernel
theorem x_239_205 : Tr sc d 239 (205, [l0, l1, l2, l3, l4, l5, l6, some (.int x), l8, l9], [], h) Q = Tr sc d 239 (208, [l0, l1, l2, l3, l4, l5, cl2 l6, some (.int (x + 1)), l8, l9], [], h) Q := t_inc k_239_205 rfl (Nat.le_of_ble_eq_true rfl)
theorem k_239_208 : lk 239 208 = some (.goto (-169), 211, 39, 0, .null) := by decide +kernel
theorem x_239_208 : Tr sc d 239 (208, [l0, l1, l2, l3, l4, l5, l6, l7, l8, l9], [], h) Q = Tr sc d 239 (39, [l0, l1, l2, l3, l4, l5, l6, l7, l8, l9], [], h) Q := t_go k_239_208 rfl
theorem k_239_211 : lk 239 211 = some (.iinc 5 1, 214, 5, 0, .int 1) := by decide +kernel
theorem x_239_211 : Tr sc d 239 (211, [l0, l1, l2, l3, l4, some (.int x), l6, l7, l8, l9], [], h) Q = Tr sc d 239 (214, [l0, l1, l2, l3, cl2 l4, some (.int (x + 1)), l6, l7, l8, l9], [], h) Q := t_inc k_239_211 rfl (Nat.le_of_ble_eq_true rfl)
theorem k_239_214 : lk 239 214 = some (.goto (-194), 217, 20, 0, .null) := by decide +kernel
theorem x_239_214 : Tr sc d 239 (214, [l0, l1, l2, l3, l4, l5, l6, l7, l8, l9], [], h) Q = Tr sc d 239 (20, [l0, l1, l2, l3, l4, l5, l6, l7, l8, l9], [], h) Q := t_go k_239_214 rfl
theorem k_239_217 : lk 239 217 = some (.return_, 218, 0, 0, .null) := by decide +kernel
theorem x_239_217 : Tr sc d 239 (217, [l0, l1, l2, l3, l4, l5, l6, l7, l8, l9], [], h) Q = Q (none, h) := t_ret k_239_217 (by rw [r_239]; rfl)
theorem e_239 : Tr sc d 239 (ent0 239 [.ref k0, .int i1, .int i2, .int i3] h) Q = Tr sc d 239 (0, [some (.ref k0), some (.int i1), some (.int i2), some (.int i3), none, none, none, none, none, none], [], h) Q := by
  have e : mL 239 = 10 := by decide +kernel
  unfold ent0
  rw [e]
  rfl
theorem r_240 : mR 240 = some .int := by decide +kernel
theorem k_240_0 : lk 240 0 = some (.aload_n 0, 1, 0, 0, .null) := by decide +kernel
theorem x_240_0 : Tr sc d 240 (0, [some (.ref xk), l1, l2, l3, l4, l5, l6], [], h) Q = Tr sc d 240 (1, [some (.ref xk), l1, l2, l3, l4, l5, l6], [.ref xk], h) Q := t_aload_n k_240_0 rfl
theorem k_240_1 : lk 240 1 = some (.iload_n 1, 2, 1, 0, .null) := by decide +kernel
theorem x_240_1 : Tr sc d 240 (1, [l0, some (.int x), l2, l3, l4, l5, l6], [.ref k0], h) Q = Tr sc d 240 (2, [l0, some (.int x), l2, l3, l4, l5, l6], [.int x, .ref k0], h) Q := t_iload_n k_240_1 rfl
theorem k_240_2 : lk 240 2 = some (.iload_n 2, 3, 2, 0, .null) := by decide +kernel
theorem x_240_2 : Tr sc d 240 (2, [l0, l1, some (.int x), l3, l4, l5, l6], [.int i1, .ref k0], h) Q = Tr sc d 240 (3, [l0, l1, some (.int x), l3, l4, l5, l6], [.int x, .int i1, .ref k0], h) Q := t_iload_n k_240_2 rfl
theorem k_240_3 : lk 240 3 = some (.iconst 3, 4, 0, 0, .int 3) := by decide +kernel
theorem x_240_3 : Tr sc d 240 (3, [l0, l1, l2, l3, l4, l5, l6], [.int i2, .int i1, .ref k0], h) Q = Tr sc d 240 (4, [l0, l1, l2, l3, l4, l5, l6], [.int 3, .int i2, .int i1, .ref k0], h) Q := t_go k_240_3 rfl
theorem k_240_4 : lk 240 4 = some (.invokevirtual 304, 7, 206, 3, .null) := by decide +kernel
theorem x_240_4 : Tr sc (d + 1) 240 (4, [l0, l1, l2, l3, l4, l5, l6], [.int i3, .int i2, .int i1, .ref k0], h) Q = (okp h k0 10 = true ∧ Tr sc d 206 (ent0 206 [.ref k0, .int i1, .int i2, .int i3] h) (fun z => Tr sc (d + 1) 240 (7, [l0, l1, l2, l3, l4, l5, l6], z.1.toList ++ [], z.2) Q)) := t_cv (as := [.int i1, .int i2, .int i3]) (r := []) k_240_4 rfl rfl (Nat.le_of_ble_eq_true rfl) (Nat.le_of_ble_eq_true rfl) (Nat.le_of_ble_eq_true rfl)
theorem k_240_7 : lk 240 7 = some (.istore 4, 9, 4, 0, .null) := by decide +kernel
theorem x_240_7 : Tr sc d 240 (7, [l0, l1, l2, l3, l4, l5, l6], [.int i0], h) Q = Tr sc d 240 (9, [l0, l1, l2, cl2 l3, some (.int i0), l5, l6], [], h) Q := t_istore k_240_7 (Nat.le_of_ble_eq_true rfl)
theorem k_240_9 : lk 240 9 = some (.iload 4, 11, 4, 0, .null) := by decide +kernel
theorem x_240_9 : Tr sc d 240 (9, [l0, l1, l2, l3, some (.int x), l5, l6], [], h) Q = Tr sc d 240 (11, [l0, l1, l2, l3, some (.int x), l5, l6], [.int x], h) Q := t_iload k_240_9 rfl
theorem k_240_11 : lk 240 11 = some (.ifCond .ge 6, 14, 17, 0, .null) := by decide +kernel
theorem x_240_11 : Tr sc d 240 (11, [l0, l1, l2, l3, l4, l5, l6], [.int i0], h) Q = if 0 ≤ i0 then Tr sc d 240 (17, [l0, l1, l2, l3, l4, l5, l6], [], h) Q else Tr sc d 240 (14, [l0, l1, l2, l3, l4, l5, l6], [], h) Q := t_if k_240_11 rfl
theorem k_240_14 : lk 240 14 = some (.iload 4, 16, 4, 0, .null) := by decide +kernel
theorem x_240_14 : Tr sc d 240 (14, [l0, l1, l2, l3, some (.int x), l5, l6], [], h) Q = Tr sc d 240 (16, [l0, l1, l2, l3, some (.int x), l5, l6], [.int x], h) Q := t_iload k_240_14 rfl
theorem k_240_16 : lk 240 16 = some (.ireturn, 17, 0, 0, .null) := by decide +kernel
theorem x_240_16 : Tr sc d 240 (16, [l0, l1, l2, l3, l4, l5, l6], [.int i0], h) Q = Q (some (.int i0), h) := t_ret k_240_16 (by rw [r_240]; rfl)
theorem k_240_17 : lk 240 17 = some (.aload_n 0, 18, 0, 0, .null) := by decide +kernel
theorem x_240_17 : Tr sc d 240 (17, [some (.ref xk), l1, l2, l3, l4, l5, l6], [], h) Q = Tr sc d 240 (18, [some (.ref xk), l1, l2, l3, l4, l5, l6], [.ref xk], h) Q := t_aload_n k_240_17 rfl
theorem k_240_18 : lk 240 18 = some (.iload_n 1, 19, 1, 0, .null) := by decide +kernel
theorem x_240_18 : Tr sc d 240 (18, [l0, some (.int x), l2, l3, l4, l5, l6], [.ref k0], h) Q = Tr sc d 240 (19, [l0, some (.int x), l2, l3, l4, l5, l6], [.int x, .ref k0], h) Q := t_iload_n k_240_18 rfl
theorem k_240_19 : lk 240 19 = some (.iload_n 2, 20, 2, 0, .null) := by decide +kernel
theorem x_240_19 : Tr sc d 240 (19, [l0, l1, some (.int x), l3, l4, l5, l6], [.int i1, .ref k0], h) Q = Tr sc d 240 (20, [l0, l1, some (.int x), l3, l4, l5, l6], [.int x, .int i1, .ref k0], h) Q := t_iload_n k_240_19 rfl
theorem k_240_20 : lk 240 20 = some (.invokevirtual 307, 23, 204, 2, .null) := by decide +kernel
theorem x_240_20 : Tr sc (d + 1) 240 (20, [l0, l1, l2, l3, l4, l5, l6], [.int i2, .int i1, .ref k0], h) Q = (okp h k0 10 = true ∧ Tr sc d 204 (ent0 204 [.ref k0, .int i1, .int i2] h) (fun z => Tr sc (d + 1) 240 (23, [l0, l1, l2, l3, l4, l5, l6], z.1.toList ++ [], z.2) Q)) := t_cv (as := [.int i1, .int i2]) (r := []) k_240_20 rfl rfl (Nat.le_of_ble_eq_true rfl) (Nat.le_of_ble_eq_true rfl) (Nat.le_of_ble_eq_true rfl)
theorem k_240_23 : lk 240 23 = some (.aload_n 0, 24, 0, 0, .null) := by decide +kernel
theorem x_240_23 : Tr sc d 240 (23, [some (.ref xk), l1, l2, l3, l4, l5, l6], [], h) Q = Tr sc d 240 (24, [some (.ref xk), l1, l2, l3, l4, l5, l6], [.ref xk], h) Q := t_aload_n k_240_23 rfl
theorem k_240_24 : lk 240 24 = some (.getfield 283, 27, 10, 36, .int 0) := by decide +kernel
theorem x_240_24 : Tr sc d 240 (24, [l0, l1, l2, l3, l4, l5, l6], [.ref k0], h) Q = (okp h k0 10 = true ∧ Tr sc d 240 (27, [l0, l1, l2, l3, l4, l5, l6], [.int (hI h k0 36)], h) Q) := t_gd k_240_24 rfl
theorem k_240_27 : lk 240 27 = some (.ifCond .ne 9, 30, 36, 0, .null) := by decide +kernel
theorem x_240_27 : Tr sc d 240 (27, [l0, l1, l2, l3, l4, l5, l6], [.int i0], h) Q = if i0 = 0 then Tr sc d 240 (30, [l0, l1, l2, l3, l4, l5, l6], [], h) Q else Tr sc d 240 (36, [l0, l1, l2, l3, l4, l5, l6], [], h) Q := t_if k_240_27 rfl
theorem k_240_30 : lk 240 30 = some (.aload_n 0, 31, 0, 0, .null) := by decide +kernel
theorem x_240_30 : Tr sc d 240 (30, [some (.ref xk), l1, l2, l3, l4, l5, l6], [], h) Q = Tr sc d 240 (31, [some (.ref xk), l1, l2, l3, l4, l5, l6], [.ref xk], h) Q := t_aload_n k_240_30 rfl
theorem k_240_31 : lk 240 31 = some (.iconst 4, 32, 0, 0, .int 4) := by decide +kernel
theorem x_240_31 : Tr sc d 240 (31, [l0, l1, l2, l3, l4, l5, l6], [.ref k0], h) Q = Tr sc d 240 (32, [l0, l1, l2, l3, l4, l5, l6], [.int 4, .ref k0], h) Q := t_go k_240_31 rfl
theorem k_240_32 : lk 240 32 = some (.invokevirtual 152, 35, 158, 1, .null) := by decide +kernel
theorem x_240_32 : Tr sc (d + 1) 240 (32, [l0, l1, l2, l3, l4, l5, l6], [.int i1, .ref k0], h) Q = (okp h k0 10 = true ∧ Tr sc d 158 (ent0 158 [.ref k0, .int i1] h) (fun z => Tr sc (d + 1) 240 (35, [l0, l1, l2, l3, l4, l5, l6], z.1.toList ++ [], z.2) Q)) := t_cv (as := [.int i1]) (r := []) k_240_32 rfl rfl (Nat.le_of_ble_eq_true rfl) (Nat.le_of_ble_eq_true rfl) (Nat.le_of_ble_eq_true rfl)
theorem k_240_35 : lk 240 35 = some (.ireturn, 36, 0, 0, .null) := by decide +kernel
theorem x_240_35 : Tr sc d 240 (35, [l0, l1, l2, l3, l4, l5, l6], [.int i0], h) Q = Q (some (.int i0), h) := t_ret k_240_35 (by rw [r_240]; rfl)
theorem k_240_36 : lk 240 36 = some (.iload_n 3, 37, 3, 0, .null) := by decide +kernel
theorem x_240_36 : Tr sc d 240 (36, [l0, l1, l2, some (.int x), l4, l5, l6], [], h) Q = Tr sc d 240 (37, [l0, l1, l2, some (.int x), l4, l5, l6], [.int x], h) Q := t_iload_n k_240_36 rfl
theorem k_240_37 : lk 240 37 = some (.iconst 0, 38, 0, 0, .int 0) := by decide +kernel
theorem x_240_37 : Tr sc d 240 (37, [l0, l1, l2, l3, l4, l5, l6], [.int i0], h) Q = Tr sc d 240 (38, [l0, l1, l2, l3, l4, l5, l6], [.int 0, .int i0], h) Q := t_go k_240_37 rfl
theorem k_240_38 : lk 240 38 = some (.aload_n 0, 39, 0, 0, .null) := by decide +kernel
theorem x_240_38 : Tr sc d 240 (38, [some (.ref xk), l1, l2, l3, l4, l5, l6], [.int i1, .int i0], h) Q = Tr sc d 240 (39, [some (.ref xk), l1, l2, l3, l4, l5, l6], [.ref xk, .int i1, .int i0], h) Q := t_aload_n k_240_38 rfl
theorem k_240_39 : lk 240 39 = some (.getfield 301, 42, 10, 44, .int 0) := by decide +kernel
theorem x_240_39 : Tr sc d 240 (39, [l0, l1, l2, l3, l4, l5, l6], [.ref k2, .int i1, .int i0], h) Q = (okp h k2 10 = true ∧ Tr sc d 240 (42, [l0, l1, l2, l3, l4, l5, l6], [.int (hI h k2 44), .int i1, .int i0], h) Q) := t_gd k_240_39 rfl
theorem k_240_42 : lk 240 42 = some (.aload_n 0, 43, 0, 0, .null) := by decide +kernel
theorem x_240_42 : Tr sc d 240 (42, [some (.ref xk), l1, l2, l3, l4, l5, l6], [.int i2, .int i1, .int i0], h) Q = Tr sc d 240 (43, [some (.ref xk), l1, l2, l3, l4, l5, l6], [.ref xk, .int i2, .int i1, .int i0], h) Q := t_aload_n k_240_42 rfl
theorem k_240_43 : lk 240 43 = some (.getfield 298, 46, 10, 43, .int 0) := by decide +kernel
theorem x_240_43 : Tr sc d 240 (43, [l0, l1, l2, l3, l4, l5, l6], [.ref k3, .int i2, .int i1, .int i0], h) Q = (okp h k3 10 = true ∧ Tr sc d 240 (46, [l0, l1, l2, l3, l4, l5, l6], [.int (hI h k3 43), .int i2, .int i1, .int i0], h) Q) := t_gd k_240_43 rfl
theorem k_240_46 : lk 240 46 = some (.isub, 47, 0, 0, .null) := by decide +kernel
theorem x_240_46 : Tr sc d 240 (46, [l0, l1, l2, l3, l4, l5, l6], [.int i3, .int i2, .int i1, .int i0], h) Q = Tr sc d 240 (47, [l0, l1, l2, l3, l4, l5, l6], [.int (i2 - i3), .int i1, .int i0], h) Q := t_go k_240_46 rfl
theorem k_240_47 : lk 240 47 = some (.invokestatic 144, 50, 157, 3, .null) := by decide +kernel
theorem x_240_47 : Tr sc (d + 1) 240 (47, [l0, l1, l2, l3, l4, l5, l6], [.int i2, .int i1, .int i0], h) Q = Tr sc d 157 (ent0 157 [.int i0, .int i1, .int i2] h) (fun z => Tr sc (d + 1) 240 (50, [l0, l1, l2, l3, l4, l5, l6], z.1.toList ++ [], z.2) Q) := t_cs (as := [.int i0, .int i1, .int i2]) (r := []) k_240_47 (by decide) rfl rfl (Nat.le_of_ble_eq_true rfl) (Nat.le_of_ble_eq_true rfl)
theorem k_240_50 : lk 240 50 = some (.ifCond .ne 9, 53, 59, 0, .null) := by decide +kernel
theorem x_240_50 : Tr sc d 240 (50, [l0, l1, l2, l3, l4, l5, l6], [.int i0], h) Q = if i0 = 0 then Tr sc d 240 (53, [l0, l1, l2, l3, l4, l5, l6], [], h) Q else Tr sc d 240 (59, [l0, l1, l2, l3, l4, l5, l6], [], h) Q := t_if k_240_50 rfl
theorem k_240_53 : lk 240 53 = some (.aload_n 0, 54, 0, 0, .null) := by decide +kernel
theorem x_240_53 : Tr sc d 240 (53, [some (.ref xk), l1, l2, l3, l4, l5, l6], [], h) Q = Tr sc d 240 (54, [some (.ref xk), l1, l2, l3, l4, l5, l6], [.ref xk], h) Q := t_aload_n k_240_53 rfl
theorem k_240_54 : lk 240 54 = some (.iconst 2, 55, 0, 0, .int 2) := by decide +kernel
theorem x_240_54 : Tr sc d 240 (54, [l0, l1, l2, l3, l4, l5, l6], [.ref k0], h) Q = Tr sc d 240 (55, [l0, l1, l2, l3, l4, l5, l6], [.int 2, .ref k0], h) Q := t_go k_240_54 rfl
theorem k_240_55 : lk 240 55 = some (.invokevirtual 152, 58, 158, 1, .null) := by decide +kernel
theorem x_240_55 : Tr sc (d + 1) 240 (55, [l0, l1, l2, l3, l4, l5, l6], [.int i1, .ref k0], h) Q = (okp h k0 10 = true ∧ Tr sc d 158 (ent0 158 [.ref k0, .int i1] h) (fun z => Tr sc (d + 1) 240 (58, [l0, l1, l2, l3, l4, l5, l6], z.1.toList ++ [], z.2) Q)) := t_cv (as := [.int i1]) (r := []) k_240_55 rfl rfl (Nat.le_of_ble_eq_true rfl) (Nat.le_of_ble_eq_true rfl) (Nat.le_of_ble_eq_true rfl)
theorem k_240_58 : lk 240 58 = some (.ireturn, 59, 0, 0, .null) := by decide +kernel
theorem x_240_58 : Tr sc d 240 (58, [l0, l1, l2, l3, l4, l5, l6], [.int i0], h) Q = Q (some (.int i0), h) := t_ret k_240_58 (by rw [r_240]; rfl)
theorem k_240_59 : lk 240 59 = some (.aload_n 0, 60, 0, 0, .null) := by decide +kernel
theorem x_240_59 : Tr sc d 240 (59, [some (.ref xk), l1, l2, l3, l4, l5, l6], [], h) Q = Tr sc d 240 (60, [some (.ref xk), l1, l2, l3, l4, l5, l6], [.ref xk], h) Q := t_aload_n k_240_59 rfl
theorem k_240_60 : lk 240 60 = some (.getfield 295, 63, 10, 42, .int 0) := by decide +kernel
theorem x_240_60 : Tr sc d 240 (60, [l0, l1, l2, l3, l4, l5, l6], [.ref k0], h) Q = (okp h k0 10 = true ∧ Tr sc d 240 (63, [l0, l1, l2, l3, l4, l5, l6], [.int (hI h k0 42)], h) Q) := t_gd k_240_60 rfl
theorem k_240_63 : lk 240 63 = some (.aload_n 0, 64, 0, 0, .null) := by decide +kernel
theorem x_240_63 : Tr sc d 240 (63, [some (.ref xk), l1, l2, l3, l4, l5, l6], [.int i0], h) Q = Tr sc d 240 (64, [some (.ref xk), l1, l2, l3, l4, l5, l6], [.ref xk, .int i0], h) Q := t_aload_n k_240_63 rfl
theorem k_240_64 : lk 240 64 = some (.getfield 292, 67, 10, 41, .int 0) := by decide +kernel
theorem x_240_64 : Tr sc d 240 (64, [l0, l1, l2, l3, l4, l5, l6], [.ref k1, .int i0], h) Q = (okp h k1 10 = true ∧ Tr sc d 240 (67, [l0, l1, l2, l3, l4, l5, l6], [.int (hI h k1 41), .int i0], h) Q) := t_gd k_240_64 rfl
theorem k_240_67 : lk 240 67 = some (.isub, 68, 0, 0, .null) := by decide +kernel
theorem x_240_67 : Tr sc d 240 (67, [l0, l1, l2, l3, l4, l5, l6], [.int i1, .int i0], h) Q = Tr sc d 240 (68, [l0, l1, l2, l3, l4, l5, l6], [.int (i0 - i1)], h) Q := t_go k_240_67 rfl
theorem k_240_68 : lk 240 68 = some (.bipush 60, 70, 0, 0, .int 60) := by decide +kernel
theorem x_240_68 : Tr sc d 240 (68, [l0, l1, l2, l3, l4, l5, l6], [.int i0], h) Q = Tr sc d 240 (70, [l0, l1, l2, l3, l4, l5, l6], [.int 60, .int i0], h) Q := t_go k_240_68 rfl
theorem k_240_70 : lk 240 70 = some (.if_icmp .lt 6, 73, 76, 0, .null) := by decide +kernel
theorem x_240_70 : Tr sc d 240 (70, [l0, l1, l2, l3, l4, l5, l6], [.int i1, .int i0], h) Q = if i0 < i1 then Tr sc d 240 (76, [l0, l1, l2, l3, l4, l5, l6], [], h) Q else Tr sc d 240 (73, [l0, l1, l2, l3, l4, l5, l6], [], h) Q := t_if k_240_70 rfl
theorem k_240_73 : lk 240 73 = some (.bipush (-6), 75, 0, 0, .int (-6)) := by decide +kernel
theorem x_240_73 : Tr sc d 240 (73, [l0, l1, l2, l3, l4, l5, l6], [], h) Q = Tr sc d 240 (75, [l0, l1, l2, l3, l4, l5, l6], [.int (-6)], h) Q := t_go k_240_73 rfl
theorem k_240_75 : lk 240 75 = some (.ireturn, 76, 0, 0, .null) := by decide +kernel
theorem x_240_75 : Tr sc d 240 (75, [l0, l1, l2, l3, l4, l5, l6], [.int i0], h) Q = Q (some (.int i0), h) := t_ret k_240_75 (by rw [r_240]; rfl)
theorem k_240_76 : lk 240 76 = some (.aload_n 0, 77, 0, 0, .null) := by decide +kernel
theorem x_240_76 : Tr sc d 240 (76, [some (.ref xk), l1, l2, l3, l4, l5, l6], [], h) Q = Tr sc d 240 (77, [some (.ref xk), l1, l2, l3, l4, l5, l6], [.ref xk], h) Q := t_aload_n k_240_76 rfl
theorem k_240_77 : lk 240 77 = some (.lconst 0, 78, 0, 0, .long 0) := by decide +kernel
theorem x_240_77 : Tr sc d 240 (77, [l0, l1, l2, l3, l4, l5, l6], [.ref k0], h) Q = Tr sc d 240 (78, [l0, l1, l2, l3, l4, l5, l6], [.long 0, .ref k0], h) Q := t_go k_240_77 rfl
theorem k_240_78 : lk 240 78 = some (.putfield 267, 81, 10, 3, .long 0) := by decide +kernel
theorem x_240_78 : Tr sc d 240 (78, [l0, l1, l2, l3, l4, l5, l6], [.long j1, .ref k0], h) Q = (okp h k0 10 = true ∧ Tr sc d 240 (81, [l0, l1, l2, l3, l4, l5, l6], [], (sL h k0 3 j1)) Q) := t_gd k_240_78 rfl
theorem k_240_81 : lk 240 81 = some (.iconst 0, 82, 0, 0, .int 0) := by decide +kernel
theorem x_240_81 : Tr sc d 240 (81, [l0, l1, l2, l3, l4, l5, l6], [], h) Q = Tr sc d 240 (82, [l0, l1, l2, l3, l4, l5, l6], [.int 0], h) Q := t_go k_240_81 rfl
theorem k_240_82 : lk 240 82 = some (.istore 5, 84, 5, 0, .null) := by decide +kernel
theorem x_240_82 : Tr sc d 240 (82, [l0, l1, l2, l3, l4, l5, l6], [.int i0], h) Q = Tr sc d 240 (84, [l0, l1, l2, l3, cl2 l4, some (.int i0), l6], [], h) Q := t_istore k_240_82 (Nat.le_of_ble_eq_true rfl)
theorem k_240_84 : lk 240 84 = some (.iconst 0, 85, 0, 0, .int 0) := by decide +kernel
theorem x_240_84 : Tr sc d 240 (84, [l0, l1, l2, l3, l4, l5, l6], [], h) Q = Tr sc d 240 (85, [l0, l1, l2, l3, l4, l5, l6], [.int 0], h) Q := t_go k_240_84 rfl
theorem k_240_85 : lk 240 85 = some (.istore 6, 87, 6, 0, .null) := by decide +kernel
theorem x_240_85 : Tr sc d 240 (85, [l0, l1, l2, l3, l4, l5, l6], [.int i0], h) Q = Tr sc d 240 (87, [l0, l1, l2, l3, l4, cl2 l5, some (.int i0)], [], h) Q := t_istore k_240_85 (Nat.le_of_ble_eq_true rfl)
theorem k_240_87 : lk 240 87 = some (.iload 6, 89, 6, 0, .null) := by decide +kernel
theorem x_240_87 : Tr sc d 240 (87, [l0, l1, l2, l3, l4, l5, some (.int x)], [], h) Q = Tr sc d 240 (89, [l0, l1, l2, l3, l4, l5, some (.int x)], [.int x], h) Q := t_iload k_240_87 rfl
theorem k_240_89 : lk 240 89 = some (.aload_n 0, 90, 0, 0, .null) := by decide +kernel
theorem x_240_89 : Tr sc d 240 (89, [some (.ref xk), l1, l2, l3, l4, l5, l6], [.int i0], h) Q = Tr sc d 240 (90, [some (.ref xk), l1, l2, l3, l4, l5, l6], [.ref xk, .int i0], h) Q := t_aload_n k_240_89 rfl
theorem k_240_90 : lk 240 90 = some (.getfield 283, 93, 10, 36, .int 0) := by decide +kernel
theorem x_240_90 : Tr sc d 240 (90, [l0, l1, l2, l3, l4, l5, l6], [.ref k1, .int i0], h) Q = (okp h k1 10 = true ∧ Tr sc d 240 (93, [l0, l1, l2, l3, l4, l5, l6], [.int (hI h k1 36), .int i0], h) Q) := t_gd k_240_90 rfl
theorem k_240_93 : lk 240 93 = some (.if_icmp .ge 51, 96, 144, 0, .null) := by decide +kernel
theorem x_240_93 : Tr sc d 240 (93, [l0, l1, l2, l3, l4, l5, l6], [.int i1, .int i0], h) Q = if i1 ≤ i0 then Tr sc d 240 (144, [l0, l1, l2, l3, l4, l5, l6], [], h) Q else Tr sc d 240 (96, [l0, l1, l2, l3, l4, l5, l6], [], h) Q := t_if k_240_93 rfl
theorem k_240_96 : lk 240 96 = some (.aload_n 0, 97, 0, 0, .null) := by decide +kernel
theorem x_240_96 : Tr sc d 240 (96, [some (.ref xk), l1, l2, l3, l4, l5, l6], [], h) Q = Tr sc d 240 (97, [some (.ref xk), l1, l2, l3, l4, l5, l6], [.ref xk], h) Q := t_aload_n k_240_96 rfl
theorem k_240_97 : lk 240 97 = some (.getfield 81, 100, 10, 40, .null) := by decide +kernel
theorem x_240_97 : Tr sc d 240 (97, [l0, l1, l2, l3, l4, l5, l6], [.ref k0], h) Q = (okp h k0 10 = true ∧ ∃ q, hR h k0 40 = some q ∧ Tr sc d 240 (100, [l0, l1, l2, l3, l4, l5, l6], [.ref q], h) Q) := t_getr k_240_97
theorem k_240_100 : lk 240 100 = some (.iload 6, 102, 6, 0, .null) := by decide +kernel
theorem x_240_100 : Tr sc d 240 (100, [l0, l1, l2, l3, l4, l5, some (.int x)], [.ref k0], h) Q = Tr sc d 240 (102, [l0, l1, l2, l3, l4, l5, some (.int x)], [.int x, .ref k0], h) Q := t_iload k_240_100 rfl
theorem k_240_102 : lk 240 102 = some (.iaload, 103, 0, 0, .null) := by decide +kernel
theorem x_240_102 : Tr sc d 240 (102, [l0, l1, l2, l3, l4, l5, l6], [.int i1, .ref k0], h) Q = (iOk sc h k0 i1 ∧ Tr sc d 240 (103, [l0, l1, l2, l3, l4, l5, l6], [.int (iRd sc h k0 i1)], h) Q) := t_iald k_240_102
theorem k_240_103 : lk 240 103 = some (.aload_n 0, 104, 0, 0, .null) := by decide +kernel
theorem x_240_103 : Tr sc d 240 (103, [some (.ref xk), l1, l2, l3, l4, l5, l6], [.int i0], h) Q = Tr sc d 240 (104, [some (.ref xk), l1, l2, l3, l4, l5, l6], [.ref xk, .int i0], h) Q := t_aload_n k_240_103 rfl
theorem k_240_104 : lk 240 104 = some (.getfield 298, 107, 10, 43, .int 0) := by decide +kernel
theorem x_240_104 : Tr sc d 240 (104, [l0, l1, l2, l3, l4, l5, l6], [.ref k1, .int i0], h) Q = (okp h k1 10 = true ∧ Tr sc d 240 (107, [l0, l1, l2, l3, l4, l5, l6], [.int (hI h k1 43), .int i0], h) Q) := t_gd k_240_104 rfl
theorem k_240_107 : lk 240 107 = some (.iload_n 3, 108, 3, 0, .null) := by decide +kernel
theorem x_240_107 : Tr sc d 240 (107, [l0, l1, l2, some (.int x), l4, l5, l6], [.int i1, .int i0], h) Q = Tr sc d 240 (108, [l0, l1, l2, some (.int x), l4, l5, l6], [.int x, .int i1, .int i0], h) Q := t_iload_n k_240_107 rfl
theorem k_240_108 : lk 240 108 = some (.iadd, 109, 0, 0, .null) := by decide +kernel
theorem x_240_108 : Tr sc d 240 (108, [l0, l1, l2, l3, l4, l5, l6], [.int i2, .int i1, .int i0], h) Q = Tr sc d 240 (109, [l0, l1, l2, l3, l4, l5, l6], [.int (i1 + i2), .int i0], h) Q := t_go k_240_108 rfl
theorem k_240_109 : lk 240 109 = some (.if_icmp .ne 29, 112, 138, 0, .null) := by decide +kernel
theorem x_240_109 : Tr sc d 240 (109, [l0, l1, l2, l3, l4, l5, l6], [.int i1, .int i0], h) Q = if i0 = i1 then Tr sc d 240 (112, [l0, l1, l2, l3, l4, l5, l6], [], h) Q else Tr sc d 240 (138, [l0, l1, l2, l3, l4, l5, l6], [], h) Q := t_if k_240_109 rfl
theorem k_240_112 : lk 240 112 = some (.aload_n 0, 113, 0, 0, .null) := by decide +kernel
theorem x_240_112 : Tr sc d 240 (112, [some (.ref xk), l1, l2, l3, l4, l5, l6], [], h) Q = Tr sc d 240 (113, [some (.ref xk), l1, l2, l3, l4, l5, l6], [.ref xk], h) Q := t_aload_n k_240_112 rfl
theorem k_240_113 : lk 240 113 = some (.dup, 114, 0, 0, .null) := by decide +kernel
theorem x_240_113 : Tr sc d 240 (113, [l0, l1, l2, l3, l4, l5, l6], [.ref k0], h) Q = Tr sc d 240 (114, [l0, l1, l2, l3, l4, l5, l6], [.ref k0, .ref k0], h) Q := t_go k_240_113 rfl
theorem k_240_114 : lk 240 114 = some (.getfield 267, 117, 10, 3, .long 0) := by decide +kernel
theorem x_240_114 : Tr sc d 240 (114, [l0, l1, l2, l3, l4, l5, l6], [.ref k1, .ref k0], h) Q = (okp h k1 10 = true ∧ Tr sc d 240 (117, [l0, l1, l2, l3, l4, l5, l6], [.long (hL h k1 3), .ref k0], h) Q) := t_gd k_240_114 rfl
theorem k_240_117 : lk 240 117 = some (.lconst 1, 118, 0, 0, .long 1) := by decide +kernel
theorem x_240_117 : Tr sc d 240 (117, [l0, l1, l2, l3, l4, l5, l6], [.long j1, .ref k0], h) Q = Tr sc d 240 (118, [l0, l1, l2, l3, l4, l5, l6], [.long 1, .long j1, .ref k0], h) Q := t_go k_240_117 rfl
theorem k_240_118 : lk 240 118 = some (.aload_n 0, 119, 0, 0, .null) := by decide +kernel
theorem x_240_118 : Tr sc d 240 (118, [some (.ref xk), l1, l2, l3, l4, l5, l6], [.long j2, .long j1, .ref k0], h) Q = Tr sc d 240 (119, [some (.ref xk), l1, l2, l3, l4, l5, l6], [.ref xk, .long j2, .long j1, .ref k0], h) Q := t_aload_n k_240_118 rfl
theorem k_240_119 : lk 240 119 = some (.getfield 78, 122, 10, 39, .null) := by decide +kernel
theorem x_240_119 : Tr sc d 240 (119, [l0, l1, l2, l3, l4, l5, l6], [.ref k3, .long j2, .long j1, .ref k0], h) Q = (okp h k3 10 = true ∧ ∃ q, hR h k3 39 = some q ∧ Tr sc d 240 (122, [l0, l1, l2, l3, l4, l5, l6], [.ref q, .long j2, .long j1, .ref k0], h) Q) := t_getr k_240_119
theorem k_240_122 : lk 240 122 = some (.iload 6, 124, 6, 0, .null) := by decide +kernel
theorem x_240_122 : Tr sc d 240 (122, [l0, l1, l2, l3, l4, l5, some (.int x)], [.ref k3, .long j2, .long j1, .ref k0], h) Q = Tr sc d 240 (124, [l0, l1, l2, l3, l4, l5, some (.int x)], [.int x, .ref k3, .long j2, .long j1, .ref k0], h) Q := t_iload k_240_122 rfl
theorem k_240_124 : lk 240 124 = some (.iaload, 125, 0, 0, .null) := by decide +kernel
theorem x_240_124 : Tr sc d 240 (124, [l0, l1, l2, l3, l4, l5, l6], [.int i4, .ref k3, .long j2, .long j1, .ref k0], h) Q = (iOk sc h k3 i4 ∧ Tr sc d 240 (125, [l0, l1, l2, l3, l4, l5, l6], [.int (iRd sc h k3 i4), .long j2, .long j1, .ref k0], h) Q) := t_iald k_240_124
theorem k_240_125 : lk 240 125 = some (.aload_n 0, 126, 0, 0, .null) := by decide +kernel
theorem x_240_125 : Tr sc d 240 (125, [some (.ref xk), l1, l2, l3, l4, l5, l6], [.int i3, .long j2, .long j1, .ref k0], h) Q = Tr sc d 240 (126, [some (.ref xk), l1, l2, l3, l4, l5, l6], [.ref xk, .int i3, .long j2, .long j1, .ref k0], h) Q := t_aload_n k_240_125 rfl
theorem k_240_126 : lk 240 126 = some (.getfield 292, 129, 10, 41, .int 0) := by decide +kernel
theorem x_240_126 : Tr sc d 240 (126, [l0, l1, l2, l3, l4, l5, l6], [.ref k4, .int i3, .long j2, .long j1, .ref k0], h) Q = (okp h k4 10 = true ∧ Tr sc d 240 (129, [l0, l1, l2, l3, l4, l5, l6], [.int (hI h k4 41), .int i3, .long j2, .long j1, .ref k0], h) Q) := t_gd k_240_126 rfl
theorem k_240_129 : lk 240 129 = some (.isub, 130, 0, 0, .null) := by decide +kernel
theorem x_240_129 : Tr sc d 240 (129, [l0, l1, l2, l3, l4, l5, l6], [.int i4, .int i3, .long j2, .long j1, .ref k0], h) Q = Tr sc d 240 (130, [l0, l1, l2, l3, l4, l5, l6], [.int (i3 - i4), .long j2, .long j1, .ref k0], h) Q := t_go k_240_129 rfl
theorem k_240_130 : lk 240 130 = some (.lshl, 131, 0, 0, .null) := by decide +kernel
theorem x_240_130 : Tr sc d 240 (130, [l0, l1, l2, l3, l4, l5, l6], [.int i3, .long j2, .long j1, .ref k0], h) Q = Tr sc d 240 (131, [l0, l1, l2, l3, l4, l5, l6], [.long (j2 <<< (i3.toInt64 &&& 63)), .long j1, .ref k0], h) Q := t_go k_240_130 rfl
theorem k_240_131 : lk 240 131 = some (.lor, 132, 0, 0, .null) := by decide +kernel
theorem x_240_131 : Tr sc d 240 (131, [l0, l1, l2, l3, l4, l5, l6], [.long j2, .long j1, .ref k0], h) Q = Tr sc d 240 (132, [l0, l1, l2, l3, l4, l5, l6], [.long (j1 ||| j2), .ref k0], h) Q := t_go k_240_131 rfl
theorem k_240_132 : lk 240 132 = some (.putfield 267, 135, 10, 3, .long 0) := by decide +kernel
theorem x_240_132 : Tr sc d 240 (132, [l0, l1, l2, l3, l4, l5, l6], [.long j1, .ref k0], h) Q = (okp h k0 10 = true ∧ Tr sc d 240 (135, [l0, l1, l2, l3, l4, l5, l6], [], (sL h k0 3 j1)) Q) := t_gd k_240_132 rfl
theorem k_240_135 : lk 240 135 = some (.iinc 5 1, 138, 5, 0, .int 1) := by decide +kernel
theorem x_240_135 : Tr sc d 240 (135, [l0, l1, l2, l3, l4, some (.int x), l6], [], h) Q = Tr sc d 240 (138, [l0, l1, l2, l3, cl2 l4, some (.int (x + 1)), l6], [], h) Q := t_inc k_240_135 rfl (Nat.le_of_ble_eq_true rfl)
theorem k_240_138 : lk 240 138 = some (.iinc 6 1, 141, 6, 0, .int 1) := by decide +kernel
theorem x_240_138 : Tr sc d 240 (138, [l0, l1, l2, l3, l4, l5, some (.int x)], [], h) Q = Tr sc d 240 (141, [l0, l1, l2, l3, l4, cl2 l5, some (.int (x + 1))], [], h) Q := t_inc k_240_138 rfl (Nat.le_of_ble_eq_true rfl)
theorem k_240_141 : lk 240 141 = some (.goto (-54), 144, 87, 0, .null) := by decide +kernel
theorem x_240_141 : Tr sc d 240 (141, [l0, l1, l2, l3, l4, l5, l6], [], h) Q = Tr sc d 240 (87, [l0, l1, l2, l3, l4, l5, l6], [], h) Q := t_go k_240_141 rfl
theorem k_240_144 : lk 240 144 = some (.iload 5, 146, 5, 0, .null) := by decide +kernel
theorem x_240_144 : Tr sc d 240 (144, [l0, l1, l2, l3, l4, some (.int x), l6], [], h) Q = Tr sc d 240 (146, [l0, l1, l2, l3, l4, some (.int x), l6], [.int x], h) Q := t_iload k_240_144 rfl
theorem k_240_146 : lk 240 146 = some (.ireturn, 147, 0, 0, .null) := by decide +kernel
theorem x_240_146 : Tr sc d 240 (146, [l0, l1, l2, l3, l4, l5, l6], [.int i0], h) Q = Q (some (.int i0), h) := t_ret k_240_146 (by rw [r_240]; rfl)
theorem e_240 : Tr sc d 240 (ent0 240 [.ref k0, .int i1, .int i2, .int i3] h) Q = Tr sc d 240 (0, [some (.ref k0), some (.int i1), some (.int i2), some (.int i3), none, none, none], [], h) Q := by
  have e : mL 240 = 7 := by decide +kernel
  unfold ent0
  rw [e]
  rfl
theorem r_241 : mR 241 = some .int := by decide +kernel
theorem k_241_0 : lk 241 0 = some (.iload_n 1, 1, 1, 0, .null) := by decide +kernel
theorem x_241_0 : Tr sc d 241 (0, [l0, some (.int x), l2, l3, l4, l5, l6], [], h) Q = Tr sc d 241 (1, [l0, some (.int x), l2, l3, l4, l5, l6], [.int x], h) Q := t_iload_n k_241_0 rfl
theorem k_241_1 : lk 241 1 = some (.invokestatic 190, 4, 176, 1, .null) := by decide +kernel
theorem x_241_1 : Tr sc (d + 1) 241 (1, [l0, l1, l2, l3, l4, l5, l6], [.int i0], h) Q = Tr sc d 176 (ent0 176 [.int i0] h) (fun z => Tr sc (d + 1) 241 (4, [l0, l1, l2, l3, l4, l5, l6], z.1.toList ++ [], z.2) Q) := t_cs (as := [.int i0]) (r := []) k_241_1 (by decide) rfl rfl (Nat.le_of_ble_eq_true rfl) (Nat.le_of_ble_eq_true rfl)
theorem k_241_4 : lk 241 4 = some (.ifCond .eq 19, 7, 23, 0, .null) := by decide +kernel
theorem x_241_4 : Tr sc d 241 (4, [l0, l1, l2, l3, l4, l5, l6], [.int i0], h) Q = if i0 = 0 then Tr sc d 241 (23, [l0, l1, l2, l3, l4, l5, l6], [], h) Q else Tr sc d 241 (7, [l0, l1, l2, l3, l4, l5, l6], [], h) Q := t_if k_241_4 rfl
theorem k_241_7 : lk 241 7 = some (.iload_n 2, 8, 2, 0, .null) := by decide +kernel
theorem x_241_7 : Tr sc d 241 (7, [l0, l1, some (.int x), l3, l4, l5, l6], [], h) Q = Tr sc d 241 (8, [l0, l1, some (.int x), l3, l4, l5, l6], [.int x], h) Q := t_iload_n k_241_7 rfl
theorem k_241_8 : lk 241 8 = some (.invokestatic 190, 11, 176, 1, .null) := by decide +kernel
theorem x_241_8 : Tr sc (d + 1) 241 (8, [l0, l1, l2, l3, l4, l5, l6], [.int i0], h) Q = Tr sc d 176 (ent0 176 [.int i0] h) (fun z => Tr sc (d + 1) 241 (11, [l0, l1, l2, l3, l4, l5, l6], z.1.toList ++ [], z.2) Q) := t_cs (as := [.int i0]) (r := []) k_241_8 (by decide) rfl rfl (Nat.le_of_ble_eq_true rfl) (Nat.le_of_ble_eq_true rfl)
theorem k_241_11 : lk 241 11 = some (.ifCond .eq 12, 14, 23, 0, .null) := by decide +kernel
theorem x_241_11 : Tr sc d 241 (11, [l0, l1, l2, l3, l4, l5, l6], [.int i0], h) Q = if i0 = 0 then Tr sc d 241 (23, [l0, l1, l2, l3, l4, l5, l6], [], h) Q else Tr sc d 241 (14, [l0, l1, l2, l3, l4, l5, l6], [], h) Q := t_if k_241_11 rfl
theorem k_241_14 : lk 241 14 = some (.iload_n 3, 15, 3, 0, .null) := by decide +kernel
theorem x_241_14 : Tr sc d 241 (14, [l0, l1, l2, some (.int x), l4, l5, l6], [], h) Q = Tr sc d 241 (15, [l0, l1, l2, some (.int x), l4, l5, l6], [.int x], h) Q := t_iload_n k_241_14 rfl
theorem k_241_15 : lk 241 15 = some (.iconst 0, 16, 0, 0, .int 0) := by decide +kernel
theorem x_241_15 : Tr sc d 241 (15, [l0, l1, l2, l3, l4, l5, l6], [.int i0], h) Q = Tr sc d 241 (16, [l0, l1, l2, l3, l4, l5, l6], [.int 0, .int i0], h) Q := t_go k_241_15 rfl
theorem k_241_16 : lk 241 16 = some (.iconst 4, 17, 0, 0, .int 4) := by decide +kernel
theorem x_241_16 : Tr sc d 241 (16, [l0, l1, l2, l3, l4, l5, l6], [.int i1, .int i0], h) Q = Tr sc d 241 (17, [l0, l1, l2, l3, l4, l5, l6], [.int 4, .int i1, .int i0], h) Q := t_go k_241_16 rfl
theorem k_241_17 : lk 241 17 = some (.invokestatic 144, 20, 157, 3, .null) := by decide +kernel
theorem x_241_17 : Tr sc (d + 1) 241 (17, [l0, l1, l2, l3, l4, l5, l6], [.int i2, .int i1, .int i0], h) Q = Tr sc d 157 (ent0 157 [.int i0, .int i1, .int i2] h) (fun z => Tr sc (d + 1) 241 (20, [l0, l1, l2, l3, l4, l5, l6], z.1.toList ++ [], z.2) Q) := t_cs (as := [.int i0, .int i1, .int i2]) (r := []) k_241_17 (by decide) rfl rfl (Nat.le_of_ble_eq_true rfl) (Nat.le_of_ble_eq_true rfl)
theorem k_241_20 : lk 241 20 = some (.ifCond .ne 5, 23, 25, 0, .null) := by decide +kernel
theorem x_241_20 : Tr sc d 241 (20, [l0, l1, l2, l3, l4, l5, l6], [.int i0], h) Q = if i0 = 0 then Tr sc d 241 (23, [l0, l1, l2, l3, l4, l5, l6], [], h) Q else Tr sc d 241 (25, [l0, l1, l2, l3, l4, l5, l6], [], h) Q := t_if k_241_20 rfl
theorem k_241_23 : lk 241 23 = some (.iconst (-1), 24, 0, 0, .int (-1)) := by decide +kernel
theorem x_241_23 : Tr sc d 241 (23, [l0, l1, l2, l3, l4, l5, l6], [], h) Q = Tr sc d 241 (24, [l0, l1, l2, l3, l4, l5, l6], [.int (-1)], h) Q := t_go k_241_23 rfl
theorem k_241_24 : lk 241 24 = some (.ireturn, 25, 0, 0, .null) := by decide +kernel
theorem x_241_24 : Tr sc d 241 (24, [l0, l1, l2, l3, l4, l5, l6], [.int i0], h) Q = Q (some (.int i0), h) := t_ret k_241_24 (by rw [r_241]; rfl)
theorem k_241_25 : lk 241 25 = some (.aload_n 0, 26, 0, 0, .null) := by decide +kernel
theorem x_241_25 : Tr sc d 241 (25, [some (.ref xk), l1, l2, l3, l4, l5, l6], [], h) Q = Tr sc d 241 (26, [some (.ref xk), l1, l2, l3, l4, l5, l6], [.ref xk], h) Q := t_aload_n k_241_25 rfl
theorem k_241_26 : lk 241 26 = some (.getfield 41, 29, 10, 18, .null) := by decide +kernel
theorem x_241_26 : Tr sc d 241 (26, [l0, l1, l2, l3, l4, l5, l6], [.ref k0], h) Q = (okp h k0 10 = true ∧ ∃ q, hR h k0 18 = some q ∧ Tr sc d 241 (29, [l0, l1, l2, l3, l4, l5, l6], [.ref q], h) Q) := t_getr k_241_26
theorem k_241_29 : lk 241 29 = some (.iload_n 1, 30, 1, 0, .null) := by decide +kernel
theorem x_241_29 : Tr sc d 241 (29, [l0, some (.int x), l2, l3, l4, l5, l6], [.ref k0], h) Q = Tr sc d 241 (30, [l0, some (.int x), l2, l3, l4, l5, l6], [.int x, .ref k0], h) Q := t_iload_n k_241_29 rfl
theorem k_241_30 : lk 241 30 = some (.iaload, 31, 0, 0, .null) := by decide +kernel
theorem x_241_30 : Tr sc d 241 (30, [l0, l1, l2, l3, l4, l5, l6], [.int i1, .ref k0], h) Q = (iOk sc h k0 i1 ∧ Tr sc d 241 (31, [l0, l1, l2, l3, l4, l5, l6], [.int (iRd sc h k0 i1)], h) Q) := t_iald k_241_30
theorem k_241_31 : lk 241 31 = some (.ifCond .eq 12, 34, 43, 0, .null) := by decide +kernel
theorem x_241_31 : Tr sc d 241 (31, [l0, l1, l2, l3, l4, l5, l6], [.int i0], h) Q = if i0 = 0 then Tr sc d 241 (43, [l0, l1, l2, l3, l4, l5, l6], [], h) Q else Tr sc d 241 (34, [l0, l1, l2, l3, l4, l5, l6], [], h) Q := t_if k_241_31 rfl
theorem k_241_34 : lk 241 34 = some (.aload_n 0, 35, 0, 0, .null) := by decide +kernel
theorem x_241_34 : Tr sc d 241 (34, [some (.ref xk), l1, l2, l3, l4, l5, l6], [], h) Q = Tr sc d 241 (35, [some (.ref xk), l1, l2, l3, l4, l5, l6], [.ref xk], h) Q := t_aload_n k_241_34 rfl
theorem k_241_35 : lk 241 35 = some (.getfield 41, 38, 10, 18, .null) := by decide +kernel
theorem x_241_35 : Tr sc d 241 (35, [l0, l1, l2, l3, l4, l5, l6], [.ref k0], h) Q = (okp h k0 10 = true ∧ ∃ q, hR h k0 18 = some q ∧ Tr sc d 241 (38, [l0, l1, l2, l3, l4, l5, l6], [.ref q], h) Q) := t_getr k_241_35
theorem k_241_38 : lk 241 38 = some (.iload_n 2, 39, 2, 0, .null) := by decide +kernel
theorem x_241_38 : Tr sc d 241 (38, [l0, l1, some (.int x), l3, l4, l5, l6], [.ref k0], h) Q = Tr sc d 241 (39, [l0, l1, some (.int x), l3, l4, l5, l6], [.int x, .ref k0], h) Q := t_iload_n k_241_38 rfl
theorem k_241_39 : lk 241 39 = some (.iaload, 40, 0, 0, .null) := by decide +kernel
theorem x_241_39 : Tr sc d 241 (39, [l0, l1, l2, l3, l4, l5, l6], [.int i1, .ref k0], h) Q = (iOk sc h k0 i1 ∧ Tr sc d 241 (40, [l0, l1, l2, l3, l4, l5, l6], [.int (iRd sc h k0 i1)], h) Q) := t_iald k_241_39
theorem k_241_40 : lk 241 40 = some (.ifCond .ne 9, 43, 49, 0, .null) := by decide +kernel
theorem x_241_40 : Tr sc d 241 (40, [l0, l1, l2, l3, l4, l5, l6], [.int i0], h) Q = if i0 = 0 then Tr sc d 241 (43, [l0, l1, l2, l3, l4, l5, l6], [], h) Q else Tr sc d 241 (49, [l0, l1, l2, l3, l4, l5, l6], [], h) Q := t_if k_241_40 rfl
theorem k_241_43 : lk 241 43 = some (.aload_n 0, 44, 0, 0, .null) := by decide +kernel
theorem x_241_43 : Tr sc d 241 (43, [some (.ref xk), l1, l2, l3, l4, l5, l6], [], h) Q = Tr sc d 241 (44, [some (.ref xk), l1, l2, l3, l4, l5, l6], [.ref xk], h) Q := t_aload_n k_241_43 rfl
theorem k_241_44 : lk 241 44 = some (.iconst 1, 45, 0, 0, .int 1) := by decide +kernel
theorem x_241_44 : Tr sc d 241 (44, [l0, l1, l2, l3, l4, l5, l6], [.ref k0], h) Q = Tr sc d 241 (45, [l0, l1, l2, l3, l4, l5, l6], [.int 1, .ref k0], h) Q := t_go k_241_44 rfl
theorem k_241_45 : lk 241 45 = some (.invokevirtual 152, 48, 158, 1, .null) := by decide +kernel
theorem x_241_45 : Tr sc (d + 1) 241 (45, [l0, l1, l2, l3, l4, l5, l6], [.int i1, .ref k0], h) Q = (okp h k0 10 = true ∧ Tr sc d 158 (ent0 158 [.ref k0, .int i1] h) (fun z => Tr sc (d + 1) 241 (48, [l0, l1, l2, l3, l4, l5, l6], z.1.toList ++ [], z.2) Q)) := t_cv (as := [.int i1]) (r := []) k_241_45 rfl rfl (Nat.le_of_ble_eq_true rfl) (Nat.le_of_ble_eq_true rfl) (Nat.le_of_ble_eq_true rfl)
theorem k_241_48 : lk 241 48 = some (.ireturn, 49, 0, 0, .null) := by decide +kernel
theorem x_241_48 : Tr sc d 241 (48, [l0, l1, l2, l3, l4, l5, l6], [.int i0], h) Q = Q (some (.int i0), h) := t_ret k_241_48 (by rw [r_241]; rfl)
theorem k_241_49 : lk 241 49 = some (.aload_n 0, 50, 0, 0, .null) := by decide +kernel
theorem x_241_49 : Tr sc d 241 (49, [some (.ref xk), l1, l2, l3, l4, l5, l6], [], h) Q = Tr sc d 241 (50, [some (.ref xk), l1, l2, l3, l4, l5, l6], [.ref xk], h) Q := t_aload_n k_241_49 rfl
theorem k_241_50 : lk 241 50 = some (.iload_n 1, 51, 1, 0, .null) := by decide +kernel
theorem x_241_50 : Tr sc d 241 (50, [l0, some (.int x), l2, l3, l4, l5, l6], [.ref k0], h) Q = Tr sc d 241 (51, [l0, some (.int x), l2, l3, l4, l5, l6], [.int x, .ref k0], h) Q := t_iload_n k_241_50 rfl
theorem k_241_51 : lk 241 51 = some (.iload_n 3, 52, 3, 0, .null) := by decide +kernel
theorem x_241_51 : Tr sc d 241 (51, [l0, l1, l2, some (.int x), l4, l5, l6], [.int i1, .ref k0], h) Q = Tr sc d 241 (52, [l0, l1, l2, some (.int x), l4, l5, l6], [.int x, .int i1, .ref k0], h) Q := t_iload_n k_241_51 rfl
theorem k_241_52 : lk 241 52 = some (.invokevirtual 307, 55, 204, 2, .null) := by decide +kernel
theorem x_241_52 : Tr sc (d + 1) 241 (52, [l0, l1, l2, l3, l4, l5, l6], [.int i2, .int i1, .ref k0], h) Q = (okp h k0 10 = true ∧ Tr sc d 204 (ent0 204 [.ref k0, .int i1, .int i2] h) (fun z => Tr sc (d + 1) 241 (55, [l0, l1, l2, l3, l4, l5, l6], z.1.toList ++ [], z.2) Q)) := t_cv (as := [.int i1, .int i2]) (r := []) k_241_52 rfl rfl (Nat.le_of_ble_eq_true rfl) (Nat.le_of_ble_eq_true rfl) (Nat.le_of_ble_eq_true rfl)
theorem k_241_55 : lk 241 55 = some (.aload_n 0, 56, 0, 0, .null) := by decide +kernel
theorem x_241_55 : Tr sc d 241 (55, [some (.ref xk), l1, l2, l3, l4, l5, l6], [], h) Q = Tr sc d 241 (56, [some (.ref xk), l1, l2, l3, l4, l5, l6], [.ref xk], h) Q := t_aload_n k_241_55 rfl
theorem k_241_56 : lk 241 56 = some (.getfield 283, 59, 10, 36, .int 0) := by decide +kernel
theorem x_241_56 : Tr sc d 241 (56, [l0, l1, l2, l3, l4, l5, l6], [.ref k0], h) Q = (okp h k0 10 = true ∧ Tr sc d 241 (59, [l0, l1, l2, l3, l4, l5, l6], [.int (hI h k0 36)], h) Q) := t_gd k_241_56 rfl
theorem k_241_59 : lk 241 59 = some (.istore 4, 61, 4, 0, .null) := by decide +kernel
theorem x_241_59 : Tr sc d 241 (59, [l0, l1, l2, l3, l4, l5, l6], [.int i0], h) Q = Tr sc d 241 (61, [l0, l1, l2, cl2 l3, some (.int i0), l5, l6], [], h) Q := t_istore k_241_59 (Nat.le_of_ble_eq_true rfl)
theorem k_241_61 : lk 241 61 = some (.iconst 0, 62, 0, 0, .int 0) := by decide +kernel
theorem x_241_61 : Tr sc d 241 (61, [l0, l1, l2, l3, l4, l5, l6], [], h) Q = Tr sc d 241 (62, [l0, l1, l2, l3, l4, l5, l6], [.int 0], h) Q := t_go k_241_61 rfl
theorem k_241_62 : lk 241 62 = some (.istore 5, 64, 5, 0, .null) := by decide +kernel
theorem x_241_62 : Tr sc d 241 (62, [l0, l1, l2, l3, l4, l5, l6], [.int i0], h) Q = Tr sc d 241 (64, [l0, l1, l2, l3, cl2 l4, some (.int i0), l6], [], h) Q := t_istore k_241_62 (Nat.le_of_ble_eq_true rfl)
theorem k_241_64 : lk 241 64 = some (.iload 5, 66, 5, 0, .null) := by decide +kernel
theorem x_241_64 : Tr sc d 241 (64, [l0, l1, l2, l3, l4, some (.int x), l6], [], h) Q = Tr sc d 241 (66, [l0, l1, l2, l3, l4, some (.int x), l6], [.int x], h) Q := t_iload k_241_64 rfl
theorem k_241_66 : lk 241 66 = some (.iload 4, 68, 4, 0, .null) := by decide +kernel
theorem x_241_66 : Tr sc d 241 (66, [l0, l1, l2, l3, some (.int x), l5, l6], [.int i0], h) Q = Tr sc d 241 (68, [l0, l1, l2, l3, some (.int x), l5, l6], [.int x, .int i0], h) Q := t_iload k_241_66 rfl
theorem k_241_68 : lk 241 68 = some (.if_icmp .ge 37, 71, 105, 0, .null) := by decide +kernel
theorem x_241_68 : Tr sc d 241 (68, [l0, l1, l2, l3, l4, l5, l6], [.int i1, .int i0], h) Q = if i1 ≤ i0 then Tr sc d 241 (105, [l0, l1, l2, l3, l4, l5, l6], [], h) Q else Tr sc d 241 (71, [l0, l1, l2, l3, l4, l5, l6], [], h) Q := t_if k_241_68 rfl
theorem k_241_71 : lk 241 71 = some (.aload_n 0, 72, 0, 0, .null) := by decide +kernel
theorem x_241_71 : Tr sc d 241 (71, [some (.ref xk), l1, l2, l3, l4, l5, l6], [], h) Q = Tr sc d 241 (72, [some (.ref xk), l1, l2, l3, l4, l5, l6], [.ref xk], h) Q := t_aload_n k_241_71 rfl
theorem k_241_72 : lk 241 72 = some (.getfield 128, 75, 10, 60, .null) := by decide +kernel
theorem x_241_72 : Tr sc d 241 (72, [l0, l1, l2, l3, l4, l5, l6], [.ref k0], h) Q = (okp h k0 10 = true ∧ ∃ q, hR h k0 60 = some q ∧ Tr sc d 241 (75, [l0, l1, l2, l3, l4, l5, l6], [.ref q], h) Q) := t_getr k_241_72
theorem k_241_75 : lk 241 75 = some (.iload 5, 77, 5, 0, .null) := by decide +kernel
theorem x_241_75 : Tr sc d 241 (75, [l0, l1, l2, l3, l4, some (.int x), l6], [.ref k0], h) Q = Tr sc d 241 (77, [l0, l1, l2, l3, l4, some (.int x), l6], [.int x, .ref k0], h) Q := t_iload k_241_75 rfl
theorem k_241_77 : lk 241 77 = some (.aload_n 0, 78, 0, 0, .null) := by decide +kernel
theorem x_241_77 : Tr sc d 241 (77, [some (.ref xk), l1, l2, l3, l4, l5, l6], [.int i1, .ref k0], h) Q = Tr sc d 241 (78, [some (.ref xk), l1, l2, l3, l4, l5, l6], [.ref xk, .int i1, .ref k0], h) Q := t_aload_n k_241_77 rfl
theorem k_241_78 : lk 241 78 = some (.getfield 78, 81, 10, 39, .null) := by decide +kernel
theorem x_241_78 : Tr sc d 241 (78, [l0, l1, l2, l3, l4, l5, l6], [.ref k2, .int i1, .ref k0], h) Q = (okp h k2 10 = true ∧ ∃ q, hR h k2 39 = some q ∧ Tr sc d 241 (81, [l0, l1, l2, l3, l4, l5, l6], [.ref q, .int i1, .ref k0], h) Q) := t_getr k_241_78
theorem k_241_81 : lk 241 81 = some (.iload 5, 83, 5, 0, .null) := by decide +kernel
theorem x_241_81 : Tr sc d 241 (81, [l0, l1, l2, l3, l4, some (.int x), l6], [.ref k2, .int i1, .ref k0], h) Q = Tr sc d 241 (83, [l0, l1, l2, l3, l4, some (.int x), l6], [.int x, .ref k2, .int i1, .ref k0], h) Q := t_iload k_241_81 rfl
theorem k_241_83 : lk 241 83 = some (.iaload, 84, 0, 0, .null) := by decide +kernel
theorem x_241_83 : Tr sc d 241 (83, [l0, l1, l2, l3, l4, l5, l6], [.int i3, .ref k2, .int i1, .ref k0], h) Q = (iOk sc h k2 i3 ∧ Tr sc d 241 (84, [l0, l1, l2, l3, l4, l5, l6], [.int (iRd sc h k2 i3), .int i1, .ref k0], h) Q) := t_iald k_241_83
theorem k_241_84 : lk 241 84 = some (.iastore, 85, 0, 0, .null) := by decide +kernel
theorem x_241_84 : Tr sc d 241 (84, [l0, l1, l2, l3, l4, l5, l6], [.int i2, .int i1, .ref k0], h) Q = ((okp h k0 11 && inb i1 (LN k0)) = true ∧ Tr sc d 241 (85, [l0, l1, l2, l3, l4, l5, l6], [], (sI h k0 i1.toNatClampNeg i2)) Q) := t_gd k_241_84 rfl
theorem k_241_85 : lk 241 85 = some (.aload_n 0, 86, 0, 0, .null) := by decide +kernel
theorem x_241_85 : Tr sc d 241 (85, [some (.ref xk), l1, l2, l3, l4, l5, l6], [], h) Q = Tr sc d 241 (86, [some (.ref xk), l1, l2, l3, l4, l5, l6], [.ref xk], h) Q := t_aload_n k_241_85 rfl
theorem k_241_86 : lk 241 86 = some (.getfield 131, 89, 10, 61, .null) := by decide +kernel
theorem x_241_86 : Tr sc d 241 (86, [l0, l1, l2, l3, l4, l5, l6], [.ref k0], h) Q = (okp h k0 10 = true ∧ ∃ q, hR h k0 61 = some q ∧ Tr sc d 241 (89, [l0, l1, l2, l3, l4, l5, l6], [.ref q], h) Q) := t_getr k_241_86
theorem k_241_89 : lk 241 89 = some (.iload 5, 91, 5, 0, .null) := by decide +kernel
theorem x_241_89 : Tr sc d 241 (89, [l0, l1, l2, l3, l4, some (.int x), l6], [.ref k0], h) Q = Tr sc d 241 (91, [l0, l1, l2, l3, l4, some (.int x), l6], [.int x, .ref k0], h) Q := t_iload k_241_89 rfl
theorem k_241_91 : lk 241 91 = some (.aload_n 0, 92, 0, 0, .null) := by decide +kernel
theorem x_241_91 : Tr sc d 241 (91, [some (.ref xk), l1, l2, l3, l4, l5, l6], [.int i1, .ref k0], h) Q = Tr sc d 241 (92, [some (.ref xk), l1, l2, l3, l4, l5, l6], [.ref xk, .int i1, .ref k0], h) Q := t_aload_n k_241_91 rfl
theorem k_241_92 : lk 241 92 = some (.getfield 81, 95, 10, 40, .null) := by decide +kernel
theorem x_241_92 : Tr sc d 241 (92, [l0, l1, l2, l3, l4, l5, l6], [.ref k2, .int i1, .ref k0], h) Q = (okp h k2 10 = true ∧ ∃ q, hR h k2 40 = some q ∧ Tr sc d 241 (95, [l0, l1, l2, l3, l4, l5, l6], [.ref q, .int i1, .ref k0], h) Q) := t_getr k_241_92
theorem k_241_95 : lk 241 95 = some (.iload 5, 97, 5, 0, .null) := by decide +kernel
theorem x_241_95 : Tr sc d 241 (95, [l0, l1, l2, l3, l4, some (.int x), l6], [.ref k2, .int i1, .ref k0], h) Q = Tr sc d 241 (97, [l0, l1, l2, l3, l4, some (.int x), l6], [.int x, .ref k2, .int i1, .ref k0], h) Q := t_iload k_241_95 rfl
theorem k_241_97 : lk 241 97 = some (.iaload, 98, 0, 0, .null) := by decide +kernel
theorem x_241_97 : Tr sc d 241 (97, [l0, l1, l2, l3, l4, l5, l6], [.int i3, .ref k2, .int i1, .ref k0], h) Q = (iOk sc h k2 i3 ∧ Tr sc d 241 (98, [l0, l1, l2, l3, l4, l5, l6], [.int (iRd sc h k2 i3), .int i1, .ref k0], h) Q) := t_iald k_241_97
theorem k_241_98 : lk 241 98 = some (.iastore, 99, 0, 0, .null) := by decide +kernel
theorem x_241_98 : Tr sc d 241 (98, [l0, l1, l2, l3, l4, l5, l6], [.int i2, .int i1, .ref k0], h) Q = ((okp h k0 11 && inb i1 (LN k0)) = true ∧ Tr sc d 241 (99, [l0, l1, l2, l3, l4, l5, l6], [], (sI h k0 i1.toNatClampNeg i2)) Q) := t_gd k_241_98 rfl
theorem k_241_99 : lk 241 99 = some (.iinc 5 1, 102, 5, 0, .int 1) := by decide +kernel
theorem x_241_99 : Tr sc d 241 (99, [l0, l1, l2, l3, l4, some (.int x), l6], [], h) Q = Tr sc d 241 (102, [l0, l1, l2, l3, cl2 l4, some (.int (x + 1)), l6], [], h) Q := t_inc k_241_99 rfl (Nat.le_of_ble_eq_true rfl)
theorem k_241_102 : lk 241 102 = some (.goto (-38), 105, 64, 0, .null) := by decide +kernel
theorem x_241_102 : Tr sc d 241 (102, [l0, l1, l2, l3, l4, l5, l6], [], h) Q = Tr sc d 241 (64, [l0, l1, l2, l3, l4, l5, l6], [], h) Q := t_go k_241_102 rfl
theorem k_241_105 : lk 241 105 = some (.aload_n 0, 106, 0, 0, .null) := by decide +kernel
theorem x_241_105 : Tr sc d 241 (105, [some (.ref xk), l1, l2, l3, l4, l5, l6], [], h) Q = Tr sc d 241 (106, [some (.ref xk), l1, l2, l3, l4, l5, l6], [.ref xk], h) Q := t_aload_n k_241_105 rfl
theorem k_241_106 : lk 241 106 = some (.iload_n 2, 107, 2, 0, .null) := by decide +kernel
theorem x_241_106 : Tr sc d 241 (106, [l0, l1, some (.int x), l3, l4, l5, l6], [.ref k0], h) Q = Tr sc d 241 (107, [l0, l1, some (.int x), l3, l4, l5, l6], [.int x, .ref k0], h) Q := t_iload_n k_241_106 rfl
theorem k_241_107 : lk 241 107 = some (.iload_n 3, 108, 3, 0, .null) := by decide +kernel
theorem x_241_107 : Tr sc d 241 (107, [l0, l1, l2, some (.int x), l4, l5, l6], [.int i1, .ref k0], h) Q = Tr sc d 241 (108, [l0, l1, l2, some (.int x), l4, l5, l6], [.int x, .int i1, .ref k0], h) Q := t_iload_n k_241_107 rfl
theorem k_241_108 : lk 241 108 = some (.invokevirtual 307, 111, 204, 2, .null) := by decide +kernel
theorem x_241_108 : Tr sc (d + 1) 241 (108, [l0, l1, l2, l3, l4, l5, l6], [.int i2, .int i1, .ref k0], h) Q = (okp h k0 10 = true ∧ Tr sc d 204 (ent0 204 [.ref k0, .int i1, .int i2] h) (fun z => Tr sc (d + 1) 241 (111, [l0, l1, l2, l3, l4, l5, l6], z.1.toList ++ [], z.2) Q)) := t_cv (as := [.int i1, .int i2]) (r := []) k_241_108 rfl rfl (Nat.le_of_ble_eq_true rfl) (Nat.le_of_ble_eq_true rfl) (Nat.le_of_ble_eq_true rfl)
theorem k_241_111 : lk 241 111 = some (.iload 4, 113, 4, 0, .null) := by decide +kernel
theorem x_241_111 : Tr sc d 241 (111, [l0, l1, l2, l3, some (.int x), l5, l6], [], h) Q = Tr sc d 241 (113, [l0, l1, l2, l3, some (.int x), l5, l6], [.int x], h) Q := t_iload k_241_111 rfl
theorem k_241_113 : lk 241 113 = some (.aload_n 0, 114, 0, 0, .null) := by decide +kernel
theorem x_241_113 : Tr sc d 241 (113, [some (.ref xk), l1, l2, l3, l4, l5, l6], [.int i0], h) Q = Tr sc d 241 (114, [some (.ref xk), l1, l2, l3, l4, l5, l6], [.ref xk, .int i0], h) Q := t_aload_n k_241_113 rfl
theorem k_241_114 : lk 241 114 = some (.getfield 283, 117, 10, 36, .int 0) := by decide +kernel
theorem x_241_114 : Tr sc d 241 (114, [l0, l1, l2, l3, l4, l5, l6], [.ref k1, .int i0], h) Q = (okp h k1 10 = true ∧ Tr sc d 241 (117, [l0, l1, l2, l3, l4, l5, l6], [.int (hI h k1 36), .int i0], h) Q) := t_gd k_241_114 rfl
theorem k_241_117 : lk 241 117 = some (.if_icmp .ne 7, 120, 124, 0, .null) := by decide +kernel
theorem x_241_117 : Tr sc d 241 (117, [l0, l1, l2, l3, l4, l5, l6], [.int i1, .int i0], h) Q = if i0 = i1 then Tr sc d 241 (120, [l0, l1, l2, l3, l4, l5, l6], [], h) Q else Tr sc d 241 (124, [l0, l1, l2, l3, l4, l5, l6], [], h) Q := t_if k_241_117 rfl
theorem k_241_120 : lk 241 120 = some (.iconst 1, 121, 0, 0, .int 1) := by decide +kernel
theorem x_241_120 : Tr sc d 241 (120, [l0, l1, l2, l3, l4, l5, l6], [], h) Q = Tr sc d 241 (121, [l0, l1, l2, l3, l4, l5, l6], [.int 1], h) Q := t_go k_241_120 rfl
theorem k_241_121 : lk 241 121 = some (.goto 4, 124, 125, 0, .null) := by decide +kernel
theorem x_241_121 : Tr sc d 241 (121, [l0, l1, l2, l3, l4, l5, l6], [.int i0], h) Q = Tr sc d 241 (125, [l0, l1, l2, l3, l4, l5, l6], [.int i0], h) Q := t_go k_241_121 rfl
theorem k_241_124 : lk 241 124 = some (.iconst 0, 125, 0, 0, .int 0) := by decide +kernel
theorem x_241_124 : Tr sc d 241 (124, [l0, l1, l2, l3, l4, l5, l6], [], h) Q = Tr sc d 241 (125, [l0, l1, l2, l3, l4, l5, l6], [.int 0], h) Q := t_go k_241_124 rfl
theorem k_241_125 : lk 241 125 = some (.istore 5, 127, 5, 0, .null) := by decide +kernel
theorem x_241_125 : Tr sc d 241 (125, [l0, l1, l2, l3, l4, l5, l6], [.int i0], h) Q = Tr sc d 241 (127, [l0, l1, l2, l3, cl2 l4, some (.int i0), l6], [], h) Q := t_istore k_241_125 (Nat.le_of_ble_eq_true rfl)
theorem k_241_127 : lk 241 127 = some (.iconst 0, 128, 0, 0, .int 0) := by decide +kernel
theorem x_241_127 : Tr sc d 241 (127, [l0, l1, l2, l3, l4, l5, l6], [], h) Q = Tr sc d 241 (128, [l0, l1, l2, l3, l4, l5, l6], [.int 0], h) Q := t_go k_241_127 rfl
theorem k_241_128 : lk 241 128 = some (.istore 6, 130, 6, 0, .null) := by decide +kernel
theorem x_241_128 : Tr sc d 241 (128, [l0, l1, l2, l3, l4, l5, l6], [.int i0], h) Q = Tr sc d 241 (130, [l0, l1, l2, l3, l4, cl2 l5, some (.int i0)], [], h) Q := t_istore k_241_128 (Nat.le_of_ble_eq_true rfl)
theorem k_241_130 : lk 241 130 = some (.iload 6, 132, 6, 0, .null) := by decide +kernel
theorem x_241_130 : Tr sc d 241 (130, [l0, l1, l2, l3, l4, l5, some (.int x)], [], h) Q = Tr sc d 241 (132, [l0, l1, l2, l3, l4, l5, some (.int x)], [.int x], h) Q := t_iload k_241_130 rfl
theorem k_241_132 : lk 241 132 = some (.iload 4, 134, 4, 0, .null) := by decide +kernel
theorem x_241_132 : Tr sc d 241 (132, [l0, l1, l2, l3, some (.int x), l5, l6], [.int i0], h) Q = Tr sc d 241 (134, [l0, l1, l2, l3, some (.int x), l5, l6], [.int x, .int i0], h) Q := t_iload k_241_132 rfl
theorem k_241_134 : lk 241 134 = some (.if_icmp .ge 83, 137, 217, 0, .null) := by decide +kernel
theorem x_241_134 : Tr sc d 241 (134, [l0, l1, l2, l3, l4, l5, l6], [.int i1, .int i0], h) Q = if i1 ≤ i0 then Tr sc d 241 (217, [l0, l1, l2, l3, l4, l5, l6], [], h) Q else Tr sc d 241 (137, [l0, l1, l2, l3, l4, l5, l6], [], h) Q := t_if k_241_134 rfl
theorem k_241_137 : lk 241 137 = some (.iload 5, 139, 5, 0, .null) := by decide +kernel
theorem x_241_137 : Tr sc d 241 (137, [l0, l1, l2, l3, l4, some (.int x), l6], [], h) Q = Tr sc d 241 (139, [l0, l1, l2, l3, l4, some (.int x), l6], [.int x], h) Q := t_iload k_241_137 rfl
theorem k_241_139 : lk 241 139 = some (.ifCond .eq 78, 142, 217, 0, .null) := by decide +kernel
theorem x_241_139 : Tr sc d 241 (139, [l0, l1, l2, l3, l4, l5, l6], [.int i0], h) Q = if i0 = 0 then Tr sc d 241 (217, [l0, l1, l2, l3, l4, l5, l6], [], h) Q else Tr sc d 241 (142, [l0, l1, l2, l3, l4, l5, l6], [], h) Q := t_if k_241_139 rfl
theorem k_241_142 : lk 241 142 = some (.aload_n 0, 143, 0, 0, .null) := by decide +kernel
theorem x_241_142 : Tr sc d 241 (142, [some (.ref xk), l1, l2, l3, l4, l5, l6], [], h) Q = Tr sc d 241 (143, [some (.ref xk), l1, l2, l3, l4, l5, l6], [.ref xk], h) Q := t_aload_n k_241_142 rfl
theorem k_241_143 : lk 241 143 = some (.getfield 78, 146, 10, 39, .null) := by decide +kernel
theorem x_241_143 : Tr sc d 241 (143, [l0, l1, l2, l3, l4, l5, l6], [.ref k0], h) Q = (okp h k0 10 = true ∧ ∃ q, hR h k0 39 = some q ∧ Tr sc d 241 (146, [l0, l1, l2, l3, l4, l5, l6], [.ref q], h) Q) := t_getr k_241_143
theorem k_241_146 : lk 241 146 = some (.iload 6, 148, 6, 0, .null) := by decide +kernel
theorem x_241_146 : Tr sc d 241 (146, [l0, l1, l2, l3, l4, l5, some (.int x)], [.ref k0], h) Q = Tr sc d 241 (148, [l0, l1, l2, l3, l4, l5, some (.int x)], [.int x, .ref k0], h) Q := t_iload k_241_146 rfl
theorem k_241_148 : lk 241 148 = some (.iaload, 149, 0, 0, .null) := by decide +kernel
theorem x_241_148 : Tr sc d 241 (148, [l0, l1, l2, l3, l4, l5, l6], [.int i1, .ref k0], h) Q = (iOk sc h k0 i1 ∧ Tr sc d 241 (149, [l0, l1, l2, l3, l4, l5, l6], [.int (iRd sc h k0 i1)], h) Q) := t_iald k_241_148
theorem k_241_149 : lk 241 149 = some (.aload_n 0, 150, 0, 0, .null) := by decide +kernel
theorem x_241_149 : Tr sc d 241 (149, [some (.ref xk), l1, l2, l3, l4, l5, l6], [.int i0], h) Q = Tr sc d 241 (150, [some (.ref xk), l1, l2, l3, l4, l5, l6], [.ref xk, .int i0], h) Q := t_aload_n k_241_149 rfl
theorem k_241_150 : lk 241 150 = some (.getfield 128, 153, 10, 60, .null) := by decide +kernel
theorem x_241_150 : Tr sc d 241 (150, [l0, l1, l2, l3, l4, l5, l6], [.ref k1, .int i0], h) Q = (okp h k1 10 = true ∧ ∃ q, hR h k1 60 = some q ∧ Tr sc d 241 (153, [l0, l1, l2, l3, l4, l5, l6], [.ref q, .int i0], h) Q) := t_getr k_241_150
theorem k_241_153 : lk 241 153 = some (.iload 6, 155, 6, 0, .null) := by decide +kernel
theorem x_241_153 : Tr sc d 241 (153, [l0, l1, l2, l3, l4, l5, some (.int x)], [.ref k1, .int i0], h) Q = Tr sc d 241 (155, [l0, l1, l2, l3, l4, l5, some (.int x)], [.int x, .ref k1, .int i0], h) Q := t_iload k_241_153 rfl
theorem k_241_155 : lk 241 155 = some (.iaload, 156, 0, 0, .null) := by decide +kernel
theorem x_241_155 : Tr sc d 241 (155, [l0, l1, l2, l3, l4, l5, l6], [.int i2, .ref k1, .int i0], h) Q = (iOk sc h k1 i2 ∧ Tr sc d 241 (156, [l0, l1, l2, l3, l4, l5, l6], [.int (iRd sc h k1 i2), .int i0], h) Q) := t_iald k_241_155
theorem k_241_156 : lk 241 156 = some (.isub, 157, 0, 0, .null) := by decide +kernel
theorem x_241_156 : Tr sc d 241 (156, [l0, l1, l2, l3, l4, l5, l6], [.int i1, .int i0], h) Q = Tr sc d 241 (157, [l0, l1, l2, l3, l4, l5, l6], [.int (i0 - i1)], h) Q := t_go k_241_156 rfl
theorem k_241_157 : lk 241 157 = some (.aload_n 0, 158, 0, 0, .null) := by decide +kernel
theorem x_241_157 : Tr sc d 241 (157, [some (.ref xk), l1, l2, l3, l4, l5, l6], [.int i0], h) Q = Tr sc d 241 (158, [some (.ref xk), l1, l2, l3, l4, l5, l6], [.ref xk, .int i0], h) Q := t_aload_n k_241_157 rfl
theorem k_241_158 : lk 241 158 = some (.getfield 78, 161, 10, 39, .null) := by decide +kernel
theorem x_241_158 : Tr sc d 241 (158, [l0, l1, l2, l3, l4, l5, l6], [.ref k1, .int i0], h) Q = (okp h k1 10 = true ∧ ∃ q, hR h k1 39 = some q ∧ Tr sc d 241 (161, [l0, l1, l2, l3, l4, l5, l6], [.ref q, .int i0], h) Q) := t_getr k_241_158
theorem k_241_161 : lk 241 161 = some (.iconst 0, 162, 0, 0, .int 0) := by decide +kernel
theorem x_241_161 : Tr sc d 241 (161, [l0, l1, l2, l3, l4, l5, l6], [.ref k1, .int i0], h) Q = Tr sc d 241 (162, [l0, l1, l2, l3, l4, l5, l6], [.int 0, .ref k1, .int i0], h) Q := t_go k_241_161 rfl
theorem k_241_162 : lk 241 162 = some (.iaload, 163, 0, 0, .null) := by decide +kernel
theorem x_241_162 : Tr sc d 241 (162, [l0, l1, l2, l3, l4, l5, l6], [.int i2, .ref k1, .int i0], h) Q = (iOk sc h k1 i2 ∧ Tr sc d 241 (163, [l0, l1, l2, l3, l4, l5, l6], [.int (iRd sc h k1 i2), .int i0], h) Q) := t_iald k_241_162
theorem k_241_163 : lk 241 163 = some (.aload_n 0, 164, 0, 0, .null) := by decide +kernel
theorem x_241_163 : Tr sc d 241 (163, [some (.ref xk), l1, l2, l3, l4, l5, l6], [.int i1, .int i0], h) Q = Tr sc d 241 (164, [some (.ref xk), l1, l2, l3, l4, l5, l6], [.ref xk, .int i1, .int i0], h) Q := t_aload_n k_241_163 rfl
theorem k_241_164 : lk 241 164 = some (.getfield 128, 167, 10, 60, .null) := by decide +kernel
theorem x_241_164 : Tr sc d 241 (164, [l0, l1, l2, l3, l4, l5, l6], [.ref k2, .int i1, .int i0], h) Q = (okp h k2 10 = true ∧ ∃ q, hR h k2 60 = some q ∧ Tr sc d 241 (167, [l0, l1, l2, l3, l4, l5, l6], [.ref q, .int i1, .int i0], h) Q) := t_getr k_241_164
theorem k_241_167 : lk 241 167 = some (.iconst 0, 168, 0, 0, .int 0) := by decide +kernel
theorem x_241_167 : Tr sc d 241 (167, [l0, l1, l2, l3, l4, l5, l6], [.ref k2, .int i1, .int i0], h) Q = Tr sc d 241 (168, [l0, l1, l2, l3, l4, l5, l6], [.int 0, .ref k2, .int i1, .int i0], h) Q := t_go k_241_167 rfl
theorem k_241_168 : lk 241 168 = some (.iaload, 169, 0, 0, .null) := by decide +kernel
theorem x_241_168 : Tr sc d 241 (168, [l0, l1, l2, l3, l4, l5, l6], [.int i3, .ref k2, .int i1, .int i0], h) Q = (iOk sc h k2 i3 ∧ Tr sc d 241 (169, [l0, l1, l2, l3, l4, l5, l6], [.int (iRd sc h k2 i3), .int i1, .int i0], h) Q) := t_iald k_241_168
theorem k_241_169 : lk 241 169 = some (.isub, 170, 0, 0, .null) := by decide +kernel
theorem x_241_169 : Tr sc d 241 (169, [l0, l1, l2, l3, l4, l5, l6], [.int i2, .int i1, .int i0], h) Q = Tr sc d 241 (170, [l0, l1, l2, l3, l4, l5, l6], [.int (i1 - i2), .int i0], h) Q := t_go k_241_169 rfl
theorem k_241_170 : lk 241 170 = some (.if_icmp .ne 38, 173, 208, 0, .null) := by decide +kernel
theorem x_241_170 : Tr sc d 241 (170, [l0, l1, l2, l3, l4, l5, l6], [.int i1, .int i0], h) Q = if i0 = i1 then Tr sc d 241 (173, [l0, l1, l2, l3, l4, l5, l6], [], h) Q else Tr sc d 241 (208, [l0, l1, l2, l3, l4, l5, l6], [], h) Q := t_if k_241_170 rfl
theorem k_241_173 : lk 241 173 = some (.aload_n 0, 174, 0, 0, .null) := by decide +kernel
theorem x_241_173 : Tr sc d 241 (173, [some (.ref xk), l1, l2, l3, l4, l5, l6], [], h) Q = Tr sc d 241 (174, [some (.ref xk), l1, l2, l3, l4, l5, l6], [.ref xk], h) Q := t_aload_n k_241_173 rfl
theorem k_241_174 : lk 241 174 = some (.getfield 81, 177, 10, 40, .null) := by decide +kernel
theorem x_241_174 : Tr sc d 241 (174, [l0, l1, l2, l3, l4, l5, l6], [.ref k0], h) Q = (okp h k0 10 = true ∧ ∃ q, hR h k0 40 = some q ∧ Tr sc d 241 (177, [l0, l1, l2, l3, l4, l5, l6], [.ref q], h) Q) := t_getr k_241_174
theorem k_241_177 : lk 241 177 = some (.iload 6, 179, 6, 0, .null) := by decide +kernel
theorem x_241_177 : Tr sc d 241 (177, [l0, l1, l2, l3, l4, l5, some (.int x)], [.ref k0], h) Q = Tr sc d 241 (179, [l0, l1, l2, l3, l4, l5, some (.int x)], [.int x, .ref k0], h) Q := t_iload k_241_177 rfl
theorem k_241_179 : lk 241 179 = some (.iaload, 180, 0, 0, .null) := by decide +kernel
theorem x_241_179 : Tr sc d 241 (179, [l0, l1, l2, l3, l4, l5, l6], [.int i1, .ref k0], h) Q = (iOk sc h k0 i1 ∧ Tr sc d 241 (180, [l0, l1, l2, l3, l4, l5, l6], [.int (iRd sc h k0 i1)], h) Q) := t_iald k_241_179
theorem k_241_180 : lk 241 180 = some (.aload_n 0, 181, 0, 0, .null) := by decide +kernel
theorem x_241_180 : Tr sc d 241 (180, [some (.ref xk), l1, l2, l3, l4, l5, l6], [.int i0], h) Q = Tr sc d 241 (181, [some (.ref xk), l1, l2, l3, l4, l5, l6], [.ref xk, .int i0], h) Q := t_aload_n k_241_180 rfl
theorem k_241_181 : lk 241 181 = some (.getfield 131, 184, 10, 61, .null) := by decide +kernel
theorem x_241_181 : Tr sc d 241 (181, [l0, l1, l2, l3, l4, l5, l6], [.ref k1, .int i0], h) Q = (okp h k1 10 = true ∧ ∃ q, hR h k1 61 = some q ∧ Tr sc d 241 (184, [l0, l1, l2, l3, l4, l5, l6], [.ref q, .int i0], h) Q) := t_getr k_241_181
theorem k_241_184 : lk 241 184 = some (.iload 6, 186, 6, 0, .null) := by decide +kernel
theorem x_241_184 : Tr sc d 241 (184, [l0, l1, l2, l3, l4, l5, some (.int x)], [.ref k1, .int i0], h) Q = Tr sc d 241 (186, [l0, l1, l2, l3, l4, l5, some (.int x)], [.int x, .ref k1, .int i0], h) Q := t_iload k_241_184 rfl
theorem k_241_186 : lk 241 186 = some (.iaload, 187, 0, 0, .null) := by decide +kernel
theorem x_241_186 : Tr sc d 241 (186, [l0, l1, l2, l3, l4, l5, l6], [.int i2, .ref k1, .int i0], h) Q = (iOk sc h k1 i2 ∧ Tr sc d 241 (187, [l0, l1, l2, l3, l4, l5, l6], [.int (iRd sc h k1 i2), .int i0], h) Q) := t_iald k_241_186
theorem k_241_187 : lk 241 187 = some (.isub, 188, 0, 0, .null) := by decide +kernel
theorem x_241_187 : Tr sc d 241 (187, [l0, l1, l2, l3, l4, l5, l6], [.int i1, .int i0], h) Q = Tr sc d 241 (188, [l0, l1, l2, l3, l4, l5, l6], [.int (i0 - i1)], h) Q := t_go k_241_187 rfl
theorem k_241_188 : lk 241 188 = some (.aload_n 0, 189, 0, 0, .null) := by decide +kernel
theorem x_241_188 : Tr sc d 241 (188, [some (.ref xk), l1, l2, l3, l4, l5, l6], [.int i0], h) Q = Tr sc d 241 (189, [some (.ref xk), l1, l2, l3, l4, l5, l6], [.ref xk, .int i0], h) Q := t_aload_n k_241_188 rfl
theorem k_241_189 : lk 241 189 = some (.getfield 81, 192, 10, 40, .null) := by decide +kernel
theorem x_241_189 : Tr sc d 241 (189, [l0, l1, l2, l3, l4, l5, l6], [.ref k1, .int i0], h) Q = (okp h k1 10 = true ∧ ∃ q, hR h k1 40 = some q ∧ Tr sc d 241 (192, [l0, l1, l2, l3, l4, l5, l6], [.ref q, .int i0], h) Q) := t_getr k_241_189
theorem k_241_192 : lk 241 192 = some (.iconst 0, 193, 0, 0, .int 0) := by decide +kernel
theorem x_241_192 : Tr sc d 241 (192, [l0, l1, l2, l3, l4, l5, l6], [.ref k1, .int i0], h) Q = Tr sc d 241 (193, [l0, l1, l2, l3, l4, l5, l6], [.int 0, .ref k1, .int i0], h) Q := t_go k_241_192 rfl
theorem k_241_193 : lk 241 193 = some (.iaload, 194, 0, 0, .null) := by decide +kernel
theorem x_241_193 : Tr sc d 241 (193, [l0, l1, l2, l3, l4, l5, l6], [.int i2, .ref k1, .int i0], h) Q = (iOk sc h k1 i2 ∧ Tr sc d 241 (194, [l0, l1, l2, l3, l4, l5, l6], [.int (iRd sc h k1 i2), .int i0], h) Q) := t_iald k_241_193
theorem k_241_194 : lk 241 194 = some (.aload_n 0, 195, 0, 0, .null) := by decide +kernel
theorem x_241_194 : Tr sc d 241 (194, [some (.ref xk), l1, l2, l3, l4, l5, l6], [.int i1, .int i0], h) Q = Tr sc d 241 (195, [some (.ref xk), l1, l2, l3, l4, l5, l6], [.ref xk, .int i1, .int i0], h) Q := t_aload_n k_241_194 rfl
theorem k_241_195 : lk 241 195 = some (.getfield 131, 198, 10, 61, .null) := by decide +kernel
theorem x_241_195 : Tr sc d 241 (195, [l0, l1, l2, l3, l4, l5, l6], [.ref k2, .int i1, .int i0], h) Q = (okp h k2 10 = true ∧ ∃ q, hR h k2 61 = some q ∧ Tr sc d 241 (198, [l0, l1, l2, l3, l4, l5, l6], [.ref q, .int i1, .int i0], h) Q) := t_getr k_241_195
theorem k_241_198 : lk 241 198 = some (.iconst 0, 199, 0, 0, .int 0) := by decide +kernel
theorem x_241_198 : Tr sc d 241 (198, [l0, l1, l2, l3, l4, l5, l6], [.ref k2, .int i1, .int i0], h) Q = Tr sc d 241 (199, [l0, l1, l2, l3, l4, l5, l6], [.int 0, .ref k2, .int i1, .int i0], h) Q := t_go k_241_198 rfl
theorem k_241_199 : lk 241 199 = some (.iaload, 200, 0, 0, .null) := by decide +kernel
theorem x_241_199 : Tr sc d 241 (199, [l0, l1, l2, l3, l4, l5, l6], [.int i3, .ref k2, .int i1, .int i0], h) Q = (iOk sc h k2 i3 ∧ Tr sc d 241 (200, [l0, l1, l2, l3, l4, l5, l6], [.int (iRd sc h k2 i3), .int i1, .int i0], h) Q) := t_iald k_241_199
theorem k_241_200 : lk 241 200 = some (.isub, 201, 0, 0, .null) := by decide +kernel
theorem x_241_200 : Tr sc d 241 (200, [l0, l1, l2, l3, l4, l5, l6], [.int i2, .int i1, .int i0], h) Q = Tr sc d 241 (201, [l0, l1, l2, l3, l4, l5, l6], [.int (i1 - i2), .int i0], h) Q := t_go k_241_200 rfl
theorem k_241_201 : lk 241 201 = some (.if_icmp .ne 7, 204, 208, 0, .null) := by decide +kernel
theorem x_241_201 : Tr sc d 241 (201, [l0, l1, l2, l3, l4, l5, l6], [.int i1, .int i0], h) Q = if i0 = i1 then Tr sc d 241 (204, [l0, l1, l2, l3, l4, l5, l6], [], h) Q else Tr sc d 241 (208, [l0, l1, l2, l3, l4, l5, l6], [], h) Q := t_if k_241_201 rfl
theorem k_241_204 : lk 241 204 = some (.iconst 1, 205, 0, 0, .int 1) := by decide +kernel
theorem x_241_204 : Tr sc d 241 (204, [l0, l1, l2, l3, l4, l5, l6], [], h) Q = Tr sc d 241 (205, [l0, l1, l2, l3, l4, l5, l6], [.int 1], h) Q := t_go k_241_204 rfl
theorem k_241_205 : lk 241 205 = some (.goto 4, 208, 209, 0, .null) := by decide +kernel
theorem x_241_205 : Tr sc d 241 (205, [l0, l1, l2, l3, l4, l5, l6], [.int i0], h) Q = Tr sc d 241 (209, [l0, l1, l2, l3, l4, l5, l6], [.int i0], h) Q := t_go k_241_205 rfl
theorem k_241_208 : lk 241 208 = some (.iconst 0, 209, 0, 0, .int 0) := by decide +kernel
theorem x_241_208 : Tr sc d 241 (208, [l0, l1, l2, l3, l4, l5, l6], [], h) Q = Tr sc d 241 (209, [l0, l1, l2, l3, l4, l5, l6], [.int 0], h) Q := t_go k_241_208 rfl
theorem k_241_209 : lk 241 209 = some (.istore 5, 211, 5, 0, .null) := by decide +kernel
theorem x_241_209 : Tr sc d 241 (209, [l0, l1, l2, l3, l4, l5, l6], [.int i0], h) Q = Tr sc d 241 (211, [l0, l1, l2, l3, cl2 l4, some (.int i0), l6], [], h) Q := t_istore k_241_209 (Nat.le_of_ble_eq_true rfl)
theorem k_241_211 : lk 241 211 = some (.iinc 6 1, 214, 6, 0, .int 1) := by decide +kernel
theorem x_241_211 : Tr sc d 241 (211, [l0, l1, l2, l3, l4, l5, some (.int x)], [], h) Q = Tr sc d 241 (214, [l0, l1, l2, l3, l4, cl2 l5, some (.int (x + 1))], [], h) Q := t_inc k_241_211 rfl (Nat.le_of_ble_eq_true rfl)
theorem k_241_214 : lk 241 214 = some (.goto (-84), 217, 130, 0, .null) := by decide +kernel
theorem x_241_214 : Tr sc d 241 (214, [l0, l1, l2, l3, l4, l5, l6], [], h) Q = Tr sc d 241 (130, [l0, l1, l2, l3, l4, l5, l6], [], h) Q := t_go k_241_214 rfl
theorem k_241_217 : lk 241 217 = some (.iload 5, 219, 5, 0, .null) := by decide +kernel
theorem x_241_217 : Tr sc d 241 (217, [l0, l1, l2, l3, l4, some (.int x), l6], [], h) Q = Tr sc d 241 (219, [l0, l1, l2, l3, l4, some (.int x), l6], [.int x], h) Q := t_iload k_241_217 rfl
theorem k_241_219 : lk 241 219 = some (.ifCond .eq 33, 222, 252, 0, .null) := by decide +kernel
theorem x_241_219 : Tr sc d 241 (219, [l0, l1, l2, l3, l4, l5, l6], [.int i0], h) Q = if i0 = 0 then Tr sc d 241 (252, [l0, l1, l2, l3, l4, l5, l6], [], h) Q else Tr sc d 241 (222, [l0, l1, l2, l3, l4, l5, l6], [], h) Q := t_if k_241_219 rfl
theorem k_241_222 : lk 241 222 = some (.aload_n 0, 223, 0, 0, .null) := by decide +kernel
theorem x_241_222 : Tr sc d 241 (222, [some (.ref xk), l1, l2, l3, l4, l5, l6], [], h) Q = Tr sc d 241 (223, [some (.ref xk), l1, l2, l3, l4, l5, l6], [.ref xk], h) Q := t_aload_n k_241_222 rfl
theorem k_241_223 : lk 241 223 = some (.iload 4, 225, 4, 0, .null) := by decide +kernel
theorem x_241_223 : Tr sc d 241 (223, [l0, l1, l2, l3, some (.int x), l5, l6], [.ref k0], h) Q = Tr sc d 241 (225, [l0, l1, l2, l3, some (.int x), l5, l6], [.int x, .ref k0], h) Q := t_iload k_241_223 rfl
theorem k_241_225 : lk 241 225 = some (.ifCond .ne 7, 228, 232, 0, .null) := by decide +kernel
theorem x_241_225 : Tr sc d 241 (225, [l0, l1, l2, l3, l4, l5, l6], [.int i1, .ref k0], h) Q = if i1 = 0 then Tr sc d 241 (228, [l0, l1, l2, l3, l4, l5, l6], [.ref k0], h) Q else Tr sc d 241 (232, [l0, l1, l2, l3, l4, l5, l6], [.ref k0], h) Q := t_if k_241_225 rfl
theorem k_241_228 : lk 241 228 = some (.iconst 0, 229, 0, 0, .int 0) := by decide +kernel
theorem x_241_228 : Tr sc d 241 (228, [l0, l1, l2, l3, l4, l5, l6], [.ref k0], h) Q = Tr sc d 241 (229, [l0, l1, l2, l3, l4, l5, l6], [.int 0, .ref k0], h) Q := t_go k_241_228 rfl
theorem k_241_229 : lk 241 229 = some (.goto 16, 232, 245, 0, .null) := by decide +kernel
theorem x_241_229 : Tr sc d 241 (229, [l0, l1, l2, l3, l4, l5, l6], [.int i1, .ref k0], h) Q = Tr sc d 241 (245, [l0, l1, l2, l3, l4, l5, l6], [.int i1, .ref k0], h) Q := t_go k_241_229 rfl
theorem k_241_232 : lk 241 232 = some (.aload_n 0, 233, 0, 0, .null) := by decide +kernel
theorem x_241_232 : Tr sc d 241 (232, [some (.ref xk), l1, l2, l3, l4, l5, l6], [.ref k0], h) Q = Tr sc d 241 (233, [some (.ref xk), l1, l2, l3, l4, l5, l6], [.ref xk, .ref k0], h) Q := t_aload_n k_241_232 rfl
theorem k_241_233 : lk 241 233 = some (.getfield 78, 236, 10, 39, .null) := by decide +kernel
theorem x_241_233 : Tr sc d 241 (233, [l0, l1, l2, l3, l4, l5, l6], [.ref k1, .ref k0], h) Q = (okp h k1 10 = true ∧ ∃ q, hR h k1 39 = some q ∧ Tr sc d 241 (236, [l0, l1, l2, l3, l4, l5, l6], [.ref q, .ref k0], h) Q) := t_getr k_241_233
theorem k_241_236 : lk 241 236 = some (.iconst 0, 237, 0, 0, .int 0) := by decide +kernel
theorem x_241_236 : Tr sc d 241 (236, [l0, l1, l2, l3, l4, l5, l6], [.ref k1, .ref k0], h) Q = Tr sc d 241 (237, [l0, l1, l2, l3, l4, l5, l6], [.int 0, .ref k1, .ref k0], h) Q := t_go k_241_236 rfl
theorem k_241_237 : lk 241 237 = some (.iaload, 238, 0, 0, .null) := by decide +kernel
theorem x_241_237 : Tr sc d 241 (237, [l0, l1, l2, l3, l4, l5, l6], [.int i2, .ref k1, .ref k0], h) Q = (iOk sc h k1 i2 ∧ Tr sc d 241 (238, [l0, l1, l2, l3, l4, l5, l6], [.int (iRd sc h k1 i2), .ref k0], h) Q) := t_iald k_241_237
theorem k_241_238 : lk 241 238 = some (.aload_n 0, 239, 0, 0, .null) := by decide +kernel
theorem x_241_238 : Tr sc d 241 (238, [some (.ref xk), l1, l2, l3, l4, l5, l6], [.int i1, .ref k0], h) Q = Tr sc d 241 (239, [some (.ref xk), l1, l2, l3, l4, l5, l6], [.ref xk, .int i1, .ref k0], h) Q := t_aload_n k_241_238 rfl
theorem k_241_239 : lk 241 239 = some (.getfield 128, 242, 10, 60, .null) := by decide +kernel
theorem x_241_239 : Tr sc d 241 (239, [l0, l1, l2, l3, l4, l5, l6], [.ref k2, .int i1, .ref k0], h) Q = (okp h k2 10 = true ∧ ∃ q, hR h k2 60 = some q ∧ Tr sc d 241 (242, [l0, l1, l2, l3, l4, l5, l6], [.ref q, .int i1, .ref k0], h) Q) := t_getr k_241_239
theorem k_241_242 : lk 241 242 = some (.iconst 0, 243, 0, 0, .int 0) := by decide +kernel
theorem x_241_242 : Tr sc d 241 (242, [l0, l1, l2, l3, l4, l5, l6], [.ref k2, .int i1, .ref k0], h) Q = Tr sc d 241 (243, [l0, l1, l2, l3, l4, l5, l6], [.int 0, .ref k2, .int i1, .ref k0], h) Q := t_go k_241_242 rfl
theorem k_241_243 : lk 241 243 = some (.iaload, 244, 0, 0, .null) := by decide +kernel
theorem x_241_243 : Tr sc d 241 (243, [l0, l1, l2, l3, l4, l5, l6], [.int i3, .ref k2, .int i1, .ref k0], h) Q = (iOk sc h k2 i3 ∧ Tr sc d 241 (244, [l0, l1, l2, l3, l4, l5, l6], [.int (iRd sc h k2 i3), .int i1, .ref k0], h) Q) := t_iald k_241_243
theorem k_241_244 : lk 241 244 = some (.isub, 245, 0, 0, .null) := by decide +kernel
theorem x_241_244 : Tr sc d 241 (244, [l0, l1, l2, l3, l4, l5, l6], [.int i2, .int i1, .ref k0], h) Q = Tr sc d 241 (245, [l0, l1, l2, l3, l4, l5, l6], [.int (i1 - i2), .ref k0], h) Q := t_go k_241_244 rfl
theorem k_241_245 : lk 241 245 = some (.iconst 1, 246, 0, 0, .int 1) := by decide +kernel
theorem x_241_245 : Tr sc d 241 (245, [l0, l1, l2, l3, l4, l5, l6], [.int i1, .ref k0], h) Q = Tr sc d 241 (246, [l0, l1, l2, l3, l4, l5, l6], [.int 1, .int i1, .ref k0], h) Q := t_go k_241_245 rfl
theorem k_241_246 : lk 241 246 = some (.invokevirtual 162, 249, 159, 2, .null) := by decide +kernel
theorem x_241_246 : Tr sc (d + 1) 241 (246, [l0, l1, l2, l3, l4, l5, l6], [.int i2, .int i1, .ref k0], h) Q = (okp h k0 10 = true ∧ Tr sc d 159 (ent0 159 [.ref k0, .int i1, .int i2] h) (fun z => Tr sc (d + 1) 241 (249, [l0, l1, l2, l3, l4, l5, l6], z.1.toList ++ [], z.2) Q)) := t_cv (as := [.int i1, .int i2]) (r := []) k_241_246 rfl rfl (Nat.le_of_ble_eq_true rfl) (Nat.le_of_ble_eq_true rfl) (Nat.le_of_ble_eq_true rfl)
theorem k_241_249 : lk 241 249 = some (.goto 4, 252, 253, 0, .null) := by decide +kernel
theorem x_241_249 : Tr sc d 241 (249, [l0, l1, l2, l3, l4, l5, l6], [.int i0], h) Q = Tr sc d 241 (253, [l0, l1, l2, l3, l4, l5, l6], [.int i0], h) Q := t_go k_241_249 rfl
theorem k_241_252 : lk 241 252 = some (.iconst 0, 253, 0, 0, .int 0) := by decide +kernel
theorem x_241_252 : Tr sc d 241 (252, [l0, l1, l2, l3, l4, l5, l6], [], h) Q = Tr sc d 241 (253, [l0, l1, l2, l3, l4, l5, l6], [.int 0], h) Q := t_go k_241_252 rfl
theorem k_241_253 : lk 241 253 = some (.ireturn, 254, 0, 0, .null) := by decide +kernel
theorem x_241_253 : Tr sc d 241 (253, [l0, l1, l2, l3, l4, l5, l6], [.int i0], h) Q = Q (some (.int i0), h) := t_ret k_241_253 (by rw [r_241]; rfl)
theorem e_241 : Tr sc d 241 (ent0 241 [.ref k0, .int i1, .int i2, .int i3] h) Q = Tr sc d 241 (0, [some (.ref k0), some (.int i1), some (.int i2), some (.int i3), none, none, none], [], h) Q := by
  have e : mL 241 = 7 := by decide +kernel
  unfold ent0
  rw [e]
  rfl
theorem r_242 : mR 242 = some .long := by decide +kernel
theorem k_242_0 : lk 242 0 = some (.aload_n 0, 1, 0, 0, .null) := by decide +kernel
theorem x_242_0 : Tr sc d 242 (0, [some (.ref xk)], [], h) Q = Tr sc d 242 (1, [some (.ref xk)], [.ref xk], h) Q := t_aload_n k_242_0 rfl
theorem k_242_1 : lk 242 1 = some (.getfield 267, 4, 10, 3, .long 0) := by decide +kernel
theorem x_242_1 : Tr sc d 242 (1, [l0], [.ref k0], h) Q = (okp h k0 10 = true ∧ Tr sc d 242 (4, [l0], [.long (hL h k0 3)], h) Q) := t_gd k_242_1 rfl
theorem k_242_4 : lk 242 4 = some (.lreturn, 5, 0, 0, .null) := by decide +kernel
theorem x_242_4 : Tr sc d 242 (4, [l0], [.long j0], h) Q = Q (some (.long j0), h) := t_ret k_242_4 (by rw [r_242]; rfl)
theorem e_242 : Tr sc d 242 (ent0 242 [.ref k0] h) Q = Tr sc d 242 (0, [some (.ref k0)], [], h) Q := by
  have e : mL 242 = 1 := by decide +kernel
  unfold ent0
  rw [e]
  rfl
theorem r_243 : mR 243 = some .int := by decide +kernel
theorem k_243_0 : lk 243 0 = some (.aload_n 0, 1, 0, 0, .null) := by decide +kernel
theorem x_243_0 : Tr sc d 243 (0, [some (.ref xk)], [], h) Q = Tr sc d 243 (1, [some (.ref xk)], [.ref xk], h) Q := t_aload_n k_243_0 rfl
theorem k_243_1 : lk 243 1 = some (.getfield 138, 4, 10, 2, .int 0) := by decide +kernel
theorem x_243_1 : Tr sc d 243 (1, [l0], [.ref k0], h) Q = (okp h k0 10 = true ∧ Tr sc d 243 (4, [l0], [.int (hI h k0 2)], h) Q) := t_gd k_243_1 rfl
theorem k_243_4 : lk 243 4 = some (.ireturn, 5, 0, 0, .null) := by decide +kernel
theorem x_243_4 : Tr sc d 243 (4, [l0], [.int i0], h) Q = Q (some (.int i0), h) := t_ret k_243_4 (by rw [r_243]; rfl)
theorem e_243 : Tr sc d 243 (ent0 243 [.ref k0] h) Q = Tr sc d 243 (0, [some (.ref k0)], [], h) Q := by
  have e : mL 243 = 1 := by decide +kernel
  unfold ent0
  rw [e]
  rfl
theorem r_244 : mR 244 = some .long := by decide +kernel
theorem k_244_0 : lk 244 0 = some (.aload_n 0, 1, 0, 0, .null) := by decide +kernel
theorem x_244_0 : Tr sc d 244 (0, [some (.ref xk)], [], h) Q = Tr sc d 244 (1, [some (.ref xk)], [.ref xk], h) Q := t_aload_n k_244_0 rfl
theorem k_244_1 : lk 244 1 = some (.getfield 141, 4, 10, 4, .long 0) := by decide +kernel
theorem x_244_1 : Tr sc d 244 (1, [l0], [.ref k0], h) Q = (okp h k0 10 = true ∧ Tr sc d 244 (4, [l0], [.long (hL h k0 4)], h) Q) := t_gd k_244_1 rfl
theorem k_244_4 : lk 244 4 = some (.lreturn, 5, 0, 0, .null) := by decide +kernel
theorem x_244_4 : Tr sc d 244 (4, [l0], [.long j0], h) Q = Q (some (.long j0), h) := t_ret k_244_4 (by rw [r_244]; rfl)
theorem e_244 : Tr sc d 244 (ent0 244 [.ref k0] h) Q = Tr sc d 244 (0, [some (.ref k0)], [], h) Q := by
  have e : mL 244 = 1 := by decide +kernel
  unfold ent0
  rw [e]
  rfl
theorem r_245 : mR 245 = some .long := by decide +kernel
theorem k_245_0 : lk 245 0 = some (.aload_n 0, 1, 0, 0, .null) := by decide +kernel
theorem x_245_0 : Tr sc d 245 (0, [some (.ref xk)], [], h) Q = Tr sc d 245 (1, [some (.ref xk)], [.ref xk], h) Q := t_aload_n k_245_0 rfl
theorem k_245_1 : lk 245 1 = some (.getfield 13, 4, 10, 5, .long 0) := by decide +kernel
theorem x_245_1 : Tr sc d 245 (1, [l0], [.ref k0], h) Q = (okp h k0 10 = true ∧ Tr sc d 245 (4, [l0], [.long (hL h k0 5)], h) Q) := t_gd k_245_1 rfl
theorem k_245_4 : lk 245 4 = some (.lreturn, 5, 0, 0, .null) := by decide +kernel
theorem x_245_4 : Tr sc d 245 (4, [l0], [.long j0], h) Q = Q (some (.long j0), h) := t_ret k_245_4 (by rw [r_245]; rfl)
theorem e_245 : Tr sc d 245 (ent0 245 [.ref k0] h) Q = Tr sc d 245 (0, [some (.ref k0)], [], h) Q := by
  have e : mL 245 = 1 := by decide +kernel
  unfold ent0
  rw [e]
  rfl
theorem r_246 : mR 246 = some .int := by decide +kernel
theorem k_246_0 : lk 246 0 = some (.iconst 0, 1, 0, 0, .int 0) := by decide +kernel
theorem x_246_0 : Tr sc d 246 (0, [l0, l1, l2, l3], [], h) Q = Tr sc d 246 (1, [l0, l1, l2, l3], [.int 0], h) Q := t_go k_246_0 rfl
theorem k_246_1 : lk 246 1 = some (.istore_n 2, 2, 2, 0, .null) := by decide +kernel
theorem x_246_1 : Tr sc d 246 (1, [l0, l1, l2, l3], [.int i0], h) Q = Tr sc d 246 (2, [l0, cl2 l1, some (.int i0), l3], [], h) Q := t_istore_n k_246_1 (Nat.le_of_ble_eq_true rfl)
theorem k_246_2 : lk 246 2 = some (.iconst 0, 3, 0, 0, .int 0) := by decide +kernel
theorem x_246_2 : Tr sc d 246 (2, [l0, l1, l2, l3], [], h) Q = Tr sc d 246 (3, [l0, l1, l2, l3], [.int 0], h) Q := t_go k_246_2 rfl
theorem k_246_3 : lk 246 3 = some (.istore_n 3, 4, 3, 0, .null) := by decide +kernel
theorem x_246_3 : Tr sc d 246 (3, [l0, l1, l2, l3], [.int i0], h) Q = Tr sc d 246 (4, [l0, l1, cl2 l2, some (.int i0)], [], h) Q := t_istore_n k_246_3 (Nat.le_of_ble_eq_true rfl)
theorem k_246_4 : lk 246 4 = some (.iload_n 3, 5, 3, 0, .null) := by decide +kernel
theorem x_246_4 : Tr sc d 246 (4, [l0, l1, l2, some (.int x)], [], h) Q = Tr sc d 246 (5, [l0, l1, l2, some (.int x)], [.int x], h) Q := t_iload_n k_246_4 rfl
theorem k_246_5 : lk 246 5 = some (.bipush 6, 7, 0, 0, .int 6) := by decide +kernel
theorem x_246_5 : Tr sc d 246 (5, [l0, l1, l2, l3], [.int i0], h) Q = Tr sc d 246 (7, [l0, l1, l2, l3], [.int 6, .int i0], h) Q := t_go k_246_5 rfl
theorem k_246_7 : lk 246 7 = some (.if_icmp .ge 30, 10, 37, 0, .null) := by decide +kernel
theorem x_246_7 : Tr sc d 246 (7, [l0, l1, l2, l3], [.int i1, .int i0], h) Q = if i1 ≤ i0 then Tr sc d 246 (37, [l0, l1, l2, l3], [], h) Q else Tr sc d 246 (10, [l0, l1, l2, l3], [], h) Q := t_if k_246_7 rfl
theorem k_246_10 : lk 246 10 = some (.iload_n 2, 11, 2, 0, .null) := by decide +kernel
theorem x_246_10 : Tr sc d 246 (10, [l0, l1, some (.int x), l3], [], h) Q = Tr sc d 246 (11, [l0, l1, some (.int x), l3], [.int x], h) Q := t_iload_n k_246_10 rfl
theorem k_246_11 : lk 246 11 = some (.iload_n 1, 12, 1, 0, .null) := by decide +kernel
theorem x_246_11 : Tr sc d 246 (11, [l0, some (.int x), l2, l3], [.int i0], h) Q = Tr sc d 246 (12, [l0, some (.int x), l2, l3], [.int x, .int i0], h) Q := t_iload_n k_246_11 rfl
theorem k_246_12 : lk 246 12 = some (.ifCond .ne 16, 15, 28, 0, .null) := by decide +kernel
theorem x_246_12 : Tr sc d 246 (12, [l0, l1, l2, l3], [.int i1, .int i0], h) Q = if i1 = 0 then Tr sc d 246 (15, [l0, l1, l2, l3], [.int i0], h) Q else Tr sc d 246 (28, [l0, l1, l2, l3], [.int i0], h) Q := t_if k_246_12 rfl
theorem k_246_15 : lk 246 15 = some (.aload_n 0, 16, 0, 0, .null) := by decide +kernel
theorem x_246_15 : Tr sc d 246 (15, [some (.ref xk), l1, l2, l3], [.int i0], h) Q = Tr sc d 246 (16, [some (.ref xk), l1, l2, l3], [.ref xk, .int i0], h) Q := t_aload_n k_246_15 rfl
theorem k_246_16 : lk 246 16 = some (.getfield 17, 19, 10, 6, .null) := by decide +kernel
theorem x_246_16 : Tr sc d 246 (16, [l0, l1, l2, l3], [.ref k1, .int i0], h) Q = (okp h k1 10 = true ∧ ∃ q, hR h k1 6 = some q ∧ Tr sc d 246 (19, [l0, l1, l2, l3], [.ref q, .int i0], h) Q) := t_getr k_246_16
theorem k_246_19 : lk 246 19 = some (.iload_n 3, 20, 3, 0, .null) := by decide +kernel
theorem x_246_19 : Tr sc d 246 (19, [l0, l1, l2, some (.int x)], [.ref k1, .int i0], h) Q = Tr sc d 246 (20, [l0, l1, l2, some (.int x)], [.int x, .ref k1, .int i0], h) Q := t_iload_n k_246_19 rfl
theorem k_246_20 : lk 246 20 = some (.iaload, 21, 0, 0, .null) := by decide +kernel
theorem x_246_20 : Tr sc d 246 (20, [l0, l1, l2, l3], [.int i2, .ref k1, .int i0], h) Q = (iOk sc h k1 i2 ∧ Tr sc d 246 (21, [l0, l1, l2, l3], [.int (iRd sc h k1 i2), .int i0], h) Q) := t_iald k_246_20
theorem k_246_21 : lk 246 21 = some (.ifCond .lt 7, 24, 28, 0, .null) := by decide +kernel
theorem x_246_21 : Tr sc d 246 (21, [l0, l1, l2, l3], [.int i1, .int i0], h) Q = if i1 < 0 then Tr sc d 246 (28, [l0, l1, l2, l3], [.int i0], h) Q else Tr sc d 246 (24, [l0, l1, l2, l3], [.int i0], h) Q := t_if k_246_21 rfl
theorem k_246_24 : lk 246 24 = some (.iconst 1, 25, 0, 0, .int 1) := by decide +kernel
theorem x_246_24 : Tr sc d 246 (24, [l0, l1, l2, l3], [.int i0], h) Q = Tr sc d 246 (25, [l0, l1, l2, l3], [.int 1, .int i0], h) Q := t_go k_246_24 rfl
theorem k_246_25 : lk 246 25 = some (.goto 4, 28, 29, 0, .null) := by decide +kernel
theorem x_246_25 : Tr sc d 246 (25, [l0, l1, l2, l3], [.int i1, .int i0], h) Q = Tr sc d 246 (29, [l0, l1, l2, l3], [.int i1, .int i0], h) Q := t_go k_246_25 rfl
theorem k_246_28 : lk 246 28 = some (.iconst 0, 29, 0, 0, .int 0) := by decide +kernel
theorem x_246_28 : Tr sc d 246 (28, [l0, l1, l2, l3], [.int i0], h) Q = Tr sc d 246 (29, [l0, l1, l2, l3], [.int 0, .int i0], h) Q := t_go k_246_28 rfl
theorem k_246_29 : lk 246 29 = some (.iadd, 30, 0, 0, .null) := by decide +kernel
theorem x_246_29 : Tr sc d 246 (29, [l0, l1, l2, l3], [.int i1, .int i0], h) Q = Tr sc d 246 (30, [l0, l1, l2, l3], [.int (i0 + i1)], h) Q := t_go k_246_29 rfl
theorem k_246_30 : lk 246 30 = some (.istore_n 2, 31, 2, 0, .null) := by decide +kernel
theorem x_246_30 : Tr sc d 246 (30, [l0, l1, l2, l3], [.int i0], h) Q = Tr sc d 246 (31, [l0, cl2 l1, some (.int i0), l3], [], h) Q := t_istore_n k_246_30 (Nat.le_of_ble_eq_true rfl)
theorem k_246_31 : lk 246 31 = some (.iinc 3 1, 34, 3, 0, .int 1) := by decide +kernel
theorem x_246_31 : Tr sc d 246 (31, [l0, l1, l2, some (.int x)], [], h) Q = Tr sc d 246 (34, [l0, l1, cl2 l2, some (.int (x + 1))], [], h) Q := t_inc k_246_31 rfl (Nat.le_of_ble_eq_true rfl)
theorem k_246_34 : lk 246 34 = some (.goto (-30), 37, 4, 0, .null) := by decide +kernel
theorem x_246_34 : Tr sc d 246 (34, [l0, l1, l2, l3], [], h) Q = Tr sc d 246 (4, [l0, l1, l2, l3], [], h) Q := t_go k_246_34 rfl
theorem k_246_37 : lk 246 37 = some (.iconst 0, 38, 0, 0, .int 0) := by decide +kernel
theorem x_246_37 : Tr sc d 246 (37, [l0, l1, l2, l3], [], h) Q = Tr sc d 246 (38, [l0, l1, l2, l3], [.int 0], h) Q := t_go k_246_37 rfl
theorem k_246_38 : lk 246 38 = some (.istore_n 3, 39, 3, 0, .null) := by decide +kernel
theorem x_246_38 : Tr sc d 246 (38, [l0, l1, l2, l3], [.int i0], h) Q = Tr sc d 246 (39, [l0, l1, cl2 l2, some (.int i0)], [], h) Q := t_istore_n k_246_38 (Nat.le_of_ble_eq_true rfl)
theorem k_246_39 : lk 246 39 = some (.iload_n 3, 40, 3, 0, .null) := by decide +kernel
theorem x_246_39 : Tr sc d 246 (39, [l0, l1, l2, some (.int x)], [], h) Q = Tr sc d 246 (40, [l0, l1, l2, some (.int x)], [.int x], h) Q := t_iload_n k_246_39 rfl
theorem k_246_40 : lk 246 40 = some (.iconst 4, 41, 0, 0, .int 4) := by decide +kernel
theorem x_246_40 : Tr sc d 246 (40, [l0, l1, l2, l3], [.int i0], h) Q = Tr sc d 246 (41, [l0, l1, l2, l3], [.int 4, .int i0], h) Q := t_go k_246_40 rfl
theorem k_246_41 : lk 246 41 = some (.if_icmp .ge 31, 44, 72, 0, .null) := by decide +kernel
theorem x_246_41 : Tr sc d 246 (41, [l0, l1, l2, l3], [.int i1, .int i0], h) Q = if i1 ≤ i0 then Tr sc d 246 (72, [l0, l1, l2, l3], [], h) Q else Tr sc d 246 (44, [l0, l1, l2, l3], [], h) Q := t_if k_246_41 rfl
theorem k_246_44 : lk 246 44 = some (.iload_n 2, 45, 2, 0, .null) := by decide +kernel
theorem x_246_44 : Tr sc d 246 (44, [l0, l1, some (.int x), l3], [], h) Q = Tr sc d 246 (45, [l0, l1, some (.int x), l3], [.int x], h) Q := t_iload_n k_246_44 rfl
theorem k_246_45 : lk 246 45 = some (.iload_n 1, 46, 1, 0, .null) := by decide +kernel
theorem x_246_45 : Tr sc d 246 (45, [l0, some (.int x), l2, l3], [.int i0], h) Q = Tr sc d 246 (46, [l0, some (.int x), l2, l3], [.int x, .int i0], h) Q := t_iload_n k_246_45 rfl
theorem k_246_46 : lk 246 46 = some (.iconst 1, 47, 0, 0, .int 1) := by decide +kernel
theorem x_246_46 : Tr sc d 246 (46, [l0, l1, l2, l3], [.int i1, .int i0], h) Q = Tr sc d 246 (47, [l0, l1, l2, l3], [.int 1, .int i1, .int i0], h) Q := t_go k_246_46 rfl
theorem k_246_47 : lk 246 47 = some (.if_icmp .ne 16, 50, 63, 0, .null) := by decide +kernel
theorem x_246_47 : Tr sc d 246 (47, [l0, l1, l2, l3], [.int i2, .int i1, .int i0], h) Q = if i1 = i2 then Tr sc d 246 (50, [l0, l1, l2, l3], [.int i0], h) Q else Tr sc d 246 (63, [l0, l1, l2, l3], [.int i0], h) Q := t_if k_246_47 rfl
theorem k_246_50 : lk 246 50 = some (.aload_n 0, 51, 0, 0, .null) := by decide +kernel
theorem x_246_50 : Tr sc d 246 (50, [some (.ref xk), l1, l2, l3], [.int i0], h) Q = Tr sc d 246 (51, [some (.ref xk), l1, l2, l3], [.ref xk, .int i0], h) Q := t_aload_n k_246_50 rfl
theorem k_246_51 : lk 246 51 = some (.getfield 26, 54, 10, 9, .null) := by decide +kernel
theorem x_246_51 : Tr sc d 246 (51, [l0, l1, l2, l3], [.ref k1, .int i0], h) Q = (okp h k1 10 = true ∧ ∃ q, hR h k1 9 = some q ∧ Tr sc d 246 (54, [l0, l1, l2, l3], [.ref q, .int i0], h) Q) := t_getr k_246_51
theorem k_246_54 : lk 246 54 = some (.iload_n 3, 55, 3, 0, .null) := by decide +kernel
theorem x_246_54 : Tr sc d 246 (54, [l0, l1, l2, some (.int x)], [.ref k1, .int i0], h) Q = Tr sc d 246 (55, [l0, l1, l2, some (.int x)], [.int x, .ref k1, .int i0], h) Q := t_iload_n k_246_54 rfl
theorem k_246_55 : lk 246 55 = some (.iaload, 56, 0, 0, .null) := by decide +kernel
theorem x_246_55 : Tr sc d 246 (55, [l0, l1, l2, l3], [.int i2, .ref k1, .int i0], h) Q = (iOk sc h k1 i2 ∧ Tr sc d 246 (56, [l0, l1, l2, l3], [.int (iRd sc h k1 i2), .int i0], h) Q) := t_iald k_246_55
theorem k_246_56 : lk 246 56 = some (.ifCond .lt 7, 59, 63, 0, .null) := by decide +kernel
theorem x_246_56 : Tr sc d 246 (56, [l0, l1, l2, l3], [.int i1, .int i0], h) Q = if i1 < 0 then Tr sc d 246 (63, [l0, l1, l2, l3], [.int i0], h) Q else Tr sc d 246 (59, [l0, l1, l2, l3], [.int i0], h) Q := t_if k_246_56 rfl
theorem k_246_59 : lk 246 59 = some (.iconst 1, 60, 0, 0, .int 1) := by decide +kernel
theorem x_246_59 : Tr sc d 246 (59, [l0, l1, l2, l3], [.int i0], h) Q = Tr sc d 246 (60, [l0, l1, l2, l3], [.int 1, .int i0], h) Q := t_go k_246_59 rfl
theorem k_246_60 : lk 246 60 = some (.goto 4, 63, 64, 0, .null) := by decide +kernel
theorem x_246_60 : Tr sc d 246 (60, [l0, l1, l2, l3], [.int i1, .int i0], h) Q = Tr sc d 246 (64, [l0, l1, l2, l3], [.int i1, .int i0], h) Q := t_go k_246_60 rfl
theorem k_246_63 : lk 246 63 = some (.iconst 0, 64, 0, 0, .int 0) := by decide +kernel
theorem x_246_63 : Tr sc d 246 (63, [l0, l1, l2, l3], [.int i0], h) Q = Tr sc d 246 (64, [l0, l1, l2, l3], [.int 0, .int i0], h) Q := t_go k_246_63 rfl
theorem k_246_64 : lk 246 64 = some (.iadd, 65, 0, 0, .null) := by decide +kernel
theorem x_246_64 : Tr sc d 246 (64, [l0, l1, l2, l3], [.int i1, .int i0], h) Q = Tr sc d 246 (65, [l0, l1, l2, l3], [.int (i0 + i1)], h) Q := t_go k_246_64 rfl
theorem k_246_65 : lk 246 65 = some (.istore_n 2, 66, 2, 0, .null) := by decide +kernel
theorem x_246_65 : Tr sc d 246 (65, [l0, l1, l2, l3], [.int i0], h) Q = Tr sc d 246 (66, [l0, cl2 l1, some (.int i0), l3], [], h) Q := t_istore_n k_246_65 (Nat.le_of_ble_eq_true rfl)
theorem k_246_66 : lk 246 66 = some (.iinc 3 1, 69, 3, 0, .int 1) := by decide +kernel
theorem x_246_66 : Tr sc d 246 (66, [l0, l1, l2, some (.int x)], [], h) Q = Tr sc d 246 (69, [l0, l1, cl2 l2, some (.int (x + 1))], [], h) Q := t_inc k_246_66 rfl (Nat.le_of_ble_eq_true rfl)
theorem k_246_69 : lk 246 69 = some (.goto (-30), 72, 39, 0, .null) := by decide +kernel
theorem x_246_69 : Tr sc d 246 (69, [l0, l1, l2, l3], [], h) Q = Tr sc d 246 (39, [l0, l1, l2, l3], [], h) Q := t_go k_246_69 rfl
theorem k_246_72 : lk 246 72 = some (.iconst 0, 73, 0, 0, .int 0) := by decide +kernel
theorem x_246_72 : Tr sc d 246 (72, [l0, l1, l2, l3], [], h) Q = Tr sc d 246 (73, [l0, l1, l2, l3], [.int 0], h) Q := t_go k_246_72 rfl
theorem k_246_73 : lk 246 73 = some (.istore_n 3, 74, 3, 0, .null) := by decide +kernel
theorem x_246_73 : Tr sc d 246 (73, [l0, l1, l2, l3], [.int i0], h) Q = Tr sc d 246 (74, [l0, l1, cl2 l2, some (.int i0)], [], h) Q := t_istore_n k_246_73 (Nat.le_of_ble_eq_true rfl)
theorem k_246_74 : lk 246 74 = some (.iload_n 3, 75, 3, 0, .null) := by decide +kernel
theorem x_246_74 : Tr sc d 246 (74, [l0, l1, l2, some (.int x)], [], h) Q = Tr sc d 246 (75, [l0, l1, l2, some (.int x)], [.int x], h) Q := t_iload_n k_246_74 rfl
theorem k_246_75 : lk 246 75 = some (.bipush 8, 77, 0, 0, .int 8) := by decide +kernel
theorem x_246_75 : Tr sc d 246 (75, [l0, l1, l2, l3], [.int i0], h) Q = Tr sc d 246 (77, [l0, l1, l2, l3], [.int 8, .int i0], h) Q := t_go k_246_75 rfl
theorem k_246_77 : lk 246 77 = some (.if_icmp .ge 44, 80, 121, 0, .null) := by decide +kernel
theorem x_246_77 : Tr sc d 246 (77, [l0, l1, l2, l3], [.int i1, .int i0], h) Q = if i1 ≤ i0 then Tr sc d 246 (121, [l0, l1, l2, l3], [], h) Q else Tr sc d 246 (80, [l0, l1, l2, l3], [], h) Q := t_if k_246_77 rfl
theorem k_246_80 : lk 246 80 = some (.iload_n 2, 81, 2, 0, .null) := by decide +kernel
theorem x_246_80 : Tr sc d 246 (80, [l0, l1, some (.int x), l3], [], h) Q = Tr sc d 246 (81, [l0, l1, some (.int x), l3], [.int x], h) Q := t_iload_n k_246_80 rfl
theorem k_246_81 : lk 246 81 = some (.aload_n 0, 82, 0, 0, .null) := by decide +kernel
theorem x_246_81 : Tr sc d 246 (81, [some (.ref xk), l1, l2, l3], [.int i0], h) Q = Tr sc d 246 (82, [some (.ref xk), l1, l2, l3], [.ref xk, .int i0], h) Q := t_aload_n k_246_81 rfl
theorem k_246_82 : lk 246 82 = some (.getfield 41, 85, 10, 18, .null) := by decide +kernel
theorem x_246_82 : Tr sc d 246 (82, [l0, l1, l2, l3], [.ref k1, .int i0], h) Q = (okp h k1 10 = true ∧ ∃ q, hR h k1 18 = some q ∧ Tr sc d 246 (85, [l0, l1, l2, l3], [.ref q, .int i0], h) Q) := t_getr k_246_82
theorem k_246_85 : lk 246 85 = some (.iload_n 3, 86, 3, 0, .null) := by decide +kernel
theorem x_246_85 : Tr sc d 246 (85, [l0, l1, l2, some (.int x)], [.ref k1, .int i0], h) Q = Tr sc d 246 (86, [l0, l1, l2, some (.int x)], [.int x, .ref k1, .int i0], h) Q := t_iload_n k_246_85 rfl
theorem k_246_86 : lk 246 86 = some (.iaload, 87, 0, 0, .null) := by decide +kernel
theorem x_246_86 : Tr sc d 246 (86, [l0, l1, l2, l3], [.int i2, .ref k1, .int i0], h) Q = (iOk sc h k1 i2 ∧ Tr sc d 246 (87, [l0, l1, l2, l3], [.int (iRd sc h k1 i2), .int i0], h) Q) := t_iald k_246_86
theorem k_246_87 : lk 246 87 = some (.ifCond .le 25, 90, 112, 0, .null) := by decide +kernel
theorem x_246_87 : Tr sc d 246 (87, [l0, l1, l2, l3], [.int i1, .int i0], h) Q = if i1 ≤ 0 then Tr sc d 246 (112, [l0, l1, l2, l3], [.int i0], h) Q else Tr sc d 246 (90, [l0, l1, l2, l3], [.int i0], h) Q := t_if k_246_87 rfl
theorem k_246_90 : lk 246 90 = some (.iload_n 1, 91, 1, 0, .null) := by decide +kernel
theorem x_246_90 : Tr sc d 246 (90, [l0, some (.int x), l2, l3], [.int i0], h) Q = Tr sc d 246 (91, [l0, some (.int x), l2, l3], [.int x, .int i0], h) Q := t_iload_n k_246_90 rfl
theorem k_246_91 : lk 246 91 = some (.iconst 2, 92, 0, 0, .int 2) := by decide +kernel
theorem x_246_91 : Tr sc d 246 (91, [l0, l1, l2, l3], [.int i1, .int i0], h) Q = Tr sc d 246 (92, [l0, l1, l2, l3], [.int 2, .int i1, .int i0], h) Q := t_go k_246_91 rfl
theorem k_246_92 : lk 246 92 = some (.if_icmp .eq 16, 95, 108, 0, .null) := by decide +kernel
theorem x_246_92 : Tr sc d 246 (92, [l0, l1, l2, l3], [.int i2, .int i1, .int i0], h) Q = if i1 = i2 then Tr sc d 246 (108, [l0, l1, l2, l3], [.int i0], h) Q else Tr sc d 246 (95, [l0, l1, l2, l3], [.int i0], h) Q := t_if k_246_92 rfl
theorem k_246_95 : lk 246 95 = some (.iload_n 1, 96, 1, 0, .null) := by decide +kernel
theorem x_246_95 : Tr sc d 246 (95, [l0, some (.int x), l2, l3], [.int i0], h) Q = Tr sc d 246 (96, [l0, some (.int x), l2, l3], [.int x, .int i0], h) Q := t_iload_n k_246_95 rfl
theorem k_246_96 : lk 246 96 = some (.iconst 3, 97, 0, 0, .int 3) := by decide +kernel
theorem x_246_96 : Tr sc d 246 (96, [l0, l1, l2, l3], [.int i1, .int i0], h) Q = Tr sc d 246 (97, [l0, l1, l2, l3], [.int 3, .int i1, .int i0], h) Q := t_go k_246_96 rfl
theorem k_246_97 : lk 246 97 = some (.if_icmp .ne 15, 100, 112, 0, .null) := by decide +kernel
theorem x_246_97 : Tr sc d 246 (97, [l0, l1, l2, l3], [.int i2, .int i1, .int i0], h) Q = if i1 = i2 then Tr sc d 246 (100, [l0, l1, l2, l3], [.int i0], h) Q else Tr sc d 246 (112, [l0, l1, l2, l3], [.int i0], h) Q := t_if k_246_97 rfl
theorem k_246_100 : lk 246 100 = some (.aload_n 0, 101, 0, 0, .null) := by decide +kernel
theorem x_246_100 : Tr sc d 246 (100, [some (.ref xk), l1, l2, l3], [.int i0], h) Q = Tr sc d 246 (101, [some (.ref xk), l1, l2, l3], [.ref xk, .int i0], h) Q := t_aload_n k_246_100 rfl
theorem k_246_101 : lk 246 101 = some (.iload_n 3, 102, 3, 0, .null) := by decide +kernel
theorem x_246_101 : Tr sc d 246 (101, [l0, l1, l2, some (.int x)], [.ref k1, .int i0], h) Q = Tr sc d 246 (102, [l0, l1, l2, some (.int x)], [.int x, .ref k1, .int i0], h) Q := t_iload_n k_246_101 rfl
theorem k_246_102 : lk 246 102 = some (.invokevirtual 223, 105, 194, 1, .null) := by decide +kernel
theorem x_246_102 : Tr sc (d + 1) 246 (102, [l0, l1, l2, l3], [.int i2, .ref k1, .int i0], h) Q = (okp h k1 10 = true ∧ Tr sc d 194 (ent0 194 [.ref k1, .int i2] h) (fun z => Tr sc (d + 1) 246 (105, [l0, l1, l2, l3], z.1.toList ++ [.int i0], z.2) Q)) := t_cv (as := [.int i2]) (r := [.int i0]) k_246_102 rfl rfl (Nat.le_of_ble_eq_true rfl) (Nat.le_of_ble_eq_true rfl) (Nat.le_of_ble_eq_true rfl)
theorem k_246_105 : lk 246 105 = some (.ifCond .eq 7, 108, 112, 0, .null) := by decide +kernel
theorem x_246_105 : Tr sc d 246 (105, [l0, l1, l2, l3], [.int i1, .int i0], h) Q = if i1 = 0 then Tr sc d 246 (112, [l0, l1, l2, l3], [.int i0], h) Q else Tr sc d 246 (108, [l0, l1, l2, l3], [.int i0], h) Q := t_if k_246_105 rfl
theorem k_246_108 : lk 246 108 = some (.iconst 1, 109, 0, 0, .int 1) := by decide +kernel
theorem x_246_108 : Tr sc d 246 (108, [l0, l1, l2, l3], [.int i0], h) Q = Tr sc d 246 (109, [l0, l1, l2, l3], [.int 1, .int i0], h) Q := t_go k_246_108 rfl
theorem k_246_109 : lk 246 109 = some (.goto 4, 112, 113, 0, .null) := by decide +kernel
theorem x_246_109 : Tr sc d 246 (109, [l0, l1, l2, l3], [.int i1, .int i0], h) Q = Tr sc d 246 (113, [l0, l1, l2, l3], [.int i1, .int i0], h) Q := t_go k_246_109 rfl
theorem k_246_112 : lk 246 112 = some (.iconst 0, 113, 0, 0, .int 0) := by decide +kernel
theorem x_246_112 : Tr sc d 246 (112, [l0, l1, l2, l3], [.int i0], h) Q = Tr sc d 246 (113, [l0, l1, l2, l3], [.int 0, .int i0], h) Q := t_go k_246_112 rfl
theorem k_246_113 : lk 246 113 = some (.iadd, 114, 0, 0, .null) := by decide +kernel
theorem x_246_113 : Tr sc d 246 (113, [l0, l1, l2, l3], [.int i1, .int i0], h) Q = Tr sc d 246 (114, [l0, l1, l2, l3], [.int (i0 + i1)], h) Q := t_go k_246_113 rfl
theorem k_246_114 : lk 246 114 = some (.istore_n 2, 115, 2, 0, .null) := by decide +kernel
theorem x_246_114 : Tr sc d 246 (114, [l0, l1, l2, l3], [.int i0], h) Q = Tr sc d 246 (115, [l0, cl2 l1, some (.int i0), l3], [], h) Q := t_istore_n k_246_114 (Nat.le_of_ble_eq_true rfl)
theorem k_246_115 : lk 246 115 = some (.iinc 3 1, 118, 3, 0, .int 1) := by decide +kernel
theorem x_246_115 : Tr sc d 246 (115, [l0, l1, l2, some (.int x)], [], h) Q = Tr sc d 246 (118, [l0, l1, cl2 l2, some (.int (x + 1))], [], h) Q := t_inc k_246_115 rfl (Nat.le_of_ble_eq_true rfl)
theorem k_246_118 : lk 246 118 = some (.goto (-44), 121, 74, 0, .null) := by decide +kernel
theorem x_246_118 : Tr sc d 246 (118, [l0, l1, l2, l3], [], h) Q = Tr sc d 246 (74, [l0, l1, l2, l3], [], h) Q := t_go k_246_118 rfl
theorem k_246_121 : lk 246 121 = some (.iload_n 1, 122, 1, 0, .null) := by decide +kernel
theorem x_246_121 : Tr sc d 246 (121, [l0, some (.int x), l2, l3], [], h) Q = Tr sc d 246 (122, [l0, some (.int x), l2, l3], [.int x], h) Q := t_iload_n k_246_121 rfl
theorem k_246_122 : lk 246 122 = some (.iconst 0, 123, 0, 0, .int 0) := by decide +kernel
theorem x_246_122 : Tr sc d 246 (122, [l0, l1, l2, l3], [.int i0], h) Q = Tr sc d 246 (123, [l0, l1, l2, l3], [.int 0, .int i0], h) Q := t_go k_246_122 rfl
theorem k_246_123 : lk 246 123 = some (.iconst 3, 124, 0, 0, .int 3) := by decide +kernel
theorem x_246_123 : Tr sc d 246 (123, [l0, l1, l2, l3], [.int i1, .int i0], h) Q = Tr sc d 246 (124, [l0, l1, l2, l3], [.int 3, .int i1, .int i0], h) Q := t_go k_246_123 rfl
theorem k_246_124 : lk 246 124 = some (.invokestatic 144, 127, 157, 3, .null) := by decide +kernel
theorem x_246_124 : Tr sc (d + 1) 246 (124, [l0, l1, l2, l3], [.int i2, .int i1, .int i0], h) Q = Tr sc d 157 (ent0 157 [.int i0, .int i1, .int i2] h) (fun z => Tr sc (d + 1) 246 (127, [l0, l1, l2, l3], z.1.toList ++ [], z.2) Q) := t_cs (as := [.int i0, .int i1, .int i2]) (r := []) k_246_124 (by decide) rfl rfl (Nat.le_of_ble_eq_true rfl) (Nat.le_of_ble_eq_true rfl)
theorem k_246_127 : lk 246 127 = some (.ifCond .eq 7, 130, 134, 0, .null) := by decide +kernel
theorem x_246_127 : Tr sc d 246 (127, [l0, l1, l2, l3], [.int i0], h) Q = if i0 = 0 then Tr sc d 246 (134, [l0, l1, l2, l3], [], h) Q else Tr sc d 246 (130, [l0, l1, l2, l3], [], h) Q := t_if k_246_127 rfl
theorem k_246_130 : lk 246 130 = some (.iload_n 2, 131, 2, 0, .null) := by decide +kernel
theorem x_246_130 : Tr sc d 246 (130, [l0, l1, some (.int x), l3], [], h) Q = Tr sc d 246 (131, [l0, l1, some (.int x), l3], [.int x], h) Q := t_iload_n k_246_130 rfl
theorem k_246_131 : lk 246 131 = some (.goto 4, 134, 135, 0, .null) := by decide +kernel
theorem x_246_131 : Tr sc d 246 (131, [l0, l1, l2, l3], [.int i0], h) Q = Tr sc d 246 (135, [l0, l1, l2, l3], [.int i0], h) Q := t_go k_246_131 rfl
theorem k_246_134 : lk 246 134 = some (.iconst (-1), 135, 0, 0, .int (-1)) := by decide +kernel
theorem x_246_134 : Tr sc d 246 (134, [l0, l1, l2, l3], [], h) Q = Tr sc d 246 (135, [l0, l1, l2, l3], [.int (-1)], h) Q := t_go k_246_134 rfl
theorem k_246_135 : lk 246 135 = some (.ireturn, 136, 0, 0, .null) := by decide +kernel
theorem x_246_135 : Tr sc d 246 (135, [l0, l1, l2, l3], [.int i0], h) Q = Q (some (.int i0), h) := t_ret k_246_135 (by rw [r_246]; rfl)
theorem e_246 : Tr sc d 246 (ent0 246 [.ref k0, .int i1] h) Q = Tr sc d 246 (0, [some (.ref k0), some (.int i1), none, none], [], h) Q := by
  have e : mL 246 = 4 := by decide +kernel
  unfold ent0
  rw [e]
  rfl
theorem r_247 : mR 247 = some .int := by decide +kernel
theorem k_247_0 : lk 247 0 = some (.aload_n 0, 1, 0, 0, .null) := by decide +kernel
theorem x_247_0 : Tr sc d 247 (0, [some (.ref xk)], [], h) Q = Tr sc d 247 (1, [some (.ref xk)], [.ref xk], h) Q := t_aload_n k_247_0 rfl
theorem k_247_1 : lk 247 1 = some (.getfield 134, 4, 10, 0, .int 0) := by decide +kernel
theorem x_247_1 : Tr sc d 247 (1, [l0], [.ref k0], h) Q = (okp h k0 10 = true ∧ Tr sc d 247 (4, [l0], [.int (hI h k0 0)], h) Q) := t_gd k_247_1 rfl
theorem k_247_4 : lk 247 4 = some (.ireturn, 5, 0, 0, .null) := by decide +kernel
theorem x_247_4 : Tr sc d 247 (4, [l0], [.int i0], h) Q = Q (some (.int i0), h) := t_ret k_247_4 (by rw [r_247]; rfl)
theorem e_247 : Tr sc d 247 (ent0 247 [.ref k0] h) Q = Tr sc d 247 (0, [some (.ref k0)], [], h) Q := by
  have e : mL 247 = 1 := by decide +kernel
  unfold ent0
  rw [e]
  rfl
theorem r_248 : mR 248 = some .int := by decide +kernel
theorem k_248_0 : lk 248 0 = some (.iload_n 1, 1, 1, 0, .null) := by decide +kernel
theorem x_248_0 : Tr sc d 248 (0, [l0, some (.int x)], [], h) Q = Tr sc d 248 (1, [l0, some (.int x)], [.int x], h) Q := t_iload_n k_248_0 rfl
theorem k_248_1 : lk 248 1 = some (.iconst 1, 2, 0, 0, .int 1) := by decide +kernel
theorem x_248_1 : Tr sc d 248 (1, [l0, l1], [.int i0], h) Q = Tr sc d 248 (2, [l0, l1], [.int 1, .int i0], h) Q := t_go k_248_1 rfl
theorem k_248_2 : lk 248 2 = some (.iconst 5, 3, 0, 0, .int 5) := by decide +kernel
theorem x_248_2 : Tr sc d 248 (2, [l0, l1], [.int i1, .int i0], h) Q = Tr sc d 248 (3, [l0, l1], [.int 5, .int i1, .int i0], h) Q := t_go k_248_2 rfl
theorem k_248_3 : lk 248 3 = some (.invokestatic 144, 6, 157, 3, .null) := by decide +kernel
theorem x_248_3 : Tr sc (d + 1) 248 (3, [l0, l1], [.int i2, .int i1, .int i0], h) Q = Tr sc d 157 (ent0 157 [.int i0, .int i1, .int i2] h) (fun z => Tr sc (d + 1) 248 (6, [l0, l1], z.1.toList ++ [], z.2) Q) := t_cs (as := [.int i0, .int i1, .int i2]) (r := []) k_248_3 (by decide) rfl rfl (Nat.le_of_ble_eq_true rfl) (Nat.le_of_ble_eq_true rfl)
theorem k_248_6 : lk 248 6 = some (.ifCond .eq 12, 9, 18, 0, .null) := by decide +kernel
theorem x_248_6 : Tr sc d 248 (6, [l0, l1], [.int i0], h) Q = if i0 = 0 then Tr sc d 248 (18, [l0, l1], [], h) Q else Tr sc d 248 (9, [l0, l1], [], h) Q := t_if k_248_6 rfl
theorem k_248_9 : lk 248 9 = some (.aload_n 0, 10, 0, 0, .null) := by decide +kernel
theorem x_248_9 : Tr sc d 248 (9, [some (.ref xk), l1], [], h) Q = Tr sc d 248 (10, [some (.ref xk), l1], [.ref xk], h) Q := t_aload_n k_248_9 rfl
theorem k_248_10 : lk 248 10 = some (.getfield 7, 13, 10, 1, .null) := by decide +kernel
theorem x_248_10 : Tr sc d 248 (10, [l0, l1], [.ref k0], h) Q = (okp h k0 10 = true ∧ ∃ q, hR h k0 1 = some q ∧ Tr sc d 248 (13, [l0, l1], [.ref q], h) Q) := t_getr k_248_10
theorem k_248_13 : lk 248 13 = some (.iload_n 1, 14, 1, 0, .null) := by decide +kernel
theorem x_248_13 : Tr sc d 248 (13, [l0, some (.int x)], [.ref k0], h) Q = Tr sc d 248 (14, [l0, some (.int x)], [.int x, .ref k0], h) Q := t_iload_n k_248_13 rfl
theorem k_248_14 : lk 248 14 = some (.iaload, 15, 0, 0, .null) := by decide +kernel
theorem x_248_14 : Tr sc d 248 (14, [l0, l1], [.int i1, .ref k0], h) Q = (iOk sc h k0 i1 ∧ Tr sc d 248 (15, [l0, l1], [.int (iRd sc h k0 i1)], h) Q) := t_iald k_248_14
theorem k_248_15 : lk 248 15 = some (.goto 4, 18, 19, 0, .null) := by decide +kernel
theorem x_248_15 : Tr sc d 248 (15, [l0, l1], [.int i0], h) Q = Tr sc d 248 (19, [l0, l1], [.int i0], h) Q := t_go k_248_15 rfl
theorem k_248_18 : lk 248 18 = some (.iconst (-1), 19, 0, 0, .int (-1)) := by decide +kernel
theorem x_248_18 : Tr sc d 248 (18, [l0, l1], [], h) Q = Tr sc d 248 (19, [l0, l1], [.int (-1)], h) Q := t_go k_248_18 rfl
theorem k_248_19 : lk 248 19 = some (.ireturn, 20, 0, 0, .null) := by decide +kernel
theorem x_248_19 : Tr sc d 248 (19, [l0, l1], [.int i0], h) Q = Q (some (.int i0), h) := t_ret k_248_19 (by rw [r_248]; rfl)
theorem e_248 : Tr sc d 248 (ent0 248 [.ref k0, .int i1] h) Q = Tr sc d 248 (0, [some (.ref k0), some (.int i1)], [], h) Q := by
  have e : mL 248 = 2 := by decide +kernel
  unfold ent0
  rw [e]
  rfl
theorem r_249 : mR 249 = none := by decide +kernel
theorem k_249_0 : lk 249 0 = some (.aload_n 0, 1, 0, 0, .null) := by decide +kernel
theorem x_249_0 : Tr sc d 249 (0, [some (.ref xk), l1], [], h) Q = Tr sc d 249 (1, [some (.ref xk), l1], [.ref xk], h) Q := t_aload_n k_249_0 rfl
theorem k_249_1 : lk 249 1 = some (.ldc2_w 368, 4, 0, 1746, .long 31) := by decide +kernel
theorem x_249_1 : Tr sc d 249 (1, [l0, l1], [.ref k0], h) Q = Tr sc d 249 (4, [l0, l1], [.long 31, .ref k0], h) Q := t_go k_249_1 rfl
theorem k_249_4 : lk 249 4 = some (.aload_n 0, 5, 0, 0, .null) := by decide +kernel
theorem x_249_4 : Tr sc d 249 (4, [some (.ref xk), l1], [.long j1, .ref k0], h) Q = Tr sc d 249 (5, [some (.ref xk), l1], [.ref xk, .long j1, .ref k0], h) Q := t_aload_n k_249_4 rfl
theorem k_249_5 : lk 249 5 = some (.getfield 370, 8, 10, 62, .long 0) := by decide +kernel
theorem x_249_5 : Tr sc d 249 (5, [l0, l1], [.ref k2, .long j1, .ref k0], h) Q = (okp h k2 10 = true ∧ Tr sc d 249 (8, [l0, l1], [.long (hL h k2 62), .long j1, .ref k0], h) Q) := t_gd k_249_5 rfl
theorem k_249_8 : lk 249 8 = some (.lmul, 9, 0, 0, .null) := by decide +kernel
theorem x_249_8 : Tr sc d 249 (8, [l0, l1], [.long j2, .long j1, .ref k0], h) Q = Tr sc d 249 (9, [l0, l1], [.long (j1 * j2), .ref k0], h) Q := t_go k_249_8 rfl
theorem k_249_9 : lk 249 9 = some (.iload_n 1, 10, 1, 0, .null) := by decide +kernel
theorem x_249_9 : Tr sc d 249 (9, [l0, some (.int x)], [.long j1, .ref k0], h) Q = Tr sc d 249 (10, [l0, some (.int x)], [.int x, .long j1, .ref k0], h) Q := t_iload_n k_249_9 rfl
theorem k_249_10 : lk 249 10 = some (.i2l, 11, 0, 0, .null) := by decide +kernel
theorem x_249_10 : Tr sc d 249 (10, [l0, l1], [.int i2, .long j1, .ref k0], h) Q = Tr sc d 249 (11, [l0, l1], [.long i2.toInt64, .long j1, .ref k0], h) Q := t_go k_249_10 rfl
theorem k_249_11 : lk 249 11 = some (.ladd, 12, 0, 0, .null) := by decide +kernel
theorem x_249_11 : Tr sc d 249 (11, [l0, l1], [.long j2, .long j1, .ref k0], h) Q = Tr sc d 249 (12, [l0, l1], [.long (j1 + j2), .ref k0], h) Q := t_go k_249_11 rfl
theorem k_249_12 : lk 249 12 = some (.putfield 370, 15, 10, 62, .long 0) := by decide +kernel
theorem x_249_12 : Tr sc d 249 (12, [l0, l1], [.long j1, .ref k0], h) Q = (okp h k0 10 = true ∧ Tr sc d 249 (15, [l0, l1], [], (sL h k0 62 j1)) Q) := t_gd k_249_12 rfl
theorem k_249_15 : lk 249 15 = some (.return_, 16, 0, 0, .null) := by decide +kernel
theorem x_249_15 : Tr sc d 249 (15, [l0, l1], [], h) Q = Q (none, h) := t_ret k_249_15 (by rw [r_249]; rfl)
theorem e_249 : Tr sc d 249 (ent0 249 [.ref k0, .int i1] h) Q = Tr sc d 249 (0, [some (.ref k0), some (.int i1)], [], h) Q := by
  have e : mL 249 = 2 := by decide +kernel
  unfold ent0
  rw [e]
  rfl
theorem r_250 : mR 250 = none := by decide +kernel
theorem k_250_0 : lk 250 0 = some (.aload_n 0, 1, 0, 0, .null) := by decide +kernel
theorem x_250_0 : Tr sc d 250 (0, [some (.ref xk), l1, l2, l3], [], h) Q = Tr sc d 250 (1, [some (.ref xk), l1, l2, l3], [.ref xk], h) Q := t_aload_n k_250_0 rfl
theorem k_250_1 : lk 250 1 = some (.getfield 41, 4, 10, 18, .null) := by decide +kernel
theorem x_250_1 : Tr sc d 250 (1, [l0, l1, l2, l3], [.ref k0], h) Q = (okp h k0 10 = true ∧ ∃ q, hR h k0 18 = some q ∧ Tr sc d 250 (4, [l0, l1, l2, l3], [.ref q], h) Q) := t_getr k_250_1
theorem k_250_4 : lk 250 4 = some (.iload_n 1, 5, 1, 0, .null) := by decide +kernel
theorem x_250_4 : Tr sc d 250 (4, [l0, some (.int x), l2, l3], [.ref k0], h) Q = Tr sc d 250 (5, [l0, some (.int x), l2, l3], [.int x, .ref k0], h) Q := t_iload_n k_250_4 rfl
theorem k_250_5 : lk 250 5 = some (.iaload, 6, 0, 0, .null) := by decide +kernel
theorem x_250_5 : Tr sc d 250 (5, [l0, l1, l2, l3], [.int i1, .ref k0], h) Q = (iOk sc h k0 i1 ∧ Tr sc d 250 (6, [l0, l1, l2, l3], [.int (iRd sc h k0 i1)], h) Q) := t_iald k_250_5
theorem k_250_6 : lk 250 6 = some (.ifCond .ne 9, 9, 15, 0, .null) := by decide +kernel
theorem x_250_6 : Tr sc d 250 (6, [l0, l1, l2, l3], [.int i0], h) Q = if i0 = 0 then Tr sc d 250 (9, [l0, l1, l2, l3], [], h) Q else Tr sc d 250 (15, [l0, l1, l2, l3], [], h) Q := t_if k_250_6 rfl
theorem k_250_9 : lk 250 9 = some (.aload_n 0, 10, 0, 0, .null) := by decide +kernel
theorem x_250_9 : Tr sc d 250 (9, [some (.ref xk), l1, l2, l3], [], h) Q = Tr sc d 250 (10, [some (.ref xk), l1, l2, l3], [.ref xk], h) Q := t_aload_n k_250_9 rfl
theorem k_250_10 : lk 250 10 = some (.iconst (-1), 11, 0, 0, .int (-1)) := by decide +kernel
theorem x_250_10 : Tr sc d 250 (10, [l0, l1, l2, l3], [.ref k0], h) Q = Tr sc d 250 (11, [l0, l1, l2, l3], [.int (-1), .ref k0], h) Q := t_go k_250_10 rfl
theorem k_250_11 : lk 250 11 = some (.invokevirtual 373, 14, 249, 1, .null) := by decide +kernel
theorem x_250_11 : Tr sc (d + 1) 250 (11, [l0, l1, l2, l3], [.int i1, .ref k0], h) Q = (okp h k0 10 = true ∧ Tr sc d 249 (ent0 249 [.ref k0, .int i1] h) (fun z => Tr sc (d + 1) 250 (14, [l0, l1, l2, l3], z.1.toList ++ [], z.2) Q)) := t_cv (as := [.int i1]) (r := []) k_250_11 rfl rfl (Nat.le_of_ble_eq_true rfl) (Nat.le_of_ble_eq_true rfl) (Nat.le_of_ble_eq_true rfl)
theorem k_250_14 : lk 250 14 = some (.return_, 15, 0, 0, .null) := by decide +kernel
theorem x_250_14 : Tr sc d 250 (14, [l0, l1, l2, l3], [], h) Q = Q (none, h) := t_ret k_250_14 (by rw [r_250]; rfl)
theorem k_250_15 : lk 250 15 = some (.aload_n 0, 16, 0, 0, .null) := by decide +kernel
theorem x_250_15 : Tr sc d 250 (15, [some (.ref xk), l1, l2, l3], [], h) Q = Tr sc d 250 (16, [some (.ref xk), l1, l2, l3], [.ref xk], h) Q := t_aload_n k_250_15 rfl
theorem k_250_16 : lk 250 16 = some (.aload_n 0, 17, 0, 0, .null) := by decide +kernel
theorem x_250_16 : Tr sc d 250 (16, [some (.ref xk), l1, l2, l3], [.ref k0], h) Q = Tr sc d 250 (17, [some (.ref xk), l1, l2, l3], [.ref xk, .ref k0], h) Q := t_aload_n k_250_16 rfl
theorem k_250_17 : lk 250 17 = some (.getfield 35, 20, 10, 16, .null) := by decide +kernel
theorem x_250_17 : Tr sc d 250 (17, [l0, l1, l2, l3], [.ref k1, .ref k0], h) Q = (okp h k1 10 = true ∧ ∃ q, hR h k1 16 = some q ∧ Tr sc d 250 (20, [l0, l1, l2, l3], [.ref q, .ref k0], h) Q) := t_getr k_250_17
theorem k_250_20 : lk 250 20 = some (.iload_n 1, 21, 1, 0, .null) := by decide +kernel
theorem x_250_20 : Tr sc d 250 (20, [l0, some (.int x), l2, l3], [.ref k1, .ref k0], h) Q = Tr sc d 250 (21, [l0, some (.int x), l2, l3], [.int x, .ref k1, .ref k0], h) Q := t_iload_n k_250_20 rfl
theorem k_250_21 : lk 250 21 = some (.iaload, 22, 0, 0, .null) := by decide +kernel
theorem x_250_21 : Tr sc d 250 (21, [l0, l1, l2, l3], [.int i2, .ref k1, .ref k0], h) Q = (iOk sc h k1 i2 ∧ Tr sc d 250 (22, [l0, l1, l2, l3], [.int (iRd sc h k1 i2), .ref k0], h) Q) := t_iald k_250_21
theorem k_250_22 : lk 250 22 = some (.invokevirtual 373, 25, 249, 1, .null) := by decide +kernel
theorem x_250_22 : Tr sc (d + 1) 250 (22, [l0, l1, l2, l3], [.int i1, .ref k0], h) Q = (okp h k0 10 = true ∧ Tr sc d 249 (ent0 249 [.ref k0, .int i1] h) (fun z => Tr sc (d + 1) 250 (25, [l0, l1, l2, l3], z.1.toList ++ [], z.2) Q)) := t_cv (as := [.int i1]) (r := []) k_250_22 rfl rfl (Nat.le_of_ble_eq_true rfl) (Nat.le_of_ble_eq_true rfl) (Nat.le_of_ble_eq_true rfl)
theorem k_250_25 : lk 250 25 = some (.aload_n 0, 26, 0, 0, .null) := by decide +kernel
theorem x_250_25 : Tr sc d 250 (25, [some (.ref xk), l1, l2, l3], [], h) Q = Tr sc d 250 (26, [some (.ref xk), l1, l2, l3], [.ref xk], h) Q := t_aload_n k_250_25 rfl
theorem k_250_26 : lk 250 26 = some (.aload_n 0, 27, 0, 0, .null) := by decide +kernel
theorem x_250_26 : Tr sc d 250 (26, [some (.ref xk), l1, l2, l3], [.ref k0], h) Q = Tr sc d 250 (27, [some (.ref xk), l1, l2, l3], [.ref xk, .ref k0], h) Q := t_aload_n k_250_26 rfl
theorem k_250_27 : lk 250 27 = some (.getfield 38, 30, 10, 17, .null) := by decide +kernel
theorem x_250_27 : Tr sc d 250 (27, [l0, l1, l2, l3], [.ref k1, .ref k0], h) Q = (okp h k1 10 = true ∧ ∃ q, hR h k1 17 = some q ∧ Tr sc d 250 (30, [l0, l1, l2, l3], [.ref q, .ref k0], h) Q) := t_getr k_250_27
theorem k_250_30 : lk 250 30 = some (.iload_n 1, 31, 1, 0, .null) := by decide +kernel
theorem x_250_30 : Tr sc d 250 (30, [l0, some (.int x), l2, l3], [.ref k1, .ref k0], h) Q = Tr sc d 250 (31, [l0, some (.int x), l2, l3], [.int x, .ref k1, .ref k0], h) Q := t_iload_n k_250_30 rfl
theorem k_250_31 : lk 250 31 = some (.iaload, 32, 0, 0, .null) := by decide +kernel
theorem x_250_31 : Tr sc d 250 (31, [l0, l1, l2, l3], [.int i2, .ref k1, .ref k0], h) Q = (iOk sc h k1 i2 ∧ Tr sc d 250 (32, [l0, l1, l2, l3], [.int (iRd sc h k1 i2), .ref k0], h) Q) := t_iald k_250_31
theorem k_250_32 : lk 250 32 = some (.invokevirtual 373, 35, 249, 1, .null) := by decide +kernel
theorem x_250_32 : Tr sc (d + 1) 250 (32, [l0, l1, l2, l3], [.int i1, .ref k0], h) Q = (okp h k0 10 = true ∧ Tr sc d 249 (ent0 249 [.ref k0, .int i1] h) (fun z => Tr sc (d + 1) 250 (35, [l0, l1, l2, l3], z.1.toList ++ [], z.2) Q)) := t_cv (as := [.int i1]) (r := []) k_250_32 rfl rfl (Nat.le_of_ble_eq_true rfl) (Nat.le_of_ble_eq_true rfl) (Nat.le_of_ble_eq_true rfl)
theorem k_250_35 : lk 250 35 = some (.aload_n 0, 36, 0, 0, .null) := by decide +kernel
theorem x_250_35 : Tr sc d 250 (35, [some (.ref xk), l1, l2, l3], [], h) Q = Tr sc d 250 (36, [some (.ref xk), l1, l2, l3], [.ref xk], h) Q := t_aload_n k_250_35 rfl
theorem k_250_36 : lk 250 36 = some (.aload_n 0, 37, 0, 0, .null) := by decide +kernel
theorem x_250_36 : Tr sc d 250 (36, [some (.ref xk), l1, l2, l3], [.ref k0], h) Q = Tr sc d 250 (37, [some (.ref xk), l1, l2, l3], [.ref xk, .ref k0], h) Q := t_aload_n k_250_36 rfl
theorem k_250_37 : lk 250 37 = some (.getfield 41, 40, 10, 18, .null) := by decide +kernel
theorem x_250_37 : Tr sc d 250 (37, [l0, l1, l2, l3], [.ref k1, .ref k0], h) Q = (okp h k1 10 = true ∧ ∃ q, hR h k1 18 = some q ∧ Tr sc d 250 (40, [l0, l1, l2, l3], [.ref q, .ref k0], h) Q) := t_getr k_250_37
theorem k_250_40 : lk 250 40 = some (.iload_n 1, 41, 1, 0, .null) := by decide +kernel
theorem x_250_40 : Tr sc d 250 (40, [l0, some (.int x), l2, l3], [.ref k1, .ref k0], h) Q = Tr sc d 250 (41, [l0, some (.int x), l2, l3], [.int x, .ref k1, .ref k0], h) Q := t_iload_n k_250_40 rfl
theorem k_250_41 : lk 250 41 = some (.iaload, 42, 0, 0, .null) := by decide +kernel
theorem x_250_41 : Tr sc d 250 (41, [l0, l1, l2, l3], [.int i2, .ref k1, .ref k0], h) Q = (iOk sc h k1 i2 ∧ Tr sc d 250 (42, [l0, l1, l2, l3], [.int (iRd sc h k1 i2), .ref k0], h) Q) := t_iald k_250_41
theorem k_250_42 : lk 250 42 = some (.invokevirtual 373, 45, 249, 1, .null) := by decide +kernel
theorem x_250_42 : Tr sc (d + 1) 250 (42, [l0, l1, l2, l3], [.int i1, .ref k0], h) Q = (okp h k0 10 = true ∧ Tr sc d 249 (ent0 249 [.ref k0, .int i1] h) (fun z => Tr sc (d + 1) 250 (45, [l0, l1, l2, l3], z.1.toList ++ [], z.2) Q)) := t_cv (as := [.int i1]) (r := []) k_250_42 rfl rfl (Nat.le_of_ble_eq_true rfl) (Nat.le_of_ble_eq_true rfl) (Nat.le_of_ble_eq_true rfl)
theorem k_250_45 : lk 250 45 = some (.iconst 0, 46, 0, 0, .int 0) := by decide +kernel
theorem x_250_45 : Tr sc d 250 (45, [l0, l1, l2, l3], [], h) Q = Tr sc d 250 (46, [l0, l1, l2, l3], [.int 0], h) Q := t_go k_250_45 rfl
theorem k_250_46 : lk 250 46 = some (.istore_n 2, 47, 2, 0, .null) := by decide +kernel
theorem x_250_46 : Tr sc d 250 (46, [l0, l1, l2, l3], [.int i0], h) Q = Tr sc d 250 (47, [l0, cl2 l1, some (.int i0), l3], [], h) Q := t_istore_n k_250_46 (Nat.le_of_ble_eq_true rfl)
theorem k_250_47 : lk 250 47 = some (.iload_n 2, 48, 2, 0, .null) := by decide +kernel
theorem x_250_47 : Tr sc d 250 (47, [l0, l1, some (.int x), l3], [], h) Q = Tr sc d 250 (48, [l0, l1, some (.int x), l3], [.int x], h) Q := t_iload_n k_250_47 rfl
theorem k_250_48 : lk 250 48 = some (.aload_n 0, 49, 0, 0, .null) := by decide +kernel
theorem x_250_48 : Tr sc d 250 (48, [some (.ref xk), l1, l2, l3], [.int i0], h) Q = Tr sc d 250 (49, [some (.ref xk), l1, l2, l3], [.ref xk, .int i0], h) Q := t_aload_n k_250_48 rfl
theorem k_250_49 : lk 250 49 = some (.getfield 41, 52, 10, 18, .null) := by decide +kernel
theorem x_250_49 : Tr sc d 250 (49, [l0, l1, l2, l3], [.ref k1, .int i0], h) Q = (okp h k1 10 = true ∧ ∃ q, hR h k1 18 = some q ∧ Tr sc d 250 (52, [l0, l1, l2, l3], [.ref q, .int i0], h) Q) := t_getr k_250_49
theorem k_250_52 : lk 250 52 = some (.iload_n 1, 53, 1, 0, .null) := by decide +kernel
theorem x_250_52 : Tr sc d 250 (52, [l0, some (.int x), l2, l3], [.ref k1, .int i0], h) Q = Tr sc d 250 (53, [l0, some (.int x), l2, l3], [.int x, .ref k1, .int i0], h) Q := t_iload_n k_250_52 rfl
theorem k_250_53 : lk 250 53 = some (.iaload, 54, 0, 0, .null) := by decide +kernel
theorem x_250_53 : Tr sc d 250 (53, [l0, l1, l2, l3], [.int i2, .ref k1, .int i0], h) Q = (iOk sc h k1 i2 ∧ Tr sc d 250 (54, [l0, l1, l2, l3], [.int (iRd sc h k1 i2), .int i0], h) Q) := t_iald k_250_53
theorem k_250_54 : lk 250 54 = some (.if_icmp .ge 76, 57, 130, 0, .null) := by decide +kernel
theorem x_250_54 : Tr sc d 250 (54, [l0, l1, l2, l3], [.int i1, .int i0], h) Q = if i1 ≤ i0 then Tr sc d 250 (130, [l0, l1, l2, l3], [], h) Q else Tr sc d 250 (57, [l0, l1, l2, l3], [], h) Q := t_if k_250_54 rfl
theorem k_250_57 : lk 250 57 = some (.bipush 6, 59, 0, 0, .int 6) := by decide +kernel
theorem x_250_57 : Tr sc d 250 (57, [l0, l1, l2, l3], [], h) Q = Tr sc d 250 (59, [l0, l1, l2, l3], [.int 6], h) Q := t_go k_250_57 rfl
theorem k_250_59 : lk 250 59 = some (.iload_n 1, 60, 1, 0, .null) := by decide +kernel
theorem x_250_59 : Tr sc d 250 (59, [l0, some (.int x), l2, l3], [.int i0], h) Q = Tr sc d 250 (60, [l0, some (.int x), l2, l3], [.int x, .int i0], h) Q := t_iload_n k_250_59 rfl
theorem k_250_60 : lk 250 60 = some (.imul, 61, 0, 0, .null) := by decide +kernel
theorem x_250_60 : Tr sc d 250 (60, [l0, l1, l2, l3], [.int i1, .int i0], h) Q = Tr sc d 250 (61, [l0, l1, l2, l3], [.int (i0 * i1)], h) Q := t_go k_250_60 rfl
theorem k_250_61 : lk 250 61 = some (.iload_n 2, 62, 2, 0, .null) := by decide +kernel
theorem x_250_61 : Tr sc d 250 (61, [l0, l1, some (.int x), l3], [.int i0], h) Q = Tr sc d 250 (62, [l0, l1, some (.int x), l3], [.int x, .int i0], h) Q := t_iload_n k_250_61 rfl
theorem k_250_62 : lk 250 62 = some (.iadd, 63, 0, 0, .null) := by decide +kernel
theorem x_250_62 : Tr sc d 250 (62, [l0, l1, l2, l3], [.int i1, .int i0], h) Q = Tr sc d 250 (63, [l0, l1, l2, l3], [.int (i0 + i1)], h) Q := t_go k_250_62 rfl
theorem k_250_63 : lk 250 63 = some (.istore_n 3, 64, 3, 0, .null) := by decide +kernel
theorem x_250_63 : Tr sc d 250 (63, [l0, l1, l2, l3], [.int i0], h) Q = Tr sc d 250 (64, [l0, l1, cl2 l2, some (.int i0)], [], h) Q := t_istore_n k_250_63 (Nat.le_of_ble_eq_true rfl)
theorem k_250_64 : lk 250 64 = some (.aload_n 0, 65, 0, 0, .null) := by decide +kernel
theorem x_250_64 : Tr sc d 250 (64, [some (.ref xk), l1, l2, l3], [], h) Q = Tr sc d 250 (65, [some (.ref xk), l1, l2, l3], [.ref xk], h) Q := t_aload_n k_250_64 rfl
theorem k_250_65 : lk 250 65 = some (.aload_n 0, 66, 0, 0, .null) := by decide +kernel
theorem x_250_65 : Tr sc d 250 (65, [some (.ref xk), l1, l2, l3], [.ref k0], h) Q = Tr sc d 250 (66, [some (.ref xk), l1, l2, l3], [.ref xk, .ref k0], h) Q := t_aload_n k_250_65 rfl
theorem k_250_66 : lk 250 66 = some (.getfield 44, 69, 10, 19, .null) := by decide +kernel
theorem x_250_66 : Tr sc d 250 (66, [l0, l1, l2, l3], [.ref k1, .ref k0], h) Q = (okp h k1 10 = true ∧ ∃ q, hR h k1 19 = some q ∧ Tr sc d 250 (69, [l0, l1, l2, l3], [.ref q, .ref k0], h) Q) := t_getr k_250_66
theorem k_250_69 : lk 250 69 = some (.iload_n 3, 70, 3, 0, .null) := by decide +kernel
theorem x_250_69 : Tr sc d 250 (69, [l0, l1, l2, some (.int x)], [.ref k1, .ref k0], h) Q = Tr sc d 250 (70, [l0, l1, l2, some (.int x)], [.int x, .ref k1, .ref k0], h) Q := t_iload_n k_250_69 rfl
theorem k_250_70 : lk 250 70 = some (.iaload, 71, 0, 0, .null) := by decide +kernel
theorem x_250_70 : Tr sc d 250 (70, [l0, l1, l2, l3], [.int i2, .ref k1, .ref k0], h) Q = (iOk sc h k1 i2 ∧ Tr sc d 250 (71, [l0, l1, l2, l3], [.int (iRd sc h k1 i2), .ref k0], h) Q) := t_iald k_250_70
theorem k_250_71 : lk 250 71 = some (.invokevirtual 373, 74, 249, 1, .null) := by decide +kernel
theorem x_250_71 : Tr sc (d + 1) 250 (71, [l0, l1, l2, l3], [.int i1, .ref k0], h) Q = (okp h k0 10 = true ∧ Tr sc d 249 (ent0 249 [.ref k0, .int i1] h) (fun z => Tr sc (d + 1) 250 (74, [l0, l1, l2, l3], z.1.toList ++ [], z.2) Q)) := t_cv (as := [.int i1]) (r := []) k_250_71 rfl rfl (Nat.le_of_ble_eq_true rfl) (Nat.le_of_ble_eq_true rfl) (Nat.le_of_ble_eq_true rfl)
theorem k_250_74 : lk 250 74 = some (.aload_n 0, 75, 0, 0, .null) := by decide +kernel
theorem x_250_74 : Tr sc d 250 (74, [some (.ref xk), l1, l2, l3], [], h) Q = Tr sc d 250 (75, [some (.ref xk), l1, l2, l3], [.ref xk], h) Q := t_aload_n k_250_74 rfl
theorem k_250_75 : lk 250 75 = some (.aload_n 0, 76, 0, 0, .null) := by decide +kernel
theorem x_250_75 : Tr sc d 250 (75, [some (.ref xk), l1, l2, l3], [.ref k0], h) Q = Tr sc d 250 (76, [some (.ref xk), l1, l2, l3], [.ref xk, .ref k0], h) Q := t_aload_n k_250_75 rfl
theorem k_250_76 : lk 250 76 = some (.getfield 47, 79, 10, 20, .null) := by decide +kernel
theorem x_250_76 : Tr sc d 250 (76, [l0, l1, l2, l3], [.ref k1, .ref k0], h) Q = (okp h k1 10 = true ∧ ∃ q, hR h k1 20 = some q ∧ Tr sc d 250 (79, [l0, l1, l2, l3], [.ref q, .ref k0], h) Q) := t_getr k_250_76
theorem k_250_79 : lk 250 79 = some (.iload_n 3, 80, 3, 0, .null) := by decide +kernel
theorem x_250_79 : Tr sc d 250 (79, [l0, l1, l2, some (.int x)], [.ref k1, .ref k0], h) Q = Tr sc d 250 (80, [l0, l1, l2, some (.int x)], [.int x, .ref k1, .ref k0], h) Q := t_iload_n k_250_79 rfl
theorem k_250_80 : lk 250 80 = some (.iaload, 81, 0, 0, .null) := by decide +kernel
theorem x_250_80 : Tr sc d 250 (80, [l0, l1, l2, l3], [.int i2, .ref k1, .ref k0], h) Q = (iOk sc h k1 i2 ∧ Tr sc d 250 (81, [l0, l1, l2, l3], [.int (iRd sc h k1 i2), .ref k0], h) Q) := t_iald k_250_80
theorem k_250_81 : lk 250 81 = some (.invokevirtual 373, 84, 249, 1, .null) := by decide +kernel
theorem x_250_81 : Tr sc (d + 1) 250 (81, [l0, l1, l2, l3], [.int i1, .ref k0], h) Q = (okp h k0 10 = true ∧ Tr sc d 249 (ent0 249 [.ref k0, .int i1] h) (fun z => Tr sc (d + 1) 250 (84, [l0, l1, l2, l3], z.1.toList ++ [], z.2) Q)) := t_cv (as := [.int i1]) (r := []) k_250_81 rfl rfl (Nat.le_of_ble_eq_true rfl) (Nat.le_of_ble_eq_true rfl) (Nat.le_of_ble_eq_true rfl)
theorem k_250_84 : lk 250 84 = some (.aload_n 0, 85, 0, 0, .null) := by decide +kernel
theorem x_250_84 : Tr sc d 250 (84, [some (.ref xk), l1, l2, l3], [], h) Q = Tr sc d 250 (85, [some (.ref xk), l1, l2, l3], [.ref xk], h) Q := t_aload_n k_250_84 rfl
theorem k_250_85 : lk 250 85 = some (.aload_n 0, 86, 0, 0, .null) := by decide +kernel
theorem x_250_85 : Tr sc d 250 (85, [some (.ref xk), l1, l2, l3], [.ref k0], h) Q = Tr sc d 250 (86, [some (.ref xk), l1, l2, l3], [.ref xk, .ref k0], h) Q := t_aload_n k_250_85 rfl
theorem k_250_86 : lk 250 86 = some (.getfield 50, 89, 10, 21, .null) := by decide +kernel
theorem x_250_86 : Tr sc d 250 (86, [l0, l1, l2, l3], [.ref k1, .ref k0], h) Q = (okp h k1 10 = true ∧ ∃ q, hR h k1 21 = some q ∧ Tr sc d 250 (89, [l0, l1, l2, l3], [.ref q, .ref k0], h) Q) := t_getr k_250_86
theorem k_250_89 : lk 250 89 = some (.iload_n 3, 90, 3, 0, .null) := by decide +kernel
theorem x_250_89 : Tr sc d 250 (89, [l0, l1, l2, some (.int x)], [.ref k1, .ref k0], h) Q = Tr sc d 250 (90, [l0, l1, l2, some (.int x)], [.int x, .ref k1, .ref k0], h) Q := t_iload_n k_250_89 rfl
theorem k_250_90 : lk 250 90 = some (.iaload, 91, 0, 0, .null) := by decide +kernel
theorem x_250_90 : Tr sc d 250 (90, [l0, l1, l2, l3], [.int i2, .ref k1, .ref k0], h) Q = (iOk sc h k1 i2 ∧ Tr sc d 250 (91, [l0, l1, l2, l3], [.int (iRd sc h k1 i2), .ref k0], h) Q) := t_iald k_250_90
theorem k_250_91 : lk 250 91 = some (.invokevirtual 373, 94, 249, 1, .null) := by decide +kernel
theorem x_250_91 : Tr sc (d + 1) 250 (91, [l0, l1, l2, l3], [.int i1, .ref k0], h) Q = (okp h k0 10 = true ∧ Tr sc d 249 (ent0 249 [.ref k0, .int i1] h) (fun z => Tr sc (d + 1) 250 (94, [l0, l1, l2, l3], z.1.toList ++ [], z.2) Q)) := t_cv (as := [.int i1]) (r := []) k_250_91 rfl rfl (Nat.le_of_ble_eq_true rfl) (Nat.le_of_ble_eq_true rfl) (Nat.le_of_ble_eq_true rfl)
theorem k_250_94 : lk 250 94 = some (.aload_n 0, 95, 0, 0, .null) := by decide +kernel
theorem x_250_94 : Tr sc d 250 (94, [some (.ref xk), l1, l2, l3], [], h) Q = Tr sc d 250 (95, [some (.ref xk), l1, l2, l3], [.ref xk], h) Q := t_aload_n k_250_94 rfl
theorem k_250_95 : lk 250 95 = some (.getfield 35, 98, 10, 16, .null) := by decide +kernel
theorem x_250_95 : Tr sc d 250 (95, [l0, l1, l2, l3], [.ref k0], h) Q = (okp h k0 10 = true ∧ ∃ q, hR h k0 16 = some q ∧ Tr sc d 250 (98, [l0, l1, l2, l3], [.ref q], h) Q) := t_getr k_250_95
theorem k_250_98 : lk 250 98 = some (.iload_n 1, 99, 1, 0, .null) := by decide +kernel
theorem x_250_98 : Tr sc d 250 (98, [l0, some (.int x), l2, l3], [.ref k0], h) Q = Tr sc d 250 (99, [l0, some (.int x), l2, l3], [.int x, .ref k0], h) Q := t_iload_n k_250_98 rfl
theorem k_250_99 : lk 250 99 = some (.iaload, 100, 0, 0, .null) := by decide +kernel
theorem x_250_99 : Tr sc d 250 (99, [l0, l1, l2, l3], [.int i1, .ref k0], h) Q = (iOk sc h k0 i1 ∧ Tr sc d 250 (100, [l0, l1, l2, l3], [.int (iRd sc h k0 i1)], h) Q) := t_iald k_250_99
theorem k_250_100 : lk 250 100 = some (.iconst 3, 101, 0, 0, .int 3) := by decide +kernel
theorem x_250_100 : Tr sc d 250 (100, [l0, l1, l2, l3], [.int i0], h) Q = Tr sc d 250 (101, [l0, l1, l2, l3], [.int 3, .int i0], h) Q := t_go k_250_100 rfl
theorem k_250_101 : lk 250 101 = some (.if_icmp .eq 13, 104, 114, 0, .null) := by decide +kernel
theorem x_250_101 : Tr sc d 250 (101, [l0, l1, l2, l3], [.int i1, .int i0], h) Q = if i0 = i1 then Tr sc d 250 (114, [l0, l1, l2, l3], [], h) Q else Tr sc d 250 (104, [l0, l1, l2, l3], [], h) Q := t_if k_250_101 rfl
theorem k_250_104 : lk 250 104 = some (.aload_n 0, 105, 0, 0, .null) := by decide +kernel
theorem x_250_104 : Tr sc d 250 (104, [some (.ref xk), l1, l2, l3], [], h) Q = Tr sc d 250 (105, [some (.ref xk), l1, l2, l3], [.ref xk], h) Q := t_aload_n k_250_104 rfl
theorem k_250_105 : lk 250 105 = some (.getfield 35, 108, 10, 16, .null) := by decide +kernel
theorem x_250_105 : Tr sc d 250 (105, [l0, l1, l2, l3], [.ref k0], h) Q = (okp h k0 10 = true ∧ ∃ q, hR h k0 16 = some q ∧ Tr sc d 250 (108, [l0, l1, l2, l3], [.ref q], h) Q) := t_getr k_250_105
theorem k_250_108 : lk 250 108 = some (.iload_n 1, 109, 1, 0, .null) := by decide +kernel
theorem x_250_108 : Tr sc d 250 (108, [l0, some (.int x), l2, l3], [.ref k0], h) Q = Tr sc d 250 (109, [l0, some (.int x), l2, l3], [.int x, .ref k0], h) Q := t_iload_n k_250_108 rfl
theorem k_250_109 : lk 250 109 = some (.iaload, 110, 0, 0, .null) := by decide +kernel
theorem x_250_109 : Tr sc d 250 (109, [l0, l1, l2, l3], [.int i1, .ref k0], h) Q = (iOk sc h k0 i1 ∧ Tr sc d 250 (110, [l0, l1, l2, l3], [.int (iRd sc h k0 i1)], h) Q) := t_iald k_250_109
theorem k_250_110 : lk 250 110 = some (.iconst 4, 111, 0, 0, .int 4) := by decide +kernel
theorem x_250_110 : Tr sc d 250 (110, [l0, l1, l2, l3], [.int i0], h) Q = Tr sc d 250 (111, [l0, l1, l2, l3], [.int 4, .int i0], h) Q := t_go k_250_110 rfl
theorem k_250_111 : lk 250 111 = some (.if_icmp .ne 13, 114, 124, 0, .null) := by decide +kernel
theorem x_250_111 : Tr sc d 250 (111, [l0, l1, l2, l3], [.int i1, .int i0], h) Q = if i0 = i1 then Tr sc d 250 (114, [l0, l1, l2, l3], [], h) Q else Tr sc d 250 (124, [l0, l1, l2, l3], [], h) Q := t_if k_250_111 rfl
theorem k_250_114 : lk 250 114 = some (.aload_n 0, 115, 0, 0, .null) := by decide +kernel
theorem x_250_114 : Tr sc d 250 (114, [some (.ref xk), l1, l2, l3], [], h) Q = Tr sc d 250 (115, [some (.ref xk), l1, l2, l3], [.ref xk], h) Q := t_aload_n k_250_114 rfl
theorem k_250_115 : lk 250 115 = some (.aload_n 0, 116, 0, 0, .null) := by decide +kernel
theorem x_250_115 : Tr sc d 250 (115, [some (.ref xk), l1, l2, l3], [.ref k0], h) Q = Tr sc d 250 (116, [some (.ref xk), l1, l2, l3], [.ref xk, .ref k0], h) Q := t_aload_n k_250_115 rfl
theorem k_250_116 : lk 250 116 = some (.getfield 53, 119, 10, 22, .null) := by decide +kernel
theorem x_250_116 : Tr sc d 250 (116, [l0, l1, l2, l3], [.ref k1, .ref k0], h) Q = (okp h k1 10 = true ∧ ∃ q, hR h k1 22 = some q ∧ Tr sc d 250 (119, [l0, l1, l2, l3], [.ref q, .ref k0], h) Q) := t_getr k_250_116
theorem k_250_119 : lk 250 119 = some (.iload_n 3, 120, 3, 0, .null) := by decide +kernel
theorem x_250_119 : Tr sc d 250 (119, [l0, l1, l2, some (.int x)], [.ref k1, .ref k0], h) Q = Tr sc d 250 (120, [l0, l1, l2, some (.int x)], [.int x, .ref k1, .ref k0], h) Q := t_iload_n k_250_119 rfl
theorem k_250_120 : lk 250 120 = some (.iaload, 121, 0, 0, .null) := by decide +kernel
theorem x_250_120 : Tr sc d 250 (120, [l0, l1, l2, l3], [.int i2, .ref k1, .ref k0], h) Q = (iOk sc h k1 i2 ∧ Tr sc d 250 (121, [l0, l1, l2, l3], [.int (iRd sc h k1 i2), .ref k0], h) Q) := t_iald k_250_120
theorem k_250_121 : lk 250 121 = some (.invokevirtual 373, 124, 249, 1, .null) := by decide +kernel
theorem x_250_121 : Tr sc (d + 1) 250 (121, [l0, l1, l2, l3], [.int i1, .ref k0], h) Q = (okp h k0 10 = true ∧ Tr sc d 249 (ent0 249 [.ref k0, .int i1] h) (fun z => Tr sc (d + 1) 250 (124, [l0, l1, l2, l3], z.1.toList ++ [], z.2) Q)) := t_cv (as := [.int i1]) (r := []) k_250_121 rfl rfl (Nat.le_of_ble_eq_true rfl) (Nat.le_of_ble_eq_true rfl) (Nat.le_of_ble_eq_true rfl)
theorem k_250_124 : lk 250 124 = some (.iinc 2 1, 127, 2, 0, .int 1) := by decide +kernel
theorem x_250_124 : Tr sc d 250 (124, [l0, l1, some (.int x), l3], [], h) Q = Tr sc d 250 (127, [l0, cl2 l1, some (.int (x + 1)), l3], [], h) Q := t_inc k_250_124 rfl (Nat.le_of_ble_eq_true rfl)
theorem k_250_127 : lk 250 127 = some (.goto (-80), 130, 47, 0, .null) := by decide +kernel
theorem x_250_127 : Tr sc d 250 (127, [l0, l1, l2, l3], [], h) Q = Tr sc d 250 (47, [l0, l1, l2, l3], [], h) Q := t_go k_250_127 rfl
theorem k_250_130 : lk 250 130 = some (.return_, 131, 0, 0, .null) := by decide +kernel
theorem x_250_130 : Tr sc d 250 (130, [l0, l1, l2, l3], [], h) Q = Q (none, h) := t_ret k_250_130 (by rw [r_250]; rfl)
theorem e_250 : Tr sc d 250 (ent0 250 [.ref k0, .int i1] h) Q = Tr sc d 250 (0, [some (.ref k0), some (.int i1), none, none], [], h) Q := by
  have e : mL 250 = 4 := by decide +kernel
  unfold ent0
  rw [e]
  rfl
theorem r_251 : mR 251 = some .long := by decide +kernel
theorem k_251_0 : lk 251 0 = some (.aload_n 0, 1, 0, 0, .null) := by decide +kernel
theorem x_251_0 : Tr sc d 251 (0, [some (.ref xk), l1, l2], [], h) Q = Tr sc d 251 (1, [some (.ref xk), l1, l2], [.ref xk], h) Q := t_aload_n k_251_0 rfl
theorem k_251_1 : lk 251 1 = some (.ldc2_w 376, 4, 0, 1737, .long 17) := by decide +kernel
theorem x_251_1 : Tr sc d 251 (1, [l0, l1, l2], [.ref k0], h) Q = Tr sc d 251 (4, [l0, l1, l2], [.long 17, .ref k0], h) Q := t_go k_251_1 rfl
theorem k_251_4 : lk 251 4 = some (.putfield 370, 7, 10, 62, .long 0) := by decide +kernel
theorem x_251_4 : Tr sc d 251 (4, [l0, l1, l2], [.long j1, .ref k0], h) Q = (okp h k0 10 = true ∧ Tr sc d 251 (7, [l0, l1, l2], [], (sL h k0 62 j1)) Q) := t_gd k_251_4 rfl
theorem k_251_7 : lk 251 7 = some (.iconst 0, 8, 0, 0, .int 0) := by decide +kernel
theorem x_251_7 : Tr sc d 251 (7, [l0, l1, l2], [], h) Q = Tr sc d 251 (8, [l0, l1, l2], [.int 0], h) Q := t_go k_251_7 rfl
theorem k_251_8 : lk 251 8 = some (.istore_n 1, 9, 1, 0, .null) := by decide +kernel
theorem x_251_8 : Tr sc d 251 (8, [l0, l1, l2], [.int i0], h) Q = Tr sc d 251 (9, [cl2 l0, some (.int i0), l2], [], h) Q := t_istore_n k_251_8 (Nat.le_of_ble_eq_true rfl)
theorem k_251_9 : lk 251 9 = some (.iload_n 1, 10, 1, 0, .null) := by decide +kernel
theorem x_251_9 : Tr sc d 251 (9, [l0, some (.int x), l2], [], h) Q = Tr sc d 251 (10, [l0, some (.int x), l2], [.int x], h) Q := t_iload_n k_251_9 rfl
theorem k_251_10 : lk 251 10 = some (.bipush 8, 12, 0, 0, .int 8) := by decide +kernel
theorem x_251_10 : Tr sc d 251 (10, [l0, l1, l2], [.int i0], h) Q = Tr sc d 251 (12, [l0, l1, l2], [.int 8, .int i0], h) Q := t_go k_251_10 rfl
theorem k_251_12 : lk 251 12 = some (.if_icmp .ge 14, 15, 26, 0, .null) := by decide +kernel
theorem x_251_12 : Tr sc d 251 (12, [l0, l1, l2], [.int i1, .int i0], h) Q = if i1 ≤ i0 then Tr sc d 251 (26, [l0, l1, l2], [], h) Q else Tr sc d 251 (15, [l0, l1, l2], [], h) Q := t_if k_251_12 rfl
theorem k_251_15 : lk 251 15 = some (.aload_n 0, 16, 0, 0, .null) := by decide +kernel
theorem x_251_15 : Tr sc d 251 (15, [some (.ref xk), l1, l2], [], h) Q = Tr sc d 251 (16, [some (.ref xk), l1, l2], [.ref xk], h) Q := t_aload_n k_251_15 rfl
theorem k_251_16 : lk 251 16 = some (.iload_n 1, 17, 1, 0, .null) := by decide +kernel
theorem x_251_16 : Tr sc d 251 (16, [l0, some (.int x), l2], [.ref k0], h) Q = Tr sc d 251 (17, [l0, some (.int x), l2], [.int x, .ref k0], h) Q := t_iload_n k_251_16 rfl
theorem k_251_17 : lk 251 17 = some (.invokevirtual 378, 20, 250, 1, .null) := by decide +kernel
theorem x_251_17 : Tr sc (d + 1) 251 (17, [l0, l1, l2], [.int i1, .ref k0], h) Q = (okp h k0 10 = true ∧ Tr sc d 250 (ent0 250 [.ref k0, .int i1] h) (fun z => Tr sc (d + 1) 251 (20, [l0, l1, l2], z.1.toList ++ [], z.2) Q)) := t_cv (as := [.int i1]) (r := []) k_251_17 rfl rfl (Nat.le_of_ble_eq_true rfl) (Nat.le_of_ble_eq_true rfl) (Nat.le_of_ble_eq_true rfl)
theorem k_251_20 : lk 251 20 = some (.iinc 1 1, 23, 1, 0, .int 1) := by decide +kernel
theorem x_251_20 : Tr sc d 251 (20, [l0, some (.int x), l2], [], h) Q = Tr sc d 251 (23, [cl2 l0, some (.int (x + 1)), l2], [], h) Q := t_inc k_251_20 rfl (Nat.le_of_ble_eq_true rfl)
theorem k_251_23 : lk 251 23 = some (.goto (-14), 26, 9, 0, .null) := by decide +kernel
theorem x_251_23 : Tr sc d 251 (23, [l0, l1, l2], [], h) Q = Tr sc d 251 (9, [l0, l1, l2], [], h) Q := t_go k_251_23 rfl
theorem k_251_26 : lk 251 26 = some (.iconst 0, 27, 0, 0, .int 0) := by decide +kernel
theorem x_251_26 : Tr sc d 251 (26, [l0, l1, l2], [], h) Q = Tr sc d 251 (27, [l0, l1, l2], [.int 0], h) Q := t_go k_251_26 rfl
theorem k_251_27 : lk 251 27 = some (.istore_n 1, 28, 1, 0, .null) := by decide +kernel
theorem x_251_27 : Tr sc d 251 (27, [l0, l1, l2], [.int i0], h) Q = Tr sc d 251 (28, [cl2 l0, some (.int i0), l2], [], h) Q := t_istore_n k_251_27 (Nat.le_of_ble_eq_true rfl)
theorem k_251_28 : lk 251 28 = some (.iload_n 1, 29, 1, 0, .null) := by decide +kernel
theorem x_251_28 : Tr sc d 251 (28, [l0, some (.int x), l2], [], h) Q = Tr sc d 251 (29, [l0, some (.int x), l2], [.int x], h) Q := t_iload_n k_251_28 rfl
theorem k_251_29 : lk 251 29 = some (.bipush 6, 31, 0, 0, .int 6) := by decide +kernel
theorem x_251_29 : Tr sc d 251 (29, [l0, l1, l2], [.int i0], h) Q = Tr sc d 251 (31, [l0, l1, l2], [.int 6, .int i0], h) Q := t_go k_251_29 rfl
theorem k_251_31 : lk 251 31 = some (.if_icmp .ge 65, 34, 96, 0, .null) := by decide +kernel
theorem x_251_31 : Tr sc d 251 (31, [l0, l1, l2], [.int i1, .int i0], h) Q = if i1 ≤ i0 then Tr sc d 251 (96, [l0, l1, l2], [], h) Q else Tr sc d 251 (34, [l0, l1, l2], [], h) Q := t_if k_251_31 rfl
theorem k_251_34 : lk 251 34 = some (.aload_n 0, 35, 0, 0, .null) := by decide +kernel
theorem x_251_34 : Tr sc d 251 (34, [some (.ref xk), l1, l2], [], h) Q = Tr sc d 251 (35, [some (.ref xk), l1, l2], [.ref xk], h) Q := t_aload_n k_251_34 rfl
theorem k_251_35 : lk 251 35 = some (.aload_n 0, 36, 0, 0, .null) := by decide +kernel
theorem x_251_35 : Tr sc d 251 (35, [some (.ref xk), l1, l2], [.ref k0], h) Q = Tr sc d 251 (36, [some (.ref xk), l1, l2], [.ref xk, .ref k0], h) Q := t_aload_n k_251_35 rfl
theorem k_251_36 : lk 251 36 = some (.getfield 17, 39, 10, 6, .null) := by decide +kernel
theorem x_251_36 : Tr sc d 251 (36, [l0, l1, l2], [.ref k1, .ref k0], h) Q = (okp h k1 10 = true ∧ ∃ q, hR h k1 6 = some q ∧ Tr sc d 251 (39, [l0, l1, l2], [.ref q, .ref k0], h) Q) := t_getr k_251_36
theorem k_251_39 : lk 251 39 = some (.iload_n 1, 40, 1, 0, .null) := by decide +kernel
theorem x_251_39 : Tr sc d 251 (39, [l0, some (.int x), l2], [.ref k1, .ref k0], h) Q = Tr sc d 251 (40, [l0, some (.int x), l2], [.int x, .ref k1, .ref k0], h) Q := t_iload_n k_251_39 rfl
theorem k_251_40 : lk 251 40 = some (.iaload, 41, 0, 0, .null) := by decide +kernel
theorem x_251_40 : Tr sc d 251 (40, [l0, l1, l2], [.int i2, .ref k1, .ref k0], h) Q = (iOk sc h k1 i2 ∧ Tr sc d 251 (41, [l0, l1, l2], [.int (iRd sc h k1 i2), .ref k0], h) Q) := t_iald k_251_40
theorem k_251_41 : lk 251 41 = some (.ifCond .ge 7, 44, 48, 0, .null) := by decide +kernel
theorem x_251_41 : Tr sc d 251 (41, [l0, l1, l2], [.int i1, .ref k0], h) Q = if 0 ≤ i1 then Tr sc d 251 (48, [l0, l1, l2], [.ref k0], h) Q else Tr sc d 251 (44, [l0, l1, l2], [.ref k0], h) Q := t_if k_251_41 rfl
theorem k_251_44 : lk 251 44 = some (.iconst (-1), 45, 0, 0, .int (-1)) := by decide +kernel
theorem x_251_44 : Tr sc d 251 (44, [l0, l1, l2], [.ref k0], h) Q = Tr sc d 251 (45, [l0, l1, l2], [.int (-1), .ref k0], h) Q := t_go k_251_44 rfl
theorem k_251_45 : lk 251 45 = some (.goto 9, 48, 54, 0, .null) := by decide +kernel
theorem x_251_45 : Tr sc d 251 (45, [l0, l1, l2], [.int i1, .ref k0], h) Q = Tr sc d 251 (54, [l0, l1, l2], [.int i1, .ref k0], h) Q := t_go k_251_45 rfl
theorem k_251_48 : lk 251 48 = some (.aload_n 0, 49, 0, 0, .null) := by decide +kernel
theorem x_251_48 : Tr sc d 251 (48, [some (.ref xk), l1, l2], [.ref k0], h) Q = Tr sc d 251 (49, [some (.ref xk), l1, l2], [.ref xk, .ref k0], h) Q := t_aload_n k_251_48 rfl
theorem k_251_49 : lk 251 49 = some (.getfield 17, 52, 10, 6, .null) := by decide +kernel
theorem x_251_49 : Tr sc d 251 (49, [l0, l1, l2], [.ref k1, .ref k0], h) Q = (okp h k1 10 = true ∧ ∃ q, hR h k1 6 = some q ∧ Tr sc d 251 (52, [l0, l1, l2], [.ref q, .ref k0], h) Q) := t_getr k_251_49
theorem k_251_52 : lk 251 52 = some (.iload_n 1, 53, 1, 0, .null) := by decide +kernel
theorem x_251_52 : Tr sc d 251 (52, [l0, some (.int x), l2], [.ref k1, .ref k0], h) Q = Tr sc d 251 (53, [l0, some (.int x), l2], [.int x, .ref k1, .ref k0], h) Q := t_iload_n k_251_52 rfl
theorem k_251_53 : lk 251 53 = some (.iaload, 54, 0, 0, .null) := by decide +kernel
theorem x_251_53 : Tr sc d 251 (53, [l0, l1, l2], [.int i2, .ref k1, .ref k0], h) Q = (iOk sc h k1 i2 ∧ Tr sc d 251 (54, [l0, l1, l2], [.int (iRd sc h k1 i2), .ref k0], h) Q) := t_iald k_251_53
theorem k_251_54 : lk 251 54 = some (.invokevirtual 373, 57, 249, 1, .null) := by decide +kernel
theorem x_251_54 : Tr sc (d + 1) 251 (54, [l0, l1, l2], [.int i1, .ref k0], h) Q = (okp h k0 10 = true ∧ Tr sc d 249 (ent0 249 [.ref k0, .int i1] h) (fun z => Tr sc (d + 1) 251 (57, [l0, l1, l2], z.1.toList ++ [], z.2) Q)) := t_cv (as := [.int i1]) (r := []) k_251_54 rfl rfl (Nat.le_of_ble_eq_true rfl) (Nat.le_of_ble_eq_true rfl) (Nat.le_of_ble_eq_true rfl)
theorem k_251_57 : lk 251 57 = some (.iconst 0, 58, 0, 0, .int 0) := by decide +kernel
theorem x_251_57 : Tr sc d 251 (57, [l0, l1, l2], [], h) Q = Tr sc d 251 (58, [l0, l1, l2], [.int 0], h) Q := t_go k_251_57 rfl
theorem k_251_58 : lk 251 58 = some (.istore_n 2, 59, 2, 0, .null) := by decide +kernel
theorem x_251_58 : Tr sc d 251 (58, [l0, l1, l2], [.int i0], h) Q = Tr sc d 251 (59, [l0, cl2 l1, some (.int i0)], [], h) Q := t_istore_n k_251_58 (Nat.le_of_ble_eq_true rfl)
theorem k_251_59 : lk 251 59 = some (.iload_n 2, 60, 2, 0, .null) := by decide +kernel
theorem x_251_59 : Tr sc d 251 (59, [l0, l1, some (.int x)], [], h) Q = Tr sc d 251 (60, [l0, l1, some (.int x)], [.int x], h) Q := t_iload_n k_251_59 rfl
theorem k_251_60 : lk 251 60 = some (.aload_n 0, 61, 0, 0, .null) := by decide +kernel
theorem x_251_60 : Tr sc d 251 (60, [some (.ref xk), l1, l2], [.int i0], h) Q = Tr sc d 251 (61, [some (.ref xk), l1, l2], [.ref xk, .int i0], h) Q := t_aload_n k_251_60 rfl
theorem k_251_61 : lk 251 61 = some (.getfield 17, 64, 10, 6, .null) := by decide +kernel
theorem x_251_61 : Tr sc d 251 (61, [l0, l1, l2], [.ref k1, .int i0], h) Q = (okp h k1 10 = true ∧ ∃ q, hR h k1 6 = some q ∧ Tr sc d 251 (64, [l0, l1, l2], [.ref q, .int i0], h) Q) := t_getr k_251_61
theorem k_251_64 : lk 251 64 = some (.iload_n 1, 65, 1, 0, .null) := by decide +kernel
theorem x_251_64 : Tr sc d 251 (64, [l0, some (.int x), l2], [.ref k1, .int i0], h) Q = Tr sc d 251 (65, [l0, some (.int x), l2], [.int x, .ref k1, .int i0], h) Q := t_iload_n k_251_64 rfl
theorem k_251_65 : lk 251 65 = some (.iaload, 66, 0, 0, .null) := by decide +kernel
theorem x_251_65 : Tr sc d 251 (65, [l0, l1, l2], [.int i2, .ref k1, .int i0], h) Q = (iOk sc h k1 i2 ∧ Tr sc d 251 (66, [l0, l1, l2], [.int (iRd sc h k1 i2), .int i0], h) Q) := t_iald k_251_65
theorem k_251_66 : lk 251 66 = some (.if_icmp .ge 24, 69, 90, 0, .null) := by decide +kernel
theorem x_251_66 : Tr sc d 251 (66, [l0, l1, l2], [.int i1, .int i0], h) Q = if i1 ≤ i0 then Tr sc d 251 (90, [l0, l1, l2], [], h) Q else Tr sc d 251 (69, [l0, l1, l2], [], h) Q := t_if k_251_66 rfl
theorem k_251_69 : lk 251 69 = some (.aload_n 0, 70, 0, 0, .null) := by decide +kernel
theorem x_251_69 : Tr sc d 251 (69, [some (.ref xk), l1, l2], [], h) Q = Tr sc d 251 (70, [some (.ref xk), l1, l2], [.ref xk], h) Q := t_aload_n k_251_69 rfl
theorem k_251_70 : lk 251 70 = some (.aload_n 0, 71, 0, 0, .null) := by decide +kernel
theorem x_251_70 : Tr sc d 251 (70, [some (.ref xk), l1, l2], [.ref k0], h) Q = Tr sc d 251 (71, [some (.ref xk), l1, l2], [.ref xk, .ref k0], h) Q := t_aload_n k_251_70 rfl
theorem k_251_71 : lk 251 71 = some (.getfield 20, 74, 10, 7, .null) := by decide +kernel
theorem x_251_71 : Tr sc d 251 (71, [l0, l1, l2], [.ref k1, .ref k0], h) Q = (okp h k1 10 = true ∧ ∃ q, hR h k1 7 = some q ∧ Tr sc d 251 (74, [l0, l1, l2], [.ref q, .ref k0], h) Q) := t_getr k_251_71
theorem k_251_74 : lk 251 74 = some (.bipush 40, 76, 0, 0, .int 40) := by decide +kernel
theorem x_251_74 : Tr sc d 251 (74, [l0, l1, l2], [.ref k1, .ref k0], h) Q = Tr sc d 251 (76, [l0, l1, l2], [.int 40, .ref k1, .ref k0], h) Q := t_go k_251_74 rfl
theorem k_251_76 : lk 251 76 = some (.iload_n 1, 77, 1, 0, .null) := by decide +kernel
theorem x_251_76 : Tr sc d 251 (76, [l0, some (.int x), l2], [.int i2, .ref k1, .ref k0], h) Q = Tr sc d 251 (77, [l0, some (.int x), l2], [.int x, .int i2, .ref k1, .ref k0], h) Q := t_iload_n k_251_76 rfl
theorem k_251_77 : lk 251 77 = some (.imul, 78, 0, 0, .null) := by decide +kernel
theorem x_251_77 : Tr sc d 251 (77, [l0, l1, l2], [.int i3, .int i2, .ref k1, .ref k0], h) Q = Tr sc d 251 (78, [l0, l1, l2], [.int (i2 * i3), .ref k1, .ref k0], h) Q := t_go k_251_77 rfl
theorem k_251_78 : lk 251 78 = some (.iload_n 2, 79, 2, 0, .null) := by decide +kernel
theorem x_251_78 : Tr sc d 251 (78, [l0, l1, some (.int x)], [.int i2, .ref k1, .ref k0], h) Q = Tr sc d 251 (79, [l0, l1, some (.int x)], [.int x, .int i2, .ref k1, .ref k0], h) Q := t_iload_n k_251_78 rfl
theorem k_251_79 : lk 251 79 = some (.iadd, 80, 0, 0, .null) := by decide +kernel
theorem x_251_79 : Tr sc d 251 (79, [l0, l1, l2], [.int i3, .int i2, .ref k1, .ref k0], h) Q = Tr sc d 251 (80, [l0, l1, l2], [.int (i2 + i3), .ref k1, .ref k0], h) Q := t_go k_251_79 rfl
theorem k_251_80 : lk 251 80 = some (.iaload, 81, 0, 0, .null) := by decide +kernel
theorem x_251_80 : Tr sc d 251 (80, [l0, l1, l2], [.int i2, .ref k1, .ref k0], h) Q = (iOk sc h k1 i2 ∧ Tr sc d 251 (81, [l0, l1, l2], [.int (iRd sc h k1 i2), .ref k0], h) Q) := t_iald k_251_80
theorem k_251_81 : lk 251 81 = some (.invokevirtual 373, 84, 249, 1, .null) := by decide +kernel
theorem x_251_81 : Tr sc (d + 1) 251 (81, [l0, l1, l2], [.int i1, .ref k0], h) Q = (okp h k0 10 = true ∧ Tr sc d 249 (ent0 249 [.ref k0, .int i1] h) (fun z => Tr sc (d + 1) 251 (84, [l0, l1, l2], z.1.toList ++ [], z.2) Q)) := t_cv (as := [.int i1]) (r := []) k_251_81 rfl rfl (Nat.le_of_ble_eq_true rfl) (Nat.le_of_ble_eq_true rfl) (Nat.le_of_ble_eq_true rfl)
theorem k_251_84 : lk 251 84 = some (.iinc 2 1, 87, 2, 0, .int 1) := by decide +kernel
theorem x_251_84 : Tr sc d 251 (84, [l0, l1, some (.int x)], [], h) Q = Tr sc d 251 (87, [l0, cl2 l1, some (.int (x + 1))], [], h) Q := t_inc k_251_84 rfl (Nat.le_of_ble_eq_true rfl)
theorem k_251_87 : lk 251 87 = some (.goto (-28), 90, 59, 0, .null) := by decide +kernel
theorem x_251_87 : Tr sc d 251 (87, [l0, l1, l2], [], h) Q = Tr sc d 251 (59, [l0, l1, l2], [], h) Q := t_go k_251_87 rfl
theorem k_251_90 : lk 251 90 = some (.iinc 1 1, 93, 1, 0, .int 1) := by decide +kernel
theorem x_251_90 : Tr sc d 251 (90, [l0, some (.int x), l2], [], h) Q = Tr sc d 251 (93, [cl2 l0, some (.int (x + 1)), l2], [], h) Q := t_inc k_251_90 rfl (Nat.le_of_ble_eq_true rfl)
theorem k_251_93 : lk 251 93 = some (.goto (-65), 96, 28, 0, .null) := by decide +kernel
theorem x_251_93 : Tr sc d 251 (93, [l0, l1, l2], [], h) Q = Tr sc d 251 (28, [l0, l1, l2], [], h) Q := t_go k_251_93 rfl
theorem k_251_96 : lk 251 96 = some (.iconst 0, 97, 0, 0, .int 0) := by decide +kernel
theorem x_251_96 : Tr sc d 251 (96, [l0, l1, l2], [], h) Q = Tr sc d 251 (97, [l0, l1, l2], [.int 0], h) Q := t_go k_251_96 rfl
theorem k_251_97 : lk 251 97 = some (.istore_n 1, 98, 1, 0, .null) := by decide +kernel
theorem x_251_97 : Tr sc d 251 (97, [l0, l1, l2], [.int i0], h) Q = Tr sc d 251 (98, [cl2 l0, some (.int i0), l2], [], h) Q := t_istore_n k_251_97 (Nat.le_of_ble_eq_true rfl)
theorem k_251_98 : lk 251 98 = some (.iload_n 1, 99, 1, 0, .null) := by decide +kernel
theorem x_251_98 : Tr sc d 251 (98, [l0, some (.int x), l2], [], h) Q = Tr sc d 251 (99, [l0, some (.int x), l2], [.int x], h) Q := t_iload_n k_251_98 rfl
theorem k_251_99 : lk 251 99 = some (.iconst 4, 100, 0, 0, .int 4) := by decide +kernel
theorem x_251_99 : Tr sc d 251 (99, [l0, l1, l2], [.int i0], h) Q = Tr sc d 251 (100, [l0, l1, l2], [.int 4, .int i0], h) Q := t_go k_251_99 rfl
theorem k_251_100 : lk 251 100 = some (.if_icmp .ge 65, 103, 165, 0, .null) := by decide +kernel
theorem x_251_100 : Tr sc d 251 (100, [l0, l1, l2], [.int i1, .int i0], h) Q = if i1 ≤ i0 then Tr sc d 251 (165, [l0, l1, l2], [], h) Q else Tr sc d 251 (103, [l0, l1, l2], [], h) Q := t_if k_251_100 rfl
theorem k_251_103 : lk 251 103 = some (.aload_n 0, 104, 0, 0, .null) := by decide +kernel
theorem x_251_103 : Tr sc d 251 (103, [some (.ref xk), l1, l2], [], h) Q = Tr sc d 251 (104, [some (.ref xk), l1, l2], [.ref xk], h) Q := t_aload_n k_251_103 rfl
theorem k_251_104 : lk 251 104 = some (.aload_n 0, 105, 0, 0, .null) := by decide +kernel
theorem x_251_104 : Tr sc d 251 (104, [some (.ref xk), l1, l2], [.ref k0], h) Q = Tr sc d 251 (105, [some (.ref xk), l1, l2], [.ref xk, .ref k0], h) Q := t_aload_n k_251_104 rfl
theorem k_251_105 : lk 251 105 = some (.getfield 26, 108, 10, 9, .null) := by decide +kernel
theorem x_251_105 : Tr sc d 251 (105, [l0, l1, l2], [.ref k1, .ref k0], h) Q = (okp h k1 10 = true ∧ ∃ q, hR h k1 9 = some q ∧ Tr sc d 251 (108, [l0, l1, l2], [.ref q, .ref k0], h) Q) := t_getr k_251_105
theorem k_251_108 : lk 251 108 = some (.iload_n 1, 109, 1, 0, .null) := by decide +kernel
theorem x_251_108 : Tr sc d 251 (108, [l0, some (.int x), l2], [.ref k1, .ref k0], h) Q = Tr sc d 251 (109, [l0, some (.int x), l2], [.int x, .ref k1, .ref k0], h) Q := t_iload_n k_251_108 rfl
theorem k_251_109 : lk 251 109 = some (.iaload, 110, 0, 0, .null) := by decide +kernel
theorem x_251_109 : Tr sc d 251 (109, [l0, l1, l2], [.int i2, .ref k1, .ref k0], h) Q = (iOk sc h k1 i2 ∧ Tr sc d 251 (110, [l0, l1, l2], [.int (iRd sc h k1 i2), .ref k0], h) Q) := t_iald k_251_109
theorem k_251_110 : lk 251 110 = some (.ifCond .ge 7, 113, 117, 0, .null) := by decide +kernel
theorem x_251_110 : Tr sc d 251 (110, [l0, l1, l2], [.int i1, .ref k0], h) Q = if 0 ≤ i1 then Tr sc d 251 (117, [l0, l1, l2], [.ref k0], h) Q else Tr sc d 251 (113, [l0, l1, l2], [.ref k0], h) Q := t_if k_251_110 rfl
theorem k_251_113 : lk 251 113 = some (.iconst (-1), 114, 0, 0, .int (-1)) := by decide +kernel
theorem x_251_113 : Tr sc d 251 (113, [l0, l1, l2], [.ref k0], h) Q = Tr sc d 251 (114, [l0, l1, l2], [.int (-1), .ref k0], h) Q := t_go k_251_113 rfl
theorem k_251_114 : lk 251 114 = some (.goto 9, 117, 123, 0, .null) := by decide +kernel
theorem x_251_114 : Tr sc d 251 (114, [l0, l1, l2], [.int i1, .ref k0], h) Q = Tr sc d 251 (123, [l0, l1, l2], [.int i1, .ref k0], h) Q := t_go k_251_114 rfl
theorem k_251_117 : lk 251 117 = some (.aload_n 0, 118, 0, 0, .null) := by decide +kernel
theorem x_251_117 : Tr sc d 251 (117, [some (.ref xk), l1, l2], [.ref k0], h) Q = Tr sc d 251 (118, [some (.ref xk), l1, l2], [.ref xk, .ref k0], h) Q := t_aload_n k_251_117 rfl
theorem k_251_118 : lk 251 118 = some (.getfield 26, 121, 10, 9, .null) := by decide +kernel
theorem x_251_118 : Tr sc d 251 (118, [l0, l1, l2], [.ref k1, .ref k0], h) Q = (okp h k1 10 = true ∧ ∃ q, hR h k1 9 = some q ∧ Tr sc d 251 (121, [l0, l1, l2], [.ref q, .ref k0], h) Q) := t_getr k_251_118
theorem k_251_121 : lk 251 121 = some (.iload_n 1, 122, 1, 0, .null) := by decide +kernel
theorem x_251_121 : Tr sc d 251 (121, [l0, some (.int x), l2], [.ref k1, .ref k0], h) Q = Tr sc d 251 (122, [l0, some (.int x), l2], [.int x, .ref k1, .ref k0], h) Q := t_iload_n k_251_121 rfl
theorem k_251_122 : lk 251 122 = some (.iaload, 123, 0, 0, .null) := by decide +kernel
theorem x_251_122 : Tr sc d 251 (122, [l0, l1, l2], [.int i2, .ref k1, .ref k0], h) Q = (iOk sc h k1 i2 ∧ Tr sc d 251 (123, [l0, l1, l2], [.int (iRd sc h k1 i2), .ref k0], h) Q) := t_iald k_251_122
theorem k_251_123 : lk 251 123 = some (.invokevirtual 373, 126, 249, 1, .null) := by decide +kernel
theorem x_251_123 : Tr sc (d + 1) 251 (123, [l0, l1, l2], [.int i1, .ref k0], h) Q = (okp h k0 10 = true ∧ Tr sc d 249 (ent0 249 [.ref k0, .int i1] h) (fun z => Tr sc (d + 1) 251 (126, [l0, l1, l2], z.1.toList ++ [], z.2) Q)) := t_cv (as := [.int i1]) (r := []) k_251_123 rfl rfl (Nat.le_of_ble_eq_true rfl) (Nat.le_of_ble_eq_true rfl) (Nat.le_of_ble_eq_true rfl)
theorem k_251_126 : lk 251 126 = some (.iconst 0, 127, 0, 0, .int 0) := by decide +kernel
theorem x_251_126 : Tr sc d 251 (126, [l0, l1, l2], [], h) Q = Tr sc d 251 (127, [l0, l1, l2], [.int 0], h) Q := t_go k_251_126 rfl
theorem k_251_127 : lk 251 127 = some (.istore_n 2, 128, 2, 0, .null) := by decide +kernel
theorem x_251_127 : Tr sc d 251 (127, [l0, l1, l2], [.int i0], h) Q = Tr sc d 251 (128, [l0, cl2 l1, some (.int i0)], [], h) Q := t_istore_n k_251_127 (Nat.le_of_ble_eq_true rfl)
theorem k_251_128 : lk 251 128 = some (.iload_n 2, 129, 2, 0, .null) := by decide +kernel
theorem x_251_128 : Tr sc d 251 (128, [l0, l1, some (.int x)], [], h) Q = Tr sc d 251 (129, [l0, l1, some (.int x)], [.int x], h) Q := t_iload_n k_251_128 rfl
theorem k_251_129 : lk 251 129 = some (.aload_n 0, 130, 0, 0, .null) := by decide +kernel
theorem x_251_129 : Tr sc d 251 (129, [some (.ref xk), l1, l2], [.int i0], h) Q = Tr sc d 251 (130, [some (.ref xk), l1, l2], [.ref xk, .int i0], h) Q := t_aload_n k_251_129 rfl
theorem k_251_130 : lk 251 130 = some (.getfield 26, 133, 10, 9, .null) := by decide +kernel
theorem x_251_130 : Tr sc d 251 (130, [l0, l1, l2], [.ref k1, .int i0], h) Q = (okp h k1 10 = true ∧ ∃ q, hR h k1 9 = some q ∧ Tr sc d 251 (133, [l0, l1, l2], [.ref q, .int i0], h) Q) := t_getr k_251_130
theorem k_251_133 : lk 251 133 = some (.iload_n 1, 134, 1, 0, .null) := by decide +kernel
theorem x_251_133 : Tr sc d 251 (133, [l0, some (.int x), l2], [.ref k1, .int i0], h) Q = Tr sc d 251 (134, [l0, some (.int x), l2], [.int x, .ref k1, .int i0], h) Q := t_iload_n k_251_133 rfl
theorem k_251_134 : lk 251 134 = some (.iaload, 135, 0, 0, .null) := by decide +kernel
theorem x_251_134 : Tr sc d 251 (134, [l0, l1, l2], [.int i2, .ref k1, .int i0], h) Q = (iOk sc h k1 i2 ∧ Tr sc d 251 (135, [l0, l1, l2], [.int (iRd sc h k1 i2), .int i0], h) Q) := t_iald k_251_134
theorem k_251_135 : lk 251 135 = some (.if_icmp .ge 24, 138, 159, 0, .null) := by decide +kernel
theorem x_251_135 : Tr sc d 251 (135, [l0, l1, l2], [.int i1, .int i0], h) Q = if i1 ≤ i0 then Tr sc d 251 (159, [l0, l1, l2], [], h) Q else Tr sc d 251 (138, [l0, l1, l2], [], h) Q := t_if k_251_135 rfl
theorem k_251_138 : lk 251 138 = some (.aload_n 0, 139, 0, 0, .null) := by decide +kernel
theorem x_251_138 : Tr sc d 251 (138, [some (.ref xk), l1, l2], [], h) Q = Tr sc d 251 (139, [some (.ref xk), l1, l2], [.ref xk], h) Q := t_aload_n k_251_138 rfl
theorem k_251_139 : lk 251 139 = some (.aload_n 0, 140, 0, 0, .null) := by decide +kernel
theorem x_251_139 : Tr sc d 251 (139, [some (.ref xk), l1, l2], [.ref k0], h) Q = Tr sc d 251 (140, [some (.ref xk), l1, l2], [.ref xk, .ref k0], h) Q := t_aload_n k_251_139 rfl
theorem k_251_140 : lk 251 140 = some (.getfield 29, 143, 10, 10, .null) := by decide +kernel
theorem x_251_140 : Tr sc d 251 (140, [l0, l1, l2], [.ref k1, .ref k0], h) Q = (okp h k1 10 = true ∧ ∃ q, hR h k1 10 = some q ∧ Tr sc d 251 (143, [l0, l1, l2], [.ref q, .ref k0], h) Q) := t_getr k_251_140
theorem k_251_143 : lk 251 143 = some (.bipush 60, 145, 0, 0, .int 60) := by decide +kernel
theorem x_251_143 : Tr sc d 251 (143, [l0, l1, l2], [.ref k1, .ref k0], h) Q = Tr sc d 251 (145, [l0, l1, l2], [.int 60, .ref k1, .ref k0], h) Q := t_go k_251_143 rfl
theorem k_251_145 : lk 251 145 = some (.iload_n 1, 146, 1, 0, .null) := by decide +kernel
theorem x_251_145 : Tr sc d 251 (145, [l0, some (.int x), l2], [.int i2, .ref k1, .ref k0], h) Q = Tr sc d 251 (146, [l0, some (.int x), l2], [.int x, .int i2, .ref k1, .ref k0], h) Q := t_iload_n k_251_145 rfl
theorem k_251_146 : lk 251 146 = some (.imul, 147, 0, 0, .null) := by decide +kernel
theorem x_251_146 : Tr sc d 251 (146, [l0, l1, l2], [.int i3, .int i2, .ref k1, .ref k0], h) Q = Tr sc d 251 (147, [l0, l1, l2], [.int (i2 * i3), .ref k1, .ref k0], h) Q := t_go k_251_146 rfl
theorem k_251_147 : lk 251 147 = some (.iload_n 2, 148, 2, 0, .null) := by decide +kernel
theorem x_251_147 : Tr sc d 251 (147, [l0, l1, some (.int x)], [.int i2, .ref k1, .ref k0], h) Q = Tr sc d 251 (148, [l0, l1, some (.int x)], [.int x, .int i2, .ref k1, .ref k0], h) Q := t_iload_n k_251_147 rfl
theorem k_251_148 : lk 251 148 = some (.iadd, 149, 0, 0, .null) := by decide +kernel
theorem x_251_148 : Tr sc d 251 (148, [l0, l1, l2], [.int i3, .int i2, .ref k1, .ref k0], h) Q = Tr sc d 251 (149, [l0, l1, l2], [.int (i2 + i3), .ref k1, .ref k0], h) Q := t_go k_251_148 rfl
theorem k_251_149 : lk 251 149 = some (.iaload, 150, 0, 0, .null) := by decide +kernel
theorem x_251_149 : Tr sc d 251 (149, [l0, l1, l2], [.int i2, .ref k1, .ref k0], h) Q = (iOk sc h k1 i2 ∧ Tr sc d 251 (150, [l0, l1, l2], [.int (iRd sc h k1 i2), .ref k0], h) Q) := t_iald k_251_149
theorem k_251_150 : lk 251 150 = some (.invokevirtual 373, 153, 249, 1, .null) := by decide +kernel
theorem x_251_150 : Tr sc (d + 1) 251 (150, [l0, l1, l2], [.int i1, .ref k0], h) Q = (okp h k0 10 = true ∧ Tr sc d 249 (ent0 249 [.ref k0, .int i1] h) (fun z => Tr sc (d + 1) 251 (153, [l0, l1, l2], z.1.toList ++ [], z.2) Q)) := t_cv (as := [.int i1]) (r := []) k_251_150 rfl rfl (Nat.le_of_ble_eq_true rfl) (Nat.le_of_ble_eq_true rfl) (Nat.le_of_ble_eq_true rfl)
theorem k_251_153 : lk 251 153 = some (.iinc 2 1, 156, 2, 0, .int 1) := by decide +kernel
theorem x_251_153 : Tr sc d 251 (153, [l0, l1, some (.int x)], [], h) Q = Tr sc d 251 (156, [l0, cl2 l1, some (.int (x + 1))], [], h) Q := t_inc k_251_153 rfl (Nat.le_of_ble_eq_true rfl)
theorem k_251_156 : lk 251 156 = some (.goto (-28), 159, 128, 0, .null) := by decide +kernel
theorem x_251_156 : Tr sc d 251 (156, [l0, l1, l2], [], h) Q = Tr sc d 251 (128, [l0, l1, l2], [], h) Q := t_go k_251_156 rfl
theorem k_251_159 : lk 251 159 = some (.iinc 1 1, 162, 1, 0, .int 1) := by decide +kernel
theorem x_251_159 : Tr sc d 251 (159, [l0, some (.int x), l2], [], h) Q = Tr sc d 251 (162, [cl2 l0, some (.int (x + 1)), l2], [], h) Q := t_inc k_251_159 rfl (Nat.le_of_ble_eq_true rfl)
theorem k_251_162 : lk 251 162 = some (.goto (-64), 165, 98, 0, .null) := by decide +kernel
theorem x_251_162 : Tr sc d 251 (162, [l0, l1, l2], [], h) Q = Tr sc d 251 (98, [l0, l1, l2], [], h) Q := t_go k_251_162 rfl
theorem k_251_165 : lk 251 165 = some (.aload_n 0, 166, 0, 0, .null) := by decide +kernel
theorem x_251_165 : Tr sc d 251 (165, [some (.ref xk), l1, l2], [], h) Q = Tr sc d 251 (166, [some (.ref xk), l1, l2], [.ref xk], h) Q := t_aload_n k_251_165 rfl
theorem k_251_166 : lk 251 166 = some (.getfield 370, 169, 10, 62, .long 0) := by decide +kernel
theorem x_251_166 : Tr sc d 251 (166, [l0, l1, l2], [.ref k0], h) Q = (okp h k0 10 = true ∧ Tr sc d 251 (169, [l0, l1, l2], [.long (hL h k0 62)], h) Q) := t_gd k_251_166 rfl
theorem k_251_169 : lk 251 169 = some (.lreturn, 170, 0, 0, .null) := by decide +kernel
theorem x_251_169 : Tr sc d 251 (169, [l0, l1, l2], [.long j0], h) Q = Q (some (.long j0), h) := t_ret k_251_169 (by rw [r_251]; rfl)
theorem e_251 : Tr sc d 251 (ent0 251 [.ref k0] h) Q = Tr sc d 251 (0, [some (.ref k0), none, none], [], h) Q := by
  have e : mL 251 = 3 := by decide +kernel
  unfold ent0
  rw [e]
  rfl
end XX
