section XX
variable {sc : Nat × (Nat → Int32)} {d : Nat} {Q : PRes → Prop} {h : PH} {l0 l1 l2 l3 l4 l5 l6 l7 l8 l9 l10 l11 l12 l13 l14 l15 l16 l17 l18 l19 l20 l21 l22 l23 l24 l25 l26 l27 : Option Value} {x i0 i1 i2 i3 i4 i5 i6 i7 i8 i9 i10 i11 : Int32} {xl j0 j1 j2 j3 j4 j5 j6 j7 j8 j9 j10 j11 : Int64} {xk k0 k1 k2 k3 k4 k5 k6 k7 k8 k9 k10 k11 : Nat}
theorem r_205 : mR 205 = some .int := by decide +kernel
theorem k_205_0 : lk 205 0 = some (.iload_n 2, 1, 2, 0, .null) := by decide +kernel
theorem x_205_0 : Tr sc d 205 (0, [l0, l1, some (.int x), l3], [], h) Q = Tr sc d 205 (1, [l0, l1, some (.int x), l3], [.int x], h) Q := t_iload_n k_205_0 rfl
theorem k_205_1 : lk 205 1 = some (.iconst 0, 2, 0, 0, .int 0) := by decide +kernel
theorem x_205_1 : Tr sc d 205 (1, [l0, l1, l2, l3], [.int i0], h) Q = Tr sc d 205 (2, [l0, l1, l2, l3], [.int 0, .int i0], h) Q := t_go k_205_1 rfl
theorem k_205_2 : lk 205 2 = some (.iload_n 3, 3, 3, 0, .null) := by decide +kernel
theorem x_205_2 : Tr sc d 205 (2, [l0, l1, l2, some (.int x)], [.int i1, .int i0], h) Q = Tr sc d 205 (3, [l0, l1, l2, some (.int x)], [.int x, .int i1, .int i0], h) Q := t_iload_n k_205_2 rfl
theorem k_205_3 : lk 205 3 = some (.invokestatic 144, 6, 156, 3, .null) := by decide +kernel
theorem x_205_3 : Tr sc (d + 1) 205 (3, [l0, l1, l2, l3], [.int i2, .int i1, .int i0], h) Q = Tr sc d 156 (ent0 156 [.int i0, .int i1, .int i2] h) (fun z => Tr sc (d + 1) 205 (6, [l0, l1, l2, l3], z.1.toList ++ [], z.2) Q) := t_cs (as := [.int i0, .int i1, .int i2]) (r := []) k_205_3 (by decide) rfl rfl (Nat.le_of_ble_eq_true rfl) (Nat.le_of_ble_eq_true rfl)
theorem k_205_6 : lk 205 6 = some (.ifCond .ne 7, 9, 13, 0, .null) := by decide +kernel
theorem x_205_6 : Tr sc d 205 (6, [l0, l1, l2, l3], [.int i0], h) Q = if i0 = 0 then Tr sc d 205 (9, [l0, l1, l2, l3], [], h) Q else Tr sc d 205 (13, [l0, l1, l2, l3], [], h) Q := t_if k_205_6 rfl
theorem k_205_9 : lk 205 9 = some (.iconst (-1), 10, 0, 0, .int (-1)) := by decide +kernel
theorem x_205_9 : Tr sc d 205 (9, [l0, l1, l2, l3], [], h) Q = Tr sc d 205 (10, [l0, l1, l2, l3], [.int (-1)], h) Q := t_go k_205_9 rfl
theorem k_205_10 : lk 205 10 = some (.goto 8, 13, 18, 0, .null) := by decide +kernel
theorem x_205_10 : Tr sc d 205 (10, [l0, l1, l2, l3], [.int i0], h) Q = Tr sc d 205 (18, [l0, l1, l2, l3], [.int i0], h) Q := t_go k_205_10 rfl
theorem k_205_13 : lk 205 13 = some (.aload_n 0, 14, 0, 0, .null) := by decide +kernel
theorem x_205_13 : Tr sc d 205 (13, [some (.ref xk), l1, l2, l3], [], h) Q = Tr sc d 205 (14, [some (.ref xk), l1, l2, l3], [.ref xk], h) Q := t_aload_n k_205_13 rfl
theorem k_205_14 : lk 205 14 = some (.iload_n 1, 15, 1, 0, .null) := by decide +kernel
theorem x_205_14 : Tr sc d 205 (14, [l0, some (.int x), l2, l3], [.ref k0], h) Q = Tr sc d 205 (15, [l0, some (.int x), l2, l3], [.int x, .ref k0], h) Q := t_iload_n k_205_14 rfl
theorem k_205_15 : lk 205 15 = some (.invokevirtual 220, 18, 176, 1, .null) := by decide +kernel
theorem x_205_15 : Tr sc (d + 1) 205 (15, [l0, l1, l2, l3], [.int i1, .ref k0], h) Q = (okp h k0 10 = true ∧ Tr sc d 176 (ent0 176 [.ref k0, .int i1] h) (fun z => Tr sc (d + 1) 205 (18, [l0, l1, l2, l3], z.1.toList ++ [], z.2) Q)) := t_cv (as := [.int i1]) (r := []) k_205_15 rfl rfl (Nat.le_of_ble_eq_true rfl) (Nat.le_of_ble_eq_true rfl) (Nat.le_of_ble_eq_true rfl)
theorem k_205_18 : lk 205 18 = some (.ireturn, 19, 0, 0, .null) := by decide +kernel
theorem x_205_18 : Tr sc d 205 (18, [l0, l1, l2, l3], [.int i0], h) Q = Q (some (.int i0), h) := t_ret k_205_18 (by rw [r_205]; rfl)
theorem e_205 : Tr sc d 205 (ent0 205 [.ref k0, .int i1, .int i2, .int i3] h) Q = Tr sc d 205 (0, [some (.ref k0), some (.int i1), some (.int i2), some (.int i3)], [], h) Q := by
  have e : mL 205 = 4 := by decide +kernel
  unfold ent0
  rw [e]
  rfl
theorem r_206 : mR 206 = some .int := by decide +kernel
theorem k_206_0 : lk 206 0 = some (.aload_n 0, 1, 0, 0, .null) := by decide +kernel
theorem x_206_0 : Tr sc d 206 (0, [some (.ref xk), l1, l2, l3], [], h) Q = Tr sc d 206 (1, [some (.ref xk), l1, l2, l3], [.ref xk], h) Q := t_aload_n k_206_0 rfl
theorem k_206_1 : lk 206 1 = some (.iload_n 1, 2, 1, 0, .null) := by decide +kernel
theorem x_206_1 : Tr sc d 206 (1, [l0, some (.int x), l2, l3], [.ref k0], h) Q = Tr sc d 206 (2, [l0, some (.int x), l2, l3], [.int x, .ref k0], h) Q := t_iload_n k_206_1 rfl
theorem k_206_2 : lk 206 2 = some (.iload_n 2, 3, 2, 0, .null) := by decide +kernel
theorem x_206_2 : Tr sc d 206 (2, [l0, l1, some (.int x), l3], [.int i1, .ref k0], h) Q = Tr sc d 206 (3, [l0, l1, some (.int x), l3], [.int x, .int i1, .ref k0], h) Q := t_iload_n k_206_2 rfl
theorem k_206_3 : lk 206 3 = some (.iconst 5, 4, 0, 0, .int 5) := by decide +kernel
theorem x_206_3 : Tr sc d 206 (3, [l0, l1, l2, l3], [.int i2, .int i1, .ref k0], h) Q = Tr sc d 206 (4, [l0, l1, l2, l3], [.int 5, .int i2, .int i1, .ref k0], h) Q := t_go k_206_3 rfl
theorem k_206_4 : lk 206 4 = some (.invokevirtual 304, 7, 205, 3, .null) := by decide +kernel
theorem x_206_4 : Tr sc (d + 1) 206 (4, [l0, l1, l2, l3], [.int i3, .int i2, .int i1, .ref k0], h) Q = (okp h k0 10 = true ∧ Tr sc d 205 (ent0 205 [.ref k0, .int i1, .int i2, .int i3] h) (fun z => Tr sc (d + 1) 206 (7, [l0, l1, l2, l3], z.1.toList ++ [], z.2) Q)) := t_cv (as := [.int i1, .int i2, .int i3]) (r := []) k_206_4 rfl rfl (Nat.le_of_ble_eq_true rfl) (Nat.le_of_ble_eq_true rfl) (Nat.le_of_ble_eq_true rfl)
theorem k_206_7 : lk 206 7 = some (.istore_n 3, 8, 3, 0, .null) := by decide +kernel
theorem x_206_7 : Tr sc d 206 (7, [l0, l1, l2, l3], [.int i0], h) Q = Tr sc d 206 (8, [l0, l1, cl2 l2, some (.int i0)], [], h) Q := t_istore_n k_206_7 (Nat.le_of_ble_eq_true rfl)
theorem k_206_8 : lk 206 8 = some (.iload_n 3, 9, 3, 0, .null) := by decide +kernel
theorem x_206_8 : Tr sc d 206 (8, [l0, l1, l2, some (.int x)], [], h) Q = Tr sc d 206 (9, [l0, l1, l2, some (.int x)], [.int x], h) Q := t_iload_n k_206_8 rfl
theorem k_206_9 : lk 206 9 = some (.ifCond .ge 5, 12, 14, 0, .null) := by decide +kernel
theorem x_206_9 : Tr sc d 206 (9, [l0, l1, l2, l3], [.int i0], h) Q = if 0 ≤ i0 then Tr sc d 206 (14, [l0, l1, l2, l3], [], h) Q else Tr sc d 206 (12, [l0, l1, l2, l3], [], h) Q := t_if k_206_9 rfl
theorem k_206_12 : lk 206 12 = some (.iload_n 3, 13, 3, 0, .null) := by decide +kernel
theorem x_206_12 : Tr sc d 206 (12, [l0, l1, l2, some (.int x)], [], h) Q = Tr sc d 206 (13, [l0, l1, l2, some (.int x)], [.int x], h) Q := t_iload_n k_206_12 rfl
theorem k_206_13 : lk 206 13 = some (.ireturn, 14, 0, 0, .null) := by decide +kernel
theorem x_206_13 : Tr sc d 206 (13, [l0, l1, l2, l3], [.int i0], h) Q = Q (some (.int i0), h) := t_ret k_206_13 (by rw [r_206]; rfl)
theorem k_206_14 : lk 206 14 = some (.aload_n 0, 15, 0, 0, .null) := by decide +kernel
theorem x_206_14 : Tr sc d 206 (14, [some (.ref xk), l1, l2, l3], [], h) Q = Tr sc d 206 (15, [some (.ref xk), l1, l2, l3], [.ref xk], h) Q := t_aload_n k_206_14 rfl
theorem k_206_15 : lk 206 15 = some (.iload_n 1, 16, 1, 0, .null) := by decide +kernel
theorem x_206_15 : Tr sc d 206 (15, [l0, some (.int x), l2, l3], [.ref k0], h) Q = Tr sc d 206 (16, [l0, some (.int x), l2, l3], [.int x, .ref k0], h) Q := t_iload_n k_206_15 rfl
theorem k_206_16 : lk 206 16 = some (.iload_n 2, 17, 2, 0, .null) := by decide +kernel
theorem x_206_16 : Tr sc d 206 (16, [l0, l1, some (.int x), l3], [.int i1, .ref k0], h) Q = Tr sc d 206 (17, [l0, l1, some (.int x), l3], [.int x, .int i1, .ref k0], h) Q := t_iload_n k_206_16 rfl
theorem k_206_17 : lk 206 17 = some (.invokevirtual 307, 20, 203, 2, .null) := by decide +kernel
theorem x_206_17 : Tr sc (d + 1) 206 (17, [l0, l1, l2, l3], [.int i2, .int i1, .ref k0], h) Q = (okp h k0 10 = true ∧ Tr sc d 203 (ent0 203 [.ref k0, .int i1, .int i2] h) (fun z => Tr sc (d + 1) 206 (20, [l0, l1, l2, l3], z.1.toList ++ [], z.2) Q)) := t_cv (as := [.int i1, .int i2]) (r := []) k_206_17 rfl rfl (Nat.le_of_ble_eq_true rfl) (Nat.le_of_ble_eq_true rfl) (Nat.le_of_ble_eq_true rfl)
theorem k_206_20 : lk 206 20 = some (.aload_n 0, 21, 0, 0, .null) := by decide +kernel
theorem x_206_20 : Tr sc d 206 (20, [some (.ref xk), l1, l2, l3], [], h) Q = Tr sc d 206 (21, [some (.ref xk), l1, l2, l3], [.ref xk], h) Q := t_aload_n k_206_20 rfl
theorem k_206_21 : lk 206 21 = some (.aload_n 0, 22, 0, 0, .null) := by decide +kernel
theorem x_206_21 : Tr sc d 206 (21, [some (.ref xk), l1, l2, l3], [.ref k0], h) Q = Tr sc d 206 (22, [some (.ref xk), l1, l2, l3], [.ref xk, .ref k0], h) Q := t_aload_n k_206_21 rfl
theorem k_206_22 : lk 206 22 = some (.getfield 286, 25, 10, 37, .int 0) := by decide +kernel
theorem x_206_22 : Tr sc d 206 (22, [l0, l1, l2, l3], [.ref k1, .ref k0], h) Q = (okp h k1 10 = true ∧ Tr sc d 206 (25, [l0, l1, l2, l3], [.int (hI h k1 37), .ref k0], h) Q) := t_gd k_206_22 rfl
theorem k_206_25 : lk 206 25 = some (.aload_n 0, 26, 0, 0, .null) := by decide +kernel
theorem x_206_25 : Tr sc d 206 (25, [some (.ref xk), l1, l2, l3], [.int i1, .ref k0], h) Q = Tr sc d 206 (26, [some (.ref xk), l1, l2, l3], [.ref xk, .int i1, .ref k0], h) Q := t_aload_n k_206_25 rfl
theorem k_206_26 : lk 206 26 = some (.getfield 283, 29, 10, 36, .int 0) := by decide +kernel
theorem x_206_26 : Tr sc d 206 (26, [l0, l1, l2, l3], [.ref k2, .int i1, .ref k0], h) Q = (okp h k2 10 = true ∧ Tr sc d 206 (29, [l0, l1, l2, l3], [.int (hI h k2 36), .int i1, .ref k0], h) Q) := t_gd k_206_26 rfl
theorem k_206_29 : lk 206 29 = some (.invokevirtual 162, 32, 158, 2, .null) := by decide +kernel
theorem x_206_29 : Tr sc (d + 1) 206 (29, [l0, l1, l2, l3], [.int i2, .int i1, .ref k0], h) Q = (okp h k0 10 = true ∧ Tr sc d 158 (ent0 158 [.ref k0, .int i1, .int i2] h) (fun z => Tr sc (d + 1) 206 (32, [l0, l1, l2, l3], z.1.toList ++ [], z.2) Q)) := t_cv (as := [.int i1, .int i2]) (r := []) k_206_29 rfl rfl (Nat.le_of_ble_eq_true rfl) (Nat.le_of_ble_eq_true rfl) (Nat.le_of_ble_eq_true rfl)
theorem k_206_32 : lk 206 32 = some (.ireturn, 33, 0, 0, .null) := by decide +kernel
theorem x_206_32 : Tr sc d 206 (32, [l0, l1, l2, l3], [.int i0], h) Q = Q (some (.int i0), h) := t_ret k_206_32 (by rw [r_206]; rfl)
theorem e_206 : Tr sc d 206 (ent0 206 [.ref k0, .int i1, .int i2] h) Q = Tr sc d 206 (0, [some (.ref k0), some (.int i1), some (.int i2), none], [], h) Q := by
  have e : mL 206 = 4 := by decide +kernel
  unfold ent0
  rw [e]
  rfl
theorem r_207 : mR 207 = some .int := by decide +kernel
theorem k_207_0 : lk 207 0 = some (.aload_n 0, 1, 0, 0, .null) := by decide +kernel
theorem x_207_0 : Tr sc d 207 (0, [some (.ref xk), l1, l2, l3, l4, l5, l6, l7], [], h) Q = Tr sc d 207 (1, [some (.ref xk), l1, l2, l3, l4, l5, l6, l7], [.ref xk], h) Q := t_aload_n k_207_0 rfl
theorem k_207_1 : lk 207 1 = some (.iload_n 1, 2, 1, 0, .null) := by decide +kernel
theorem x_207_1 : Tr sc d 207 (1, [l0, some (.int x), l2, l3, l4, l5, l6, l7], [.ref k0], h) Q = Tr sc d 207 (2, [l0, some (.int x), l2, l3, l4, l5, l6, l7], [.int x, .ref k0], h) Q := t_iload_n k_207_1 rfl
theorem k_207_2 : lk 207 2 = some (.iload_n 2, 3, 2, 0, .null) := by decide +kernel
theorem x_207_2 : Tr sc d 207 (2, [l0, l1, some (.int x), l3, l4, l5, l6, l7], [.int i1, .ref k0], h) Q = Tr sc d 207 (3, [l0, l1, some (.int x), l3, l4, l5, l6, l7], [.int x, .int i1, .ref k0], h) Q := t_iload_n k_207_2 rfl
theorem k_207_3 : lk 207 3 = some (.iconst 5, 4, 0, 0, .int 5) := by decide +kernel
theorem x_207_3 : Tr sc d 207 (3, [l0, l1, l2, l3, l4, l5, l6, l7], [.int i2, .int i1, .ref k0], h) Q = Tr sc d 207 (4, [l0, l1, l2, l3, l4, l5, l6, l7], [.int 5, .int i2, .int i1, .ref k0], h) Q := t_go k_207_3 rfl
theorem k_207_4 : lk 207 4 = some (.invokevirtual 304, 7, 205, 3, .null) := by decide +kernel
theorem x_207_4 : Tr sc (d + 1) 207 (4, [l0, l1, l2, l3, l4, l5, l6, l7], [.int i3, .int i2, .int i1, .ref k0], h) Q = (okp h k0 10 = true ∧ Tr sc d 205 (ent0 205 [.ref k0, .int i1, .int i2, .int i3] h) (fun z => Tr sc (d + 1) 207 (7, [l0, l1, l2, l3, l4, l5, l6, l7], z.1.toList ++ [], z.2) Q)) := t_cv (as := [.int i1, .int i2, .int i3]) (r := []) k_207_4 rfl rfl (Nat.le_of_ble_eq_true rfl) (Nat.le_of_ble_eq_true rfl) (Nat.le_of_ble_eq_true rfl)
theorem k_207_7 : lk 207 7 = some (.istore 5, 9, 5, 0, .null) := by decide +kernel
theorem x_207_7 : Tr sc d 207 (7, [l0, l1, l2, l3, l4, l5, l6, l7], [.int i0], h) Q = Tr sc d 207 (9, [l0, l1, l2, l3, cl2 l4, some (.int i0), l6, l7], [], h) Q := t_istore k_207_7 (Nat.le_of_ble_eq_true rfl)
theorem k_207_9 : lk 207 9 = some (.iload 5, 11, 5, 0, .null) := by decide +kernel
theorem x_207_9 : Tr sc d 207 (9, [l0, l1, l2, l3, l4, some (.int x), l6, l7], [], h) Q = Tr sc d 207 (11, [l0, l1, l2, l3, l4, some (.int x), l6, l7], [.int x], h) Q := t_iload k_207_9 rfl
theorem k_207_11 : lk 207 11 = some (.ifCond .ge 6, 14, 17, 0, .null) := by decide +kernel
theorem x_207_11 : Tr sc d 207 (11, [l0, l1, l2, l3, l4, l5, l6, l7], [.int i0], h) Q = if 0 ≤ i0 then Tr sc d 207 (17, [l0, l1, l2, l3, l4, l5, l6, l7], [], h) Q else Tr sc d 207 (14, [l0, l1, l2, l3, l4, l5, l6, l7], [], h) Q := t_if k_207_11 rfl
theorem k_207_14 : lk 207 14 = some (.iload 5, 16, 5, 0, .null) := by decide +kernel
theorem x_207_14 : Tr sc d 207 (14, [l0, l1, l2, l3, l4, some (.int x), l6, l7], [], h) Q = Tr sc d 207 (16, [l0, l1, l2, l3, l4, some (.int x), l6, l7], [.int x], h) Q := t_iload k_207_14 rfl
theorem k_207_16 : lk 207 16 = some (.ireturn, 17, 0, 0, .null) := by decide +kernel
theorem x_207_16 : Tr sc d 207 (16, [l0, l1, l2, l3, l4, l5, l6, l7], [.int i0], h) Q = Q (some (.int i0), h) := t_ret k_207_16 (by rw [r_207]; rfl)
theorem k_207_17 : lk 207 17 = some (.aload_n 0, 18, 0, 0, .null) := by decide +kernel
theorem x_207_17 : Tr sc d 207 (17, [some (.ref xk), l1, l2, l3, l4, l5, l6, l7], [], h) Q = Tr sc d 207 (18, [some (.ref xk), l1, l2, l3, l4, l5, l6, l7], [.ref xk], h) Q := t_aload_n k_207_17 rfl
theorem k_207_18 : lk 207 18 = some (.iload_n 1, 19, 1, 0, .null) := by decide +kernel
theorem x_207_18 : Tr sc d 207 (18, [l0, some (.int x), l2, l3, l4, l5, l6, l7], [.ref k0], h) Q = Tr sc d 207 (19, [l0, some (.int x), l2, l3, l4, l5, l6, l7], [.int x, .ref k0], h) Q := t_iload_n k_207_18 rfl
theorem k_207_19 : lk 207 19 = some (.iload_n 2, 20, 2, 0, .null) := by decide +kernel
theorem x_207_19 : Tr sc d 207 (19, [l0, l1, some (.int x), l3, l4, l5, l6, l7], [.int i1, .ref k0], h) Q = Tr sc d 207 (20, [l0, l1, some (.int x), l3, l4, l5, l6, l7], [.int x, .int i1, .ref k0], h) Q := t_iload_n k_207_19 rfl
theorem k_207_20 : lk 207 20 = some (.invokevirtual 273, 23, 201, 2, .null) := by decide +kernel
theorem x_207_20 : Tr sc (d + 1) 207 (20, [l0, l1, l2, l3, l4, l5, l6, l7], [.int i2, .int i1, .ref k0], h) Q = (okp h k0 10 = true ∧ Tr sc d 201 (ent0 201 [.ref k0, .int i1, .int i2] h) (fun z => Tr sc (d + 1) 207 (23, [l0, l1, l2, l3, l4, l5, l6, l7], z.1.toList ++ [], z.2) Q)) := t_cv (as := [.int i1, .int i2]) (r := []) k_207_20 rfl rfl (Nat.le_of_ble_eq_true rfl) (Nat.le_of_ble_eq_true rfl) (Nat.le_of_ble_eq_true rfl)
theorem k_207_23 : lk 207 23 = some (.iconst 0, 24, 0, 0, .int 0) := by decide +kernel
theorem x_207_23 : Tr sc d 207 (23, [l0, l1, l2, l3, l4, l5, l6, l7], [], h) Q = Tr sc d 207 (24, [l0, l1, l2, l3, l4, l5, l6, l7], [.int 0], h) Q := t_go k_207_23 rfl
theorem k_207_24 : lk 207 24 = some (.istore 6, 26, 6, 0, .null) := by decide +kernel
theorem x_207_24 : Tr sc d 207 (24, [l0, l1, l2, l3, l4, l5, l6, l7], [.int i0], h) Q = Tr sc d 207 (26, [l0, l1, l2, l3, l4, cl2 l5, some (.int i0), l7], [], h) Q := t_istore k_207_24 (Nat.le_of_ble_eq_true rfl)
theorem k_207_26 : lk 207 26 = some (.iconst 0, 27, 0, 0, .int 0) := by decide +kernel
theorem x_207_26 : Tr sc d 207 (26, [l0, l1, l2, l3, l4, l5, l6, l7], [], h) Q = Tr sc d 207 (27, [l0, l1, l2, l3, l4, l5, l6, l7], [.int 0], h) Q := t_go k_207_26 rfl
theorem k_207_27 : lk 207 27 = some (.istore 7, 29, 7, 0, .null) := by decide +kernel
theorem x_207_27 : Tr sc d 207 (27, [l0, l1, l2, l3, l4, l5, l6, l7], [.int i0], h) Q = Tr sc d 207 (29, [l0, l1, l2, l3, l4, l5, cl2 l6, some (.int i0)], [], h) Q := t_istore k_207_27 (Nat.le_of_ble_eq_true rfl)
theorem k_207_29 : lk 207 29 = some (.iload 7, 31, 7, 0, .null) := by decide +kernel
theorem x_207_29 : Tr sc d 207 (29, [l0, l1, l2, l3, l4, l5, l6, some (.int x)], [], h) Q = Tr sc d 207 (31, [l0, l1, l2, l3, l4, l5, l6, some (.int x)], [.int x], h) Q := t_iload k_207_29 rfl
theorem k_207_31 : lk 207 31 = some (.aload_n 0, 32, 0, 0, .null) := by decide +kernel
theorem x_207_31 : Tr sc d 207 (31, [some (.ref xk), l1, l2, l3, l4, l5, l6, l7], [.int i0], h) Q = Tr sc d 207 (32, [some (.ref xk), l1, l2, l3, l4, l5, l6, l7], [.ref xk, .int i0], h) Q := t_aload_n k_207_31 rfl
theorem k_207_32 : lk 207 32 = some (.getfield 270, 35, 10, 31, .int 0) := by decide +kernel
theorem x_207_32 : Tr sc d 207 (32, [l0, l1, l2, l3, l4, l5, l6, l7], [.ref k1, .int i0], h) Q = (okp h k1 10 = true ∧ Tr sc d 207 (35, [l0, l1, l2, l3, l4, l5, l6, l7], [.int (hI h k1 31), .int i0], h) Q) := t_gd k_207_32 rfl
theorem k_207_35 : lk 207 35 = some (.if_icmp .ge 42, 38, 77, 0, .null) := by decide +kernel
theorem x_207_35 : Tr sc d 207 (35, [l0, l1, l2, l3, l4, l5, l6, l7], [.int i1, .int i0], h) Q = if i1 ≤ i0 then Tr sc d 207 (77, [l0, l1, l2, l3, l4, l5, l6, l7], [], h) Q else Tr sc d 207 (38, [l0, l1, l2, l3, l4, l5, l6, l7], [], h) Q := t_if k_207_35 rfl
theorem k_207_38 : lk 207 38 = some (.iload 6, 40, 6, 0, .null) := by decide +kernel
theorem x_207_38 : Tr sc d 207 (38, [l0, l1, l2, l3, l4, l5, some (.int x), l7], [], h) Q = Tr sc d 207 (40, [l0, l1, l2, l3, l4, l5, some (.int x), l7], [.int x], h) Q := t_iload k_207_38 rfl
theorem k_207_40 : lk 207 40 = some (.aload_n 0, 41, 0, 0, .null) := by decide +kernel
theorem x_207_40 : Tr sc d 207 (40, [some (.ref xk), l1, l2, l3, l4, l5, l6, l7], [.int i0], h) Q = Tr sc d 207 (41, [some (.ref xk), l1, l2, l3, l4, l5, l6, l7], [.ref xk, .int i0], h) Q := t_aload_n k_207_40 rfl
theorem k_207_41 : lk 207 41 = some (.getfield 63, 44, 10, 32, .null) := by decide +kernel
theorem x_207_41 : Tr sc d 207 (41, [l0, l1, l2, l3, l4, l5, l6, l7], [.ref k1, .int i0], h) Q = (okp h k1 10 = true ∧ ∃ q, hR h k1 32 = some q ∧ Tr sc d 207 (44, [l0, l1, l2, l3, l4, l5, l6, l7], [.ref q, .int i0], h) Q) := t_getr k_207_41
theorem k_207_44 : lk 207 44 = some (.iload 7, 46, 7, 0, .null) := by decide +kernel
theorem x_207_44 : Tr sc d 207 (44, [l0, l1, l2, l3, l4, l5, l6, some (.int x)], [.ref k1, .int i0], h) Q = Tr sc d 207 (46, [l0, l1, l2, l3, l4, l5, l6, some (.int x)], [.int x, .ref k1, .int i0], h) Q := t_iload k_207_44 rfl
theorem k_207_46 : lk 207 46 = some (.iaload, 47, 0, 0, .null) := by decide +kernel
theorem x_207_46 : Tr sc d 207 (46, [l0, l1, l2, l3, l4, l5, l6, l7], [.int i2, .ref k1, .int i0], h) Q = (iOk sc h k1 i2 ∧ Tr sc d 207 (47, [l0, l1, l2, l3, l4, l5, l6, l7], [.int (iRd sc h k1 i2), .int i0], h) Q) := t_iald k_207_46
theorem k_207_47 : lk 207 47 = some (.iload_n 3, 48, 3, 0, .null) := by decide +kernel
theorem x_207_47 : Tr sc d 207 (47, [l0, l1, l2, some (.int x), l4, l5, l6, l7], [.int i1, .int i0], h) Q = Tr sc d 207 (48, [l0, l1, l2, some (.int x), l4, l5, l6, l7], [.int x, .int i1, .int i0], h) Q := t_iload_n k_207_47 rfl
theorem k_207_48 : lk 207 48 = some (.if_icmp .ne 19, 51, 67, 0, .null) := by decide +kernel
theorem x_207_48 : Tr sc d 207 (48, [l0, l1, l2, l3, l4, l5, l6, l7], [.int i2, .int i1, .int i0], h) Q = if i1 = i2 then Tr sc d 207 (51, [l0, l1, l2, l3, l4, l5, l6, l7], [.int i0], h) Q else Tr sc d 207 (67, [l0, l1, l2, l3, l4, l5, l6, l7], [.int i0], h) Q := t_if k_207_48 rfl
theorem k_207_51 : lk 207 51 = some (.aload_n 0, 52, 0, 0, .null) := by decide +kernel
theorem x_207_51 : Tr sc d 207 (51, [some (.ref xk), l1, l2, l3, l4, l5, l6, l7], [.int i0], h) Q = Tr sc d 207 (52, [some (.ref xk), l1, l2, l3, l4, l5, l6, l7], [.ref xk, .int i0], h) Q := t_aload_n k_207_51 rfl
theorem k_207_52 : lk 207 52 = some (.getfield 66, 55, 10, 33, .null) := by decide +kernel
theorem x_207_52 : Tr sc d 207 (52, [l0, l1, l2, l3, l4, l5, l6, l7], [.ref k1, .int i0], h) Q = (okp h k1 10 = true ∧ ∃ q, hR h k1 33 = some q ∧ Tr sc d 207 (55, [l0, l1, l2, l3, l4, l5, l6, l7], [.ref q, .int i0], h) Q) := t_getr k_207_52
theorem k_207_55 : lk 207 55 = some (.iload 7, 57, 7, 0, .null) := by decide +kernel
theorem x_207_55 : Tr sc d 207 (55, [l0, l1, l2, l3, l4, l5, l6, some (.int x)], [.ref k1, .int i0], h) Q = Tr sc d 207 (57, [l0, l1, l2, l3, l4, l5, l6, some (.int x)], [.int x, .ref k1, .int i0], h) Q := t_iload k_207_55 rfl
theorem k_207_57 : lk 207 57 = some (.iaload, 58, 0, 0, .null) := by decide +kernel
theorem x_207_57 : Tr sc d 207 (57, [l0, l1, l2, l3, l4, l5, l6, l7], [.int i2, .ref k1, .int i0], h) Q = (iOk sc h k1 i2 ∧ Tr sc d 207 (58, [l0, l1, l2, l3, l4, l5, l6, l7], [.int (iRd sc h k1 i2), .int i0], h) Q) := t_iald k_207_57
theorem k_207_58 : lk 207 58 = some (.iload 4, 60, 4, 0, .null) := by decide +kernel
theorem x_207_58 : Tr sc d 207 (58, [l0, l1, l2, l3, some (.int x), l5, l6, l7], [.int i1, .int i0], h) Q = Tr sc d 207 (60, [l0, l1, l2, l3, some (.int x), l5, l6, l7], [.int x, .int i1, .int i0], h) Q := t_iload k_207_58 rfl
theorem k_207_60 : lk 207 60 = some (.if_icmp .ne 7, 63, 67, 0, .null) := by decide +kernel
theorem x_207_60 : Tr sc d 207 (60, [l0, l1, l2, l3, l4, l5, l6, l7], [.int i2, .int i1, .int i0], h) Q = if i1 = i2 then Tr sc d 207 (63, [l0, l1, l2, l3, l4, l5, l6, l7], [.int i0], h) Q else Tr sc d 207 (67, [l0, l1, l2, l3, l4, l5, l6, l7], [.int i0], h) Q := t_if k_207_60 rfl
theorem k_207_63 : lk 207 63 = some (.iconst 1, 64, 0, 0, .int 1) := by decide +kernel
theorem x_207_63 : Tr sc d 207 (63, [l0, l1, l2, l3, l4, l5, l6, l7], [.int i0], h) Q = Tr sc d 207 (64, [l0, l1, l2, l3, l4, l5, l6, l7], [.int 1, .int i0], h) Q := t_go k_207_63 rfl
theorem k_207_64 : lk 207 64 = some (.goto 4, 67, 68, 0, .null) := by decide +kernel
theorem x_207_64 : Tr sc d 207 (64, [l0, l1, l2, l3, l4, l5, l6, l7], [.int i1, .int i0], h) Q = Tr sc d 207 (68, [l0, l1, l2, l3, l4, l5, l6, l7], [.int i1, .int i0], h) Q := t_go k_207_64 rfl
theorem k_207_67 : lk 207 67 = some (.iconst 0, 68, 0, 0, .int 0) := by decide +kernel
theorem x_207_67 : Tr sc d 207 (67, [l0, l1, l2, l3, l4, l5, l6, l7], [.int i0], h) Q = Tr sc d 207 (68, [l0, l1, l2, l3, l4, l5, l6, l7], [.int 0, .int i0], h) Q := t_go k_207_67 rfl
theorem k_207_68 : lk 207 68 = some (.iadd, 69, 0, 0, .null) := by decide +kernel
theorem x_207_68 : Tr sc d 207 (68, [l0, l1, l2, l3, l4, l5, l6, l7], [.int i1, .int i0], h) Q = Tr sc d 207 (69, [l0, l1, l2, l3, l4, l5, l6, l7], [.int (i0 + i1)], h) Q := t_go k_207_68 rfl
theorem k_207_69 : lk 207 69 = some (.istore 6, 71, 6, 0, .null) := by decide +kernel
theorem x_207_69 : Tr sc d 207 (69, [l0, l1, l2, l3, l4, l5, l6, l7], [.int i0], h) Q = Tr sc d 207 (71, [l0, l1, l2, l3, l4, cl2 l5, some (.int i0), l7], [], h) Q := t_istore k_207_69 (Nat.le_of_ble_eq_true rfl)
theorem k_207_71 : lk 207 71 = some (.iinc 7 1, 74, 7, 0, .int 1) := by decide +kernel
theorem x_207_71 : Tr sc d 207 (71, [l0, l1, l2, l3, l4, l5, l6, some (.int x)], [], h) Q = Tr sc d 207 (74, [l0, l1, l2, l3, l4, l5, cl2 l6, some (.int (x + 1))], [], h) Q := t_inc k_207_71 rfl (Nat.le_of_ble_eq_true rfl)
theorem k_207_74 : lk 207 74 = some (.goto (-45), 77, 29, 0, .null) := by decide +kernel
theorem x_207_74 : Tr sc d 207 (74, [l0, l1, l2, l3, l4, l5, l6, l7], [], h) Q = Tr sc d 207 (29, [l0, l1, l2, l3, l4, l5, l6, l7], [], h) Q := t_go k_207_74 rfl
theorem k_207_77 : lk 207 77 = some (.iload 6, 79, 6, 0, .null) := by decide +kernel
theorem x_207_77 : Tr sc d 207 (77, [l0, l1, l2, l3, l4, l5, some (.int x), l7], [], h) Q = Tr sc d 207 (79, [l0, l1, l2, l3, l4, l5, some (.int x), l7], [.int x], h) Q := t_iload k_207_77 rfl
theorem k_207_79 : lk 207 79 = some (.ireturn, 80, 0, 0, .null) := by decide +kernel
theorem x_207_79 : Tr sc d 207 (79, [l0, l1, l2, l3, l4, l5, l6, l7], [.int i0], h) Q = Q (some (.int i0), h) := t_ret k_207_79 (by rw [r_207]; rfl)
theorem e_207 : Tr sc d 207 (ent0 207 [.ref k0, .int i1, .int i2, .int i3, .int i4] h) Q = Tr sc d 207 (0, [some (.ref k0), some (.int i1), some (.int i2), some (.int i3), some (.int i4), none, none, none], [], h) Q := by
  have e : mL 207 = 8 := by decide +kernel
  unfold ent0
  rw [e]
  rfl
theorem r_208 : mR 208 = some .int := by decide +kernel
theorem k_208_0 : lk 208 0 = some (.iload_n 3, 1, 3, 0, .null) := by decide +kernel
theorem x_208_0 : Tr sc d 208 (0, [l0, l1, l2, some (.int x), l4], [], h) Q = Tr sc d 208 (1, [l0, l1, l2, some (.int x), l4], [.int x], h) Q := t_iload_n k_208_0 rfl
theorem k_208_1 : lk 208 1 = some (.iconst 0, 2, 0, 0, .int 0) := by decide +kernel
theorem x_208_1 : Tr sc d 208 (1, [l0, l1, l2, l3, l4], [.int i0], h) Q = Tr sc d 208 (2, [l0, l1, l2, l3, l4], [.int 0, .int i0], h) Q := t_go k_208_1 rfl
theorem k_208_2 : lk 208 2 = some (.iconst 3, 3, 0, 0, .int 3) := by decide +kernel
theorem x_208_2 : Tr sc d 208 (2, [l0, l1, l2, l3, l4], [.int i1, .int i0], h) Q = Tr sc d 208 (3, [l0, l1, l2, l3, l4], [.int 3, .int i1, .int i0], h) Q := t_go k_208_2 rfl
theorem k_208_3 : lk 208 3 = some (.invokestatic 144, 6, 156, 3, .null) := by decide +kernel
theorem x_208_3 : Tr sc (d + 1) 208 (3, [l0, l1, l2, l3, l4], [.int i2, .int i1, .int i0], h) Q = Tr sc d 156 (ent0 156 [.int i0, .int i1, .int i2] h) (fun z => Tr sc (d + 1) 208 (6, [l0, l1, l2, l3, l4], z.1.toList ++ [], z.2) Q) := t_cs (as := [.int i0, .int i1, .int i2]) (r := []) k_208_3 (by decide) rfl rfl (Nat.le_of_ble_eq_true rfl) (Nat.le_of_ble_eq_true rfl)
theorem k_208_6 : lk 208 6 = some (.ifCond .ne 5, 9, 11, 0, .null) := by decide +kernel
theorem x_208_6 : Tr sc d 208 (6, [l0, l1, l2, l3, l4], [.int i0], h) Q = if i0 = 0 then Tr sc d 208 (9, [l0, l1, l2, l3, l4], [], h) Q else Tr sc d 208 (11, [l0, l1, l2, l3, l4], [], h) Q := t_if k_208_6 rfl
theorem k_208_9 : lk 208 9 = some (.iconst (-1), 10, 0, 0, .int (-1)) := by decide +kernel
theorem x_208_9 : Tr sc d 208 (9, [l0, l1, l2, l3, l4], [], h) Q = Tr sc d 208 (10, [l0, l1, l2, l3, l4], [.int (-1)], h) Q := t_go k_208_9 rfl
theorem k_208_10 : lk 208 10 = some (.ireturn, 11, 0, 0, .null) := by decide +kernel
theorem x_208_10 : Tr sc d 208 (10, [l0, l1, l2, l3, l4], [.int i0], h) Q = Q (some (.int i0), h) := t_ret k_208_10 (by rw [r_208]; rfl)
theorem k_208_11 : lk 208 11 = some (.aload_n 0, 12, 0, 0, .null) := by decide +kernel
theorem x_208_11 : Tr sc d 208 (11, [some (.ref xk), l1, l2, l3, l4], [], h) Q = Tr sc d 208 (12, [some (.ref xk), l1, l2, l3, l4], [.ref xk], h) Q := t_aload_n k_208_11 rfl
theorem k_208_12 : lk 208 12 = some (.iload_n 1, 13, 1, 0, .null) := by decide +kernel
theorem x_208_12 : Tr sc d 208 (12, [l0, some (.int x), l2, l3, l4], [.ref k0], h) Q = Tr sc d 208 (13, [l0, some (.int x), l2, l3, l4], [.int x, .ref k0], h) Q := t_iload_n k_208_12 rfl
theorem k_208_13 : lk 208 13 = some (.iload_n 2, 14, 2, 0, .null) := by decide +kernel
theorem x_208_13 : Tr sc d 208 (13, [l0, l1, some (.int x), l3, l4], [.int i1, .ref k0], h) Q = Tr sc d 208 (14, [l0, l1, some (.int x), l3, l4], [.int x, .int i1, .ref k0], h) Q := t_iload_n k_208_13 rfl
theorem k_208_14 : lk 208 14 = some (.iconst 5, 15, 0, 0, .int 5) := by decide +kernel
theorem x_208_14 : Tr sc d 208 (14, [l0, l1, l2, l3, l4], [.int i2, .int i1, .ref k0], h) Q = Tr sc d 208 (15, [l0, l1, l2, l3, l4], [.int 5, .int i2, .int i1, .ref k0], h) Q := t_go k_208_14 rfl
theorem k_208_15 : lk 208 15 = some (.invokevirtual 304, 18, 205, 3, .null) := by decide +kernel
theorem x_208_15 : Tr sc (d + 1) 208 (15, [l0, l1, l2, l3, l4], [.int i3, .int i2, .int i1, .ref k0], h) Q = (okp h k0 10 = true ∧ Tr sc d 205 (ent0 205 [.ref k0, .int i1, .int i2, .int i3] h) (fun z => Tr sc (d + 1) 208 (18, [l0, l1, l2, l3, l4], z.1.toList ++ [], z.2) Q)) := t_cv (as := [.int i1, .int i2, .int i3]) (r := []) k_208_15 rfl rfl (Nat.le_of_ble_eq_true rfl) (Nat.le_of_ble_eq_true rfl) (Nat.le_of_ble_eq_true rfl)
theorem k_208_18 : lk 208 18 = some (.istore 4, 20, 4, 0, .null) := by decide +kernel
theorem x_208_18 : Tr sc d 208 (18, [l0, l1, l2, l3, l4], [.int i0], h) Q = Tr sc d 208 (20, [l0, l1, l2, cl2 l3, some (.int i0)], [], h) Q := t_istore k_208_18 (Nat.le_of_ble_eq_true rfl)
theorem k_208_20 : lk 208 20 = some (.iload 4, 22, 4, 0, .null) := by decide +kernel
theorem x_208_20 : Tr sc d 208 (20, [l0, l1, l2, l3, some (.int x)], [], h) Q = Tr sc d 208 (22, [l0, l1, l2, l3, some (.int x)], [.int x], h) Q := t_iload k_208_20 rfl
theorem k_208_22 : lk 208 22 = some (.ifCond .ge 6, 25, 28, 0, .null) := by decide +kernel
theorem x_208_22 : Tr sc d 208 (22, [l0, l1, l2, l3, l4], [.int i0], h) Q = if 0 ≤ i0 then Tr sc d 208 (28, [l0, l1, l2, l3, l4], [], h) Q else Tr sc d 208 (25, [l0, l1, l2, l3, l4], [], h) Q := t_if k_208_22 rfl
theorem k_208_25 : lk 208 25 = some (.iload 4, 27, 4, 0, .null) := by decide +kernel
theorem x_208_25 : Tr sc d 208 (25, [l0, l1, l2, l3, some (.int x)], [], h) Q = Tr sc d 208 (27, [l0, l1, l2, l3, some (.int x)], [.int x], h) Q := t_iload k_208_25 rfl
theorem k_208_27 : lk 208 27 = some (.ireturn, 28, 0, 0, .null) := by decide +kernel
theorem x_208_27 : Tr sc d 208 (27, [l0, l1, l2, l3, l4], [.int i0], h) Q = Q (some (.int i0), h) := t_ret k_208_27 (by rw [r_208]; rfl)
theorem k_208_28 : lk 208 28 = some (.aload_n 0, 29, 0, 0, .null) := by decide +kernel
theorem x_208_28 : Tr sc d 208 (28, [some (.ref xk), l1, l2, l3, l4], [], h) Q = Tr sc d 208 (29, [some (.ref xk), l1, l2, l3, l4], [.ref xk], h) Q := t_aload_n k_208_28 rfl
theorem k_208_29 : lk 208 29 = some (.iload_n 1, 30, 1, 0, .null) := by decide +kernel
theorem x_208_29 : Tr sc d 208 (29, [l0, some (.int x), l2, l3, l4], [.ref k0], h) Q = Tr sc d 208 (30, [l0, some (.int x), l2, l3, l4], [.int x, .ref k0], h) Q := t_iload_n k_208_29 rfl
theorem k_208_30 : lk 208 30 = some (.iload_n 2, 31, 2, 0, .null) := by decide +kernel
theorem x_208_30 : Tr sc d 208 (30, [l0, l1, some (.int x), l3, l4], [.int i1, .ref k0], h) Q = Tr sc d 208 (31, [l0, l1, some (.int x), l3, l4], [.int x, .int i1, .ref k0], h) Q := t_iload_n k_208_30 rfl
theorem k_208_31 : lk 208 31 = some (.invokevirtual 307, 34, 203, 2, .null) := by decide +kernel
theorem x_208_31 : Tr sc (d + 1) 208 (31, [l0, l1, l2, l3, l4], [.int i2, .int i1, .ref k0], h) Q = (okp h k0 10 = true ∧ Tr sc d 203 (ent0 203 [.ref k0, .int i1, .int i2] h) (fun z => Tr sc (d + 1) 208 (34, [l0, l1, l2, l3, l4], z.1.toList ++ [], z.2) Q)) := t_cv (as := [.int i1, .int i2]) (r := []) k_208_31 rfl rfl (Nat.le_of_ble_eq_true rfl) (Nat.le_of_ble_eq_true rfl) (Nat.le_of_ble_eq_true rfl)
theorem k_208_34 : lk 208 34 = some (.aload_n 0, 35, 0, 0, .null) := by decide +kernel
theorem x_208_34 : Tr sc d 208 (34, [some (.ref xk), l1, l2, l3, l4], [], h) Q = Tr sc d 208 (35, [some (.ref xk), l1, l2, l3, l4], [.ref xk], h) Q := t_aload_n k_208_34 rfl
theorem k_208_35 : lk 208 35 = some (.getfield 283, 38, 10, 36, .int 0) := by decide +kernel
theorem x_208_35 : Tr sc d 208 (35, [l0, l1, l2, l3, l4], [.ref k0], h) Q = (okp h k0 10 = true ∧ Tr sc d 208 (38, [l0, l1, l2, l3, l4], [.int (hI h k0 36)], h) Q) := t_gd k_208_35 rfl
theorem k_208_38 : lk 208 38 = some (.ifCond .ne 11, 41, 49, 0, .null) := by decide +kernel
theorem x_208_38 : Tr sc d 208 (38, [l0, l1, l2, l3, l4], [.int i0], h) Q = if i0 = 0 then Tr sc d 208 (41, [l0, l1, l2, l3, l4], [], h) Q else Tr sc d 208 (49, [l0, l1, l2, l3, l4], [], h) Q := t_if k_208_38 rfl
theorem k_208_41 : lk 208 41 = some (.aload_n 0, 42, 0, 0, .null) := by decide +kernel
theorem x_208_41 : Tr sc d 208 (41, [some (.ref xk), l1, l2, l3, l4], [], h) Q = Tr sc d 208 (42, [some (.ref xk), l1, l2, l3, l4], [.ref xk], h) Q := t_aload_n k_208_41 rfl
theorem k_208_42 : lk 208 42 = some (.iconst 4, 43, 0, 0, .int 4) := by decide +kernel
theorem x_208_42 : Tr sc d 208 (42, [l0, l1, l2, l3, l4], [.ref k0], h) Q = Tr sc d 208 (43, [l0, l1, l2, l3, l4], [.int 4, .ref k0], h) Q := t_go k_208_42 rfl
theorem k_208_43 : lk 208 43 = some (.invokevirtual 152, 46, 157, 1, .null) := by decide +kernel
theorem x_208_43 : Tr sc (d + 1) 208 (43, [l0, l1, l2, l3, l4], [.int i1, .ref k0], h) Q = (okp h k0 10 = true ∧ Tr sc d 157 (ent0 157 [.ref k0, .int i1] h) (fun z => Tr sc (d + 1) 208 (46, [l0, l1, l2, l3, l4], z.1.toList ++ [], z.2) Q)) := t_cv (as := [.int i1]) (r := []) k_208_43 rfl rfl (Nat.le_of_ble_eq_true rfl) (Nat.le_of_ble_eq_true rfl) (Nat.le_of_ble_eq_true rfl)
theorem k_208_46 : lk 208 46 = some (.goto 47, 49, 93, 0, .null) := by decide +kernel
theorem x_208_46 : Tr sc d 208 (46, [l0, l1, l2, l3, l4], [.int i0], h) Q = Tr sc d 208 (93, [l0, l1, l2, l3, l4], [.int i0], h) Q := t_go k_208_46 rfl
theorem k_208_49 : lk 208 49 = some (.aload_n 0, 50, 0, 0, .null) := by decide +kernel
theorem x_208_49 : Tr sc d 208 (49, [some (.ref xk), l1, l2, l3, l4], [], h) Q = Tr sc d 208 (50, [some (.ref xk), l1, l2, l3, l4], [.ref xk], h) Q := t_aload_n k_208_49 rfl
theorem k_208_50 : lk 208 50 = some (.iload_n 3, 51, 3, 0, .null) := by decide +kernel
theorem x_208_50 : Tr sc d 208 (50, [l0, l1, l2, some (.int x), l4], [.ref k0], h) Q = Tr sc d 208 (51, [l0, l1, l2, some (.int x), l4], [.int x, .ref k0], h) Q := t_iload_n k_208_50 rfl
theorem k_208_51 : lk 208 51 = some (.ifCond .ne 10, 54, 61, 0, .null) := by decide +kernel
theorem x_208_51 : Tr sc d 208 (51, [l0, l1, l2, l3, l4], [.int i1, .ref k0], h) Q = if i1 = 0 then Tr sc d 208 (54, [l0, l1, l2, l3, l4], [.ref k0], h) Q else Tr sc d 208 (61, [l0, l1, l2, l3, l4], [.ref k0], h) Q := t_if k_208_51 rfl
theorem k_208_54 : lk 208 54 = some (.aload_n 0, 55, 0, 0, .null) := by decide +kernel
theorem x_208_54 : Tr sc d 208 (54, [some (.ref xk), l1, l2, l3, l4], [.ref k0], h) Q = Tr sc d 208 (55, [some (.ref xk), l1, l2, l3, l4], [.ref xk, .ref k0], h) Q := t_aload_n k_208_54 rfl
theorem k_208_55 : lk 208 55 = some (.getfield 292, 58, 10, 41, .int 0) := by decide +kernel
theorem x_208_55 : Tr sc d 208 (55, [l0, l1, l2, l3, l4], [.ref k1, .ref k0], h) Q = (okp h k1 10 = true ∧ Tr sc d 208 (58, [l0, l1, l2, l3, l4], [.int (hI h k1 41), .ref k0], h) Q) := t_gd k_208_55 rfl
theorem k_208_58 : lk 208 58 = some (.goto 31, 61, 89, 0, .null) := by decide +kernel
theorem x_208_58 : Tr sc d 208 (58, [l0, l1, l2, l3, l4], [.int i1, .ref k0], h) Q = Tr sc d 208 (89, [l0, l1, l2, l3, l4], [.int i1, .ref k0], h) Q := t_go k_208_58 rfl
theorem k_208_61 : lk 208 61 = some (.iload_n 3, 62, 3, 0, .null) := by decide +kernel
theorem x_208_61 : Tr sc d 208 (61, [l0, l1, l2, some (.int x), l4], [.ref k0], h) Q = Tr sc d 208 (62, [l0, l1, l2, some (.int x), l4], [.int x, .ref k0], h) Q := t_iload_n k_208_61 rfl
theorem k_208_62 : lk 208 62 = some (.iconst 1, 63, 0, 0, .int 1) := by decide +kernel
theorem x_208_62 : Tr sc d 208 (62, [l0, l1, l2, l3, l4], [.int i1, .ref k0], h) Q = Tr sc d 208 (63, [l0, l1, l2, l3, l4], [.int 1, .int i1, .ref k0], h) Q := t_go k_208_62 rfl
theorem k_208_63 : lk 208 63 = some (.if_icmp .ne 10, 66, 73, 0, .null) := by decide +kernel
theorem x_208_63 : Tr sc d 208 (63, [l0, l1, l2, l3, l4], [.int i2, .int i1, .ref k0], h) Q = if i1 = i2 then Tr sc d 208 (66, [l0, l1, l2, l3, l4], [.ref k0], h) Q else Tr sc d 208 (73, [l0, l1, l2, l3, l4], [.ref k0], h) Q := t_if k_208_63 rfl
theorem k_208_66 : lk 208 66 = some (.aload_n 0, 67, 0, 0, .null) := by decide +kernel
theorem x_208_66 : Tr sc d 208 (66, [some (.ref xk), l1, l2, l3, l4], [.ref k0], h) Q = Tr sc d 208 (67, [some (.ref xk), l1, l2, l3, l4], [.ref xk, .ref k0], h) Q := t_aload_n k_208_66 rfl
theorem k_208_67 : lk 208 67 = some (.getfield 295, 70, 10, 42, .int 0) := by decide +kernel
theorem x_208_67 : Tr sc d 208 (67, [l0, l1, l2, l3, l4], [.ref k1, .ref k0], h) Q = (okp h k1 10 = true ∧ Tr sc d 208 (70, [l0, l1, l2, l3, l4], [.int (hI h k1 42), .ref k0], h) Q) := t_gd k_208_67 rfl
theorem k_208_70 : lk 208 70 = some (.goto 19, 73, 89, 0, .null) := by decide +kernel
theorem x_208_70 : Tr sc d 208 (70, [l0, l1, l2, l3, l4], [.int i1, .ref k0], h) Q = Tr sc d 208 (89, [l0, l1, l2, l3, l4], [.int i1, .ref k0], h) Q := t_go k_208_70 rfl
theorem k_208_73 : lk 208 73 = some (.iload_n 3, 74, 3, 0, .null) := by decide +kernel
theorem x_208_73 : Tr sc d 208 (73, [l0, l1, l2, some (.int x), l4], [.ref k0], h) Q = Tr sc d 208 (74, [l0, l1, l2, some (.int x), l4], [.int x, .ref k0], h) Q := t_iload_n k_208_73 rfl
theorem k_208_74 : lk 208 74 = some (.iconst 2, 75, 0, 0, .int 2) := by decide +kernel
theorem x_208_74 : Tr sc d 208 (74, [l0, l1, l2, l3, l4], [.int i1, .ref k0], h) Q = Tr sc d 208 (75, [l0, l1, l2, l3, l4], [.int 2, .int i1, .ref k0], h) Q := t_go k_208_74 rfl
theorem k_208_75 : lk 208 75 = some (.if_icmp .ne 10, 78, 85, 0, .null) := by decide +kernel
theorem x_208_75 : Tr sc d 208 (75, [l0, l1, l2, l3, l4], [.int i2, .int i1, .ref k0], h) Q = if i1 = i2 then Tr sc d 208 (78, [l0, l1, l2, l3, l4], [.ref k0], h) Q else Tr sc d 208 (85, [l0, l1, l2, l3, l4], [.ref k0], h) Q := t_if k_208_75 rfl
theorem k_208_78 : lk 208 78 = some (.aload_n 0, 79, 0, 0, .null) := by decide +kernel
theorem x_208_78 : Tr sc d 208 (78, [some (.ref xk), l1, l2, l3, l4], [.ref k0], h) Q = Tr sc d 208 (79, [some (.ref xk), l1, l2, l3, l4], [.ref xk, .ref k0], h) Q := t_aload_n k_208_78 rfl
theorem k_208_79 : lk 208 79 = some (.getfield 298, 82, 10, 43, .int 0) := by decide +kernel
theorem x_208_79 : Tr sc d 208 (79, [l0, l1, l2, l3, l4], [.ref k1, .ref k0], h) Q = (okp h k1 10 = true ∧ Tr sc d 208 (82, [l0, l1, l2, l3, l4], [.int (hI h k1 43), .ref k0], h) Q) := t_gd k_208_79 rfl
theorem k_208_82 : lk 208 82 = some (.goto 7, 85, 89, 0, .null) := by decide +kernel
theorem x_208_82 : Tr sc d 208 (82, [l0, l1, l2, l3, l4], [.int i1, .ref k0], h) Q = Tr sc d 208 (89, [l0, l1, l2, l3, l4], [.int i1, .ref k0], h) Q := t_go k_208_82 rfl
theorem k_208_85 : lk 208 85 = some (.aload_n 0, 86, 0, 0, .null) := by decide +kernel
theorem x_208_85 : Tr sc d 208 (85, [some (.ref xk), l1, l2, l3, l4], [.ref k0], h) Q = Tr sc d 208 (86, [some (.ref xk), l1, l2, l3, l4], [.ref xk, .ref k0], h) Q := t_aload_n k_208_85 rfl
theorem k_208_86 : lk 208 86 = some (.getfield 301, 89, 10, 44, .int 0) := by decide +kernel
theorem x_208_86 : Tr sc d 208 (86, [l0, l1, l2, l3, l4], [.ref k1, .ref k0], h) Q = (okp h k1 10 = true ∧ Tr sc d 208 (89, [l0, l1, l2, l3, l4], [.int (hI h k1 44), .ref k0], h) Q) := t_gd k_208_86 rfl
theorem k_208_89 : lk 208 89 = some (.iconst 1, 90, 0, 0, .int 1) := by decide +kernel
theorem x_208_89 : Tr sc d 208 (89, [l0, l1, l2, l3, l4], [.int i1, .ref k0], h) Q = Tr sc d 208 (90, [l0, l1, l2, l3, l4], [.int 1, .int i1, .ref k0], h) Q := t_go k_208_89 rfl
theorem k_208_90 : lk 208 90 = some (.invokevirtual 162, 93, 158, 2, .null) := by decide +kernel
theorem x_208_90 : Tr sc (d + 1) 208 (90, [l0, l1, l2, l3, l4], [.int i2, .int i1, .ref k0], h) Q = (okp h k0 10 = true ∧ Tr sc d 158 (ent0 158 [.ref k0, .int i1, .int i2] h) (fun z => Tr sc (d + 1) 208 (93, [l0, l1, l2, l3, l4], z.1.toList ++ [], z.2) Q)) := t_cv (as := [.int i1, .int i2]) (r := []) k_208_90 rfl rfl (Nat.le_of_ble_eq_true rfl) (Nat.le_of_ble_eq_true rfl) (Nat.le_of_ble_eq_true rfl)
theorem k_208_93 : lk 208 93 = some (.ireturn, 94, 0, 0, .null) := by decide +kernel
theorem x_208_93 : Tr sc d 208 (93, [l0, l1, l2, l3, l4], [.int i0], h) Q = Q (some (.int i0), h) := t_ret k_208_93 (by rw [r_208]; rfl)
theorem e_208 : Tr sc d 208 (ent0 208 [.ref k0, .int i1, .int i2, .int i3] h) Q = Tr sc d 208 (0, [some (.ref k0), some (.int i1), some (.int i2), some (.int i3), none], [], h) Q := by
  have e : mL 208 = 5 := by decide +kernel
  unfold ent0
  rw [e]
  rfl
theorem r_209 : mR 209 = some .int := by decide +kernel
theorem k_209_0 : lk 209 0 = some (.aload_n 0, 1, 0, 0, .null) := by decide +kernel
theorem x_209_0 : Tr sc d 209 (0, [some (.ref xk), l1, l2, l3], [], h) Q = Tr sc d 209 (1, [some (.ref xk), l1, l2, l3], [.ref xk], h) Q := t_aload_n k_209_0 rfl
theorem k_209_1 : lk 209 1 = some (.iload_n 1, 2, 1, 0, .null) := by decide +kernel
theorem x_209_1 : Tr sc d 209 (1, [l0, some (.int x), l2, l3], [.ref k0], h) Q = Tr sc d 209 (2, [l0, some (.int x), l2, l3], [.int x, .ref k0], h) Q := t_iload_n k_209_1 rfl
theorem k_209_2 : lk 209 2 = some (.invokevirtual 220, 5, 176, 1, .null) := by decide +kernel
theorem x_209_2 : Tr sc (d + 1) 209 (2, [l0, l1, l2, l3], [.int i1, .ref k0], h) Q = (okp h k0 10 = true ∧ Tr sc d 176 (ent0 176 [.ref k0, .int i1] h) (fun z => Tr sc (d + 1) 209 (5, [l0, l1, l2, l3], z.1.toList ++ [], z.2) Q)) := t_cv (as := [.int i1]) (r := []) k_209_2 rfl rfl (Nat.le_of_ble_eq_true rfl) (Nat.le_of_ble_eq_true rfl) (Nat.le_of_ble_eq_true rfl)
theorem k_209_5 : lk 209 5 = some (.istore_n 2, 6, 2, 0, .null) := by decide +kernel
theorem x_209_5 : Tr sc d 209 (5, [l0, l1, l2, l3], [.int i0], h) Q = Tr sc d 209 (6, [l0, cl2 l1, some (.int i0), l3], [], h) Q := t_istore_n k_209_5 (Nat.le_of_ble_eq_true rfl)
theorem k_209_6 : lk 209 6 = some (.iload_n 2, 7, 2, 0, .null) := by decide +kernel
theorem x_209_6 : Tr sc d 209 (6, [l0, l1, some (.int x), l3], [], h) Q = Tr sc d 209 (7, [l0, l1, some (.int x), l3], [.int x], h) Q := t_iload_n k_209_6 rfl
theorem k_209_7 : lk 209 7 = some (.ifCond .ge 5, 10, 12, 0, .null) := by decide +kernel
theorem x_209_7 : Tr sc d 209 (7, [l0, l1, l2, l3], [.int i0], h) Q = if 0 ≤ i0 then Tr sc d 209 (12, [l0, l1, l2, l3], [], h) Q else Tr sc d 209 (10, [l0, l1, l2, l3], [], h) Q := t_if k_209_7 rfl
theorem k_209_10 : lk 209 10 = some (.iload_n 2, 11, 2, 0, .null) := by decide +kernel
theorem x_209_10 : Tr sc d 209 (10, [l0, l1, some (.int x), l3], [], h) Q = Tr sc d 209 (11, [l0, l1, some (.int x), l3], [.int x], h) Q := t_iload_n k_209_10 rfl
theorem k_209_11 : lk 209 11 = some (.ireturn, 12, 0, 0, .null) := by decide +kernel
theorem x_209_11 : Tr sc d 209 (11, [l0, l1, l2, l3], [.int i0], h) Q = Q (some (.int i0), h) := t_ret k_209_11 (by rw [r_209]; rfl)
theorem k_209_12 : lk 209 12 = some (.iconst 1, 13, 0, 0, .int 1) := by decide +kernel
theorem x_209_12 : Tr sc d 209 (12, [l0, l1, l2, l3], [], h) Q = Tr sc d 209 (13, [l0, l1, l2, l3], [.int 1], h) Q := t_go k_209_12 rfl
theorem k_209_13 : lk 209 13 = some (.istore_n 3, 14, 3, 0, .null) := by decide +kernel
theorem x_209_13 : Tr sc d 209 (13, [l0, l1, l2, l3], [.int i0], h) Q = Tr sc d 209 (14, [l0, l1, cl2 l2, some (.int i0)], [], h) Q := t_istore_n k_209_13 (Nat.le_of_ble_eq_true rfl)
theorem k_209_14 : lk 209 14 = some (.iload_n 3, 15, 3, 0, .null) := by decide +kernel
theorem x_209_14 : Tr sc d 209 (14, [l0, l1, l2, some (.int x)], [], h) Q = Tr sc d 209 (15, [l0, l1, l2, some (.int x)], [.int x], h) Q := t_iload_n k_209_14 rfl
theorem k_209_15 : lk 209 15 = some (.iconst 5, 16, 0, 0, .int 5) := by decide +kernel
theorem x_209_15 : Tr sc d 209 (15, [l0, l1, l2, l3], [.int i0], h) Q = Tr sc d 209 (16, [l0, l1, l2, l3], [.int 5, .int i0], h) Q := t_go k_209_15 rfl
theorem k_209_16 : lk 209 16 = some (.if_icmp .gt 34, 19, 50, 0, .null) := by decide +kernel
theorem x_209_16 : Tr sc d 209 (16, [l0, l1, l2, l3], [.int i1, .int i0], h) Q = if i1 < i0 then Tr sc d 209 (50, [l0, l1, l2, l3], [], h) Q else Tr sc d 209 (19, [l0, l1, l2, l3], [], h) Q := t_if k_209_16 rfl
theorem k_209_19 : lk 209 19 = some (.aload_n 0, 20, 0, 0, .null) := by decide +kernel
theorem x_209_19 : Tr sc d 209 (19, [some (.ref xk), l1, l2, l3], [], h) Q = Tr sc d 209 (20, [some (.ref xk), l1, l2, l3], [.ref xk], h) Q := t_aload_n k_209_19 rfl
theorem k_209_20 : lk 209 20 = some (.iload_n 1, 21, 1, 0, .null) := by decide +kernel
theorem x_209_20 : Tr sc d 209 (20, [l0, some (.int x), l2, l3], [.ref k0], h) Q = Tr sc d 209 (21, [l0, some (.int x), l2, l3], [.int x, .ref k0], h) Q := t_iload_n k_209_20 rfl
theorem k_209_21 : lk 209 21 = some (.iload_n 3, 22, 3, 0, .null) := by decide +kernel
theorem x_209_21 : Tr sc d 209 (21, [l0, l1, l2, some (.int x)], [.int i1, .ref k0], h) Q = Tr sc d 209 (22, [l0, l1, l2, some (.int x)], [.int x, .int i1, .ref k0], h) Q := t_iload_n k_209_21 rfl
theorem k_209_22 : lk 209 22 = some (.invokevirtual 307, 25, 203, 2, .null) := by decide +kernel
theorem x_209_22 : Tr sc (d + 1) 209 (22, [l0, l1, l2, l3], [.int i2, .int i1, .ref k0], h) Q = (okp h k0 10 = true ∧ Tr sc d 203 (ent0 203 [.ref k0, .int i1, .int i2] h) (fun z => Tr sc (d + 1) 209 (25, [l0, l1, l2, l3], z.1.toList ++ [], z.2) Q)) := t_cv (as := [.int i1, .int i2]) (r := []) k_209_22 rfl rfl (Nat.le_of_ble_eq_true rfl) (Nat.le_of_ble_eq_true rfl) (Nat.le_of_ble_eq_true rfl)
theorem k_209_25 : lk 209 25 = some (.aload_n 0, 26, 0, 0, .null) := by decide +kernel
theorem x_209_25 : Tr sc d 209 (25, [some (.ref xk), l1, l2, l3], [], h) Q = Tr sc d 209 (26, [some (.ref xk), l1, l2, l3], [.ref xk], h) Q := t_aload_n k_209_25 rfl
theorem k_209_26 : lk 209 26 = some (.getfield 283, 29, 10, 36, .int 0) := by decide +kernel
theorem x_209_26 : Tr sc d 209 (26, [l0, l1, l2, l3], [.ref k0], h) Q = (okp h k0 10 = true ∧ Tr sc d 209 (29, [l0, l1, l2, l3], [.int (hI h k0 36)], h) Q) := t_gd k_209_26 rfl
theorem k_209_29 : lk 209 29 = some (.aload_n 0, 30, 0, 0, .null) := by decide +kernel
theorem x_209_29 : Tr sc d 209 (29, [some (.ref xk), l1, l2, l3], [.int i0], h) Q = Tr sc d 209 (30, [some (.ref xk), l1, l2, l3], [.ref xk, .int i0], h) Q := t_aload_n k_209_29 rfl
theorem k_209_30 : lk 209 30 = some (.getfield 41, 33, 10, 18, .null) := by decide +kernel
theorem x_209_30 : Tr sc d 209 (30, [l0, l1, l2, l3], [.ref k1, .int i0], h) Q = (okp h k1 10 = true ∧ ∃ q, hR h k1 18 = some q ∧ Tr sc d 209 (33, [l0, l1, l2, l3], [.ref q, .int i0], h) Q) := t_getr k_209_30
theorem k_209_33 : lk 209 33 = some (.iload_n 1, 34, 1, 0, .null) := by decide +kernel
theorem x_209_33 : Tr sc d 209 (33, [l0, some (.int x), l2, l3], [.ref k1, .int i0], h) Q = Tr sc d 209 (34, [l0, some (.int x), l2, l3], [.int x, .ref k1, .int i0], h) Q := t_iload_n k_209_33 rfl
theorem k_209_34 : lk 209 34 = some (.iaload, 35, 0, 0, .null) := by decide +kernel
theorem x_209_34 : Tr sc d 209 (34, [l0, l1, l2, l3], [.int i2, .ref k1, .int i0], h) Q = (iOk sc h k1 i2 ∧ Tr sc d 209 (35, [l0, l1, l2, l3], [.int (iRd sc h k1 i2), .int i0], h) Q) := t_iald k_209_34
theorem k_209_35 : lk 209 35 = some (.iload_n 3, 36, 3, 0, .null) := by decide +kernel
theorem x_209_35 : Tr sc d 209 (35, [l0, l1, l2, some (.int x)], [.int i1, .int i0], h) Q = Tr sc d 209 (36, [l0, l1, l2, some (.int x)], [.int x, .int i1, .int i0], h) Q := t_iload_n k_209_35 rfl
theorem k_209_36 : lk 209 36 = some (.invokestatic 247, 39, 195, 2, .null) := by decide +kernel
theorem x_209_36 : Tr sc (d + 1) 209 (36, [l0, l1, l2, l3], [.int i2, .int i1, .int i0], h) Q = Tr sc d 195 (ent0 195 [.int i1, .int i2] h) (fun z => Tr sc (d + 1) 209 (39, [l0, l1, l2, l3], z.1.toList ++ [.int i0], z.2) Q) := t_cs (as := [.int i1, .int i2]) (r := [.int i0]) k_209_36 (by decide) rfl rfl (Nat.le_of_ble_eq_true rfl) (Nat.le_of_ble_eq_true rfl)
theorem k_209_39 : lk 209 39 = some (.if_icmp .eq 5, 42, 44, 0, .null) := by decide +kernel
theorem x_209_39 : Tr sc d 209 (39, [l0, l1, l2, l3], [.int i1, .int i0], h) Q = if i0 = i1 then Tr sc d 209 (44, [l0, l1, l2, l3], [], h) Q else Tr sc d 209 (42, [l0, l1, l2, l3], [], h) Q := t_if k_209_39 rfl
theorem k_209_42 : lk 209 42 = some (.iload_n 3, 43, 3, 0, .null) := by decide +kernel
theorem x_209_42 : Tr sc d 209 (42, [l0, l1, l2, some (.int x)], [], h) Q = Tr sc d 209 (43, [l0, l1, l2, some (.int x)], [.int x], h) Q := t_iload_n k_209_42 rfl
theorem k_209_43 : lk 209 43 = some (.ireturn, 44, 0, 0, .null) := by decide +kernel
theorem x_209_43 : Tr sc d 209 (43, [l0, l1, l2, l3], [.int i0], h) Q = Q (some (.int i0), h) := t_ret k_209_43 (by rw [r_209]; rfl)
theorem k_209_44 : lk 209 44 = some (.iinc 3 1, 47, 3, 0, .int 1) := by decide +kernel
theorem x_209_44 : Tr sc d 209 (44, [l0, l1, l2, some (.int x)], [], h) Q = Tr sc d 209 (47, [l0, l1, cl2 l2, some (.int (x + 1))], [], h) Q := t_inc k_209_44 rfl (Nat.le_of_ble_eq_true rfl)
theorem k_209_47 : lk 209 47 = some (.goto (-33), 50, 14, 0, .null) := by decide +kernel
theorem x_209_47 : Tr sc d 209 (47, [l0, l1, l2, l3], [], h) Q = Tr sc d 209 (14, [l0, l1, l2, l3], [], h) Q := t_go k_209_47 rfl
theorem k_209_50 : lk 209 50 = some (.bipush (-9), 52, 0, 0, .int (-9)) := by decide +kernel
theorem x_209_50 : Tr sc d 209 (50, [l0, l1, l2, l3], [], h) Q = Tr sc d 209 (52, [l0, l1, l2, l3], [.int (-9)], h) Q := t_go k_209_50 rfl
theorem k_209_52 : lk 209 52 = some (.ireturn, 53, 0, 0, .null) := by decide +kernel
theorem x_209_52 : Tr sc d 209 (52, [l0, l1, l2, l3], [.int i0], h) Q = Q (some (.int i0), h) := t_ret k_209_52 (by rw [r_209]; rfl)
theorem e_209 : Tr sc d 209 (ent0 209 [.ref k0, .int i1] h) Q = Tr sc d 209 (0, [some (.ref k0), some (.int i1), none, none], [], h) Q := by
  have e : mL 209 = 4 := by decide +kernel
  unfold ent0
  rw [e]
  rfl
theorem r_210 : mR 210 = some .int := by decide +kernel
theorem k_210_0 : lk 210 0 = some (.iconst 0, 1, 0, 0, .int 0) := by decide +kernel
theorem x_210_0 : Tr sc d 210 (0, [l0, l1, l2, l3, l4, l5, l6], [], h) Q = Tr sc d 210 (1, [l0, l1, l2, l3, l4, l5, l6], [.int 0], h) Q := t_go k_210_0 rfl
theorem k_210_1 : lk 210 1 = some (.istore_n 2, 2, 2, 0, .null) := by decide +kernel
theorem x_210_1 : Tr sc d 210 (1, [l0, l1, l2, l3, l4, l5, l6], [.int i0], h) Q = Tr sc d 210 (2, [l0, cl2 l1, some (.int i0), l3, l4, l5, l6], [], h) Q := t_istore_n k_210_1 (Nat.le_of_ble_eq_true rfl)
theorem k_210_2 : lk 210 2 = some (.iconst 0, 3, 0, 0, .int 0) := by decide +kernel
theorem x_210_2 : Tr sc d 210 (2, [l0, l1, l2, l3, l4, l5, l6], [], h) Q = Tr sc d 210 (3, [l0, l1, l2, l3, l4, l5, l6], [.int 0], h) Q := t_go k_210_2 rfl
theorem k_210_3 : lk 210 3 = some (.istore_n 3, 4, 3, 0, .null) := by decide +kernel
theorem x_210_3 : Tr sc d 210 (3, [l0, l1, l2, l3, l4, l5, l6], [.int i0], h) Q = Tr sc d 210 (4, [l0, l1, cl2 l2, some (.int i0), l4, l5, l6], [], h) Q := t_istore_n k_210_3 (Nat.le_of_ble_eq_true rfl)
theorem k_210_4 : lk 210 4 = some (.iload_n 3, 5, 3, 0, .null) := by decide +kernel
theorem x_210_4 : Tr sc d 210 (4, [l0, l1, l2, some (.int x), l4, l5, l6], [], h) Q = Tr sc d 210 (5, [l0, l1, l2, some (.int x), l4, l5, l6], [.int x], h) Q := t_iload_n k_210_4 rfl
theorem k_210_5 : lk 210 5 = some (.aload_n 0, 6, 0, 0, .null) := by decide +kernel
theorem x_210_5 : Tr sc d 210 (5, [some (.ref xk), l1, l2, l3, l4, l5, l6], [.int i0], h) Q = Tr sc d 210 (6, [some (.ref xk), l1, l2, l3, l4, l5, l6], [.ref xk, .int i0], h) Q := t_aload_n k_210_5 rfl
theorem k_210_6 : lk 210 6 = some (.getfield 41, 9, 10, 18, .null) := by decide +kernel
theorem x_210_6 : Tr sc d 210 (6, [l0, l1, l2, l3, l4, l5, l6], [.ref k1, .int i0], h) Q = (okp h k1 10 = true ∧ ∃ q, hR h k1 18 = some q ∧ Tr sc d 210 (9, [l0, l1, l2, l3, l4, l5, l6], [.ref q, .int i0], h) Q) := t_getr k_210_6
theorem k_210_9 : lk 210 9 = some (.iload_n 1, 10, 1, 0, .null) := by decide +kernel
theorem x_210_9 : Tr sc d 210 (9, [l0, some (.int x), l2, l3, l4, l5, l6], [.ref k1, .int i0], h) Q = Tr sc d 210 (10, [l0, some (.int x), l2, l3, l4, l5, l6], [.int x, .ref k1, .int i0], h) Q := t_iload_n k_210_9 rfl
theorem k_210_10 : lk 210 10 = some (.iaload, 11, 0, 0, .null) := by decide +kernel
theorem x_210_10 : Tr sc d 210 (10, [l0, l1, l2, l3, l4, l5, l6], [.int i2, .ref k1, .int i0], h) Q = (iOk sc h k1 i2 ∧ Tr sc d 210 (11, [l0, l1, l2, l3, l4, l5, l6], [.int (iRd sc h k1 i2), .int i0], h) Q) := t_iald k_210_10
theorem k_210_11 : lk 210 11 = some (.if_icmp .ge 107, 14, 118, 0, .null) := by decide +kernel
theorem x_210_11 : Tr sc d 210 (11, [l0, l1, l2, l3, l4, l5, l6], [.int i1, .int i0], h) Q = if i1 ≤ i0 then Tr sc d 210 (118, [l0, l1, l2, l3, l4, l5, l6], [], h) Q else Tr sc d 210 (14, [l0, l1, l2, l3, l4, l5, l6], [], h) Q := t_if k_210_11 rfl
theorem k_210_14 : lk 210 14 = some (.iconst 0, 15, 0, 0, .int 0) := by decide +kernel
theorem x_210_14 : Tr sc d 210 (14, [l0, l1, l2, l3, l4, l5, l6], [], h) Q = Tr sc d 210 (15, [l0, l1, l2, l3, l4, l5, l6], [.int 0], h) Q := t_go k_210_14 rfl
theorem k_210_15 : lk 210 15 = some (.istore 4, 17, 4, 0, .null) := by decide +kernel
theorem x_210_15 : Tr sc d 210 (15, [l0, l1, l2, l3, l4, l5, l6], [.int i0], h) Q = Tr sc d 210 (17, [l0, l1, l2, cl2 l3, some (.int i0), l5, l6], [], h) Q := t_istore k_210_15 (Nat.le_of_ble_eq_true rfl)
theorem k_210_17 : lk 210 17 = some (.iload 4, 19, 4, 0, .null) := by decide +kernel
theorem x_210_17 : Tr sc d 210 (17, [l0, l1, l2, l3, some (.int x), l5, l6], [], h) Q = Tr sc d 210 (19, [l0, l1, l2, l3, some (.int x), l5, l6], [.int x], h) Q := t_iload k_210_17 rfl
theorem k_210_19 : lk 210 19 = some (.aload_n 0, 20, 0, 0, .null) := by decide +kernel
theorem x_210_19 : Tr sc d 210 (19, [some (.ref xk), l1, l2, l3, l4, l5, l6], [.int i0], h) Q = Tr sc d 210 (20, [some (.ref xk), l1, l2, l3, l4, l5, l6], [.ref xk, .int i0], h) Q := t_aload_n k_210_19 rfl
theorem k_210_20 : lk 210 20 = some (.getfield 41, 23, 10, 18, .null) := by decide +kernel
theorem x_210_20 : Tr sc d 210 (20, [l0, l1, l2, l3, l4, l5, l6], [.ref k1, .int i0], h) Q = (okp h k1 10 = true ∧ ∃ q, hR h k1 18 = some q ∧ Tr sc d 210 (23, [l0, l1, l2, l3, l4, l5, l6], [.ref q, .int i0], h) Q) := t_getr k_210_20
theorem k_210_23 : lk 210 23 = some (.iload_n 1, 24, 1, 0, .null) := by decide +kernel
theorem x_210_23 : Tr sc d 210 (23, [l0, some (.int x), l2, l3, l4, l5, l6], [.ref k1, .int i0], h) Q = Tr sc d 210 (24, [l0, some (.int x), l2, l3, l4, l5, l6], [.int x, .ref k1, .int i0], h) Q := t_iload_n k_210_23 rfl
theorem k_210_24 : lk 210 24 = some (.iaload, 25, 0, 0, .null) := by decide +kernel
theorem x_210_24 : Tr sc d 210 (24, [l0, l1, l2, l3, l4, l5, l6], [.int i2, .ref k1, .int i0], h) Q = (iOk sc h k1 i2 ∧ Tr sc d 210 (25, [l0, l1, l2, l3, l4, l5, l6], [.int (iRd sc h k1 i2), .int i0], h) Q) := t_iald k_210_24
theorem k_210_25 : lk 210 25 = some (.if_icmp .ge 87, 28, 112, 0, .null) := by decide +kernel
theorem x_210_25 : Tr sc d 210 (25, [l0, l1, l2, l3, l4, l5, l6], [.int i1, .int i0], h) Q = if i1 ≤ i0 then Tr sc d 210 (112, [l0, l1, l2, l3, l4, l5, l6], [], h) Q else Tr sc d 210 (28, [l0, l1, l2, l3, l4, l5, l6], [], h) Q := t_if k_210_25 rfl
theorem k_210_28 : lk 210 28 = some (.aload_n 0, 29, 0, 0, .null) := by decide +kernel
theorem x_210_28 : Tr sc d 210 (28, [some (.ref xk), l1, l2, l3, l4, l5, l6], [], h) Q = Tr sc d 210 (29, [some (.ref xk), l1, l2, l3, l4, l5, l6], [.ref xk], h) Q := t_aload_n k_210_28 rfl
theorem k_210_29 : lk 210 29 = some (.getfield 47, 32, 10, 20, .null) := by decide +kernel
theorem x_210_29 : Tr sc d 210 (29, [l0, l1, l2, l3, l4, l5, l6], [.ref k0], h) Q = (okp h k0 10 = true ∧ ∃ q, hR h k0 20 = some q ∧ Tr sc d 210 (32, [l0, l1, l2, l3, l4, l5, l6], [.ref q], h) Q) := t_getr k_210_29
theorem k_210_32 : lk 210 32 = some (.bipush 6, 34, 0, 0, .int 6) := by decide +kernel
theorem x_210_32 : Tr sc d 210 (32, [l0, l1, l2, l3, l4, l5, l6], [.ref k0], h) Q = Tr sc d 210 (34, [l0, l1, l2, l3, l4, l5, l6], [.int 6, .ref k0], h) Q := t_go k_210_32 rfl
theorem k_210_34 : lk 210 34 = some (.iload_n 1, 35, 1, 0, .null) := by decide +kernel
theorem x_210_34 : Tr sc d 210 (34, [l0, some (.int x), l2, l3, l4, l5, l6], [.int i1, .ref k0], h) Q = Tr sc d 210 (35, [l0, some (.int x), l2, l3, l4, l5, l6], [.int x, .int i1, .ref k0], h) Q := t_iload_n k_210_34 rfl
theorem k_210_35 : lk 210 35 = some (.imul, 36, 0, 0, .null) := by decide +kernel
theorem x_210_35 : Tr sc d 210 (35, [l0, l1, l2, l3, l4, l5, l6], [.int i2, .int i1, .ref k0], h) Q = Tr sc d 210 (36, [l0, l1, l2, l3, l4, l5, l6], [.int (i1 * i2), .ref k0], h) Q := t_go k_210_35 rfl
theorem k_210_36 : lk 210 36 = some (.iload 4, 38, 4, 0, .null) := by decide +kernel
theorem x_210_36 : Tr sc d 210 (36, [l0, l1, l2, l3, some (.int x), l5, l6], [.int i1, .ref k0], h) Q = Tr sc d 210 (38, [l0, l1, l2, l3, some (.int x), l5, l6], [.int x, .int i1, .ref k0], h) Q := t_iload k_210_36 rfl
theorem k_210_38 : lk 210 38 = some (.iadd, 39, 0, 0, .null) := by decide +kernel
theorem x_210_38 : Tr sc d 210 (38, [l0, l1, l2, l3, l4, l5, l6], [.int i2, .int i1, .ref k0], h) Q = Tr sc d 210 (39, [l0, l1, l2, l3, l4, l5, l6], [.int (i1 + i2), .ref k0], h) Q := t_go k_210_38 rfl
theorem k_210_39 : lk 210 39 = some (.iaload, 40, 0, 0, .null) := by decide +kernel
theorem x_210_39 : Tr sc d 210 (39, [l0, l1, l2, l3, l4, l5, l6], [.int i1, .ref k0], h) Q = (iOk sc h k0 i1 ∧ Tr sc d 210 (40, [l0, l1, l2, l3, l4, l5, l6], [.int (iRd sc h k0 i1)], h) Q) := t_iald k_210_39
theorem k_210_40 : lk 210 40 = some (.aload_n 0, 41, 0, 0, .null) := by decide +kernel
theorem x_210_40 : Tr sc d 210 (40, [some (.ref xk), l1, l2, l3, l4, l5, l6], [.int i0], h) Q = Tr sc d 210 (41, [some (.ref xk), l1, l2, l3, l4, l5, l6], [.ref xk, .int i0], h) Q := t_aload_n k_210_40 rfl
theorem k_210_41 : lk 210 41 = some (.getfield 47, 44, 10, 20, .null) := by decide +kernel
theorem x_210_41 : Tr sc d 210 (41, [l0, l1, l2, l3, l4, l5, l6], [.ref k1, .int i0], h) Q = (okp h k1 10 = true ∧ ∃ q, hR h k1 20 = some q ∧ Tr sc d 210 (44, [l0, l1, l2, l3, l4, l5, l6], [.ref q, .int i0], h) Q) := t_getr k_210_41
theorem k_210_44 : lk 210 44 = some (.bipush 6, 46, 0, 0, .int 6) := by decide +kernel
theorem x_210_44 : Tr sc d 210 (44, [l0, l1, l2, l3, l4, l5, l6], [.ref k1, .int i0], h) Q = Tr sc d 210 (46, [l0, l1, l2, l3, l4, l5, l6], [.int 6, .ref k1, .int i0], h) Q := t_go k_210_44 rfl
theorem k_210_46 : lk 210 46 = some (.iload_n 1, 47, 1, 0, .null) := by decide +kernel
theorem x_210_46 : Tr sc d 210 (46, [l0, some (.int x), l2, l3, l4, l5, l6], [.int i2, .ref k1, .int i0], h) Q = Tr sc d 210 (47, [l0, some (.int x), l2, l3, l4, l5, l6], [.int x, .int i2, .ref k1, .int i0], h) Q := t_iload_n k_210_46 rfl
theorem k_210_47 : lk 210 47 = some (.imul, 48, 0, 0, .null) := by decide +kernel
theorem x_210_47 : Tr sc d 210 (47, [l0, l1, l2, l3, l4, l5, l6], [.int i3, .int i2, .ref k1, .int i0], h) Q = Tr sc d 210 (48, [l0, l1, l2, l3, l4, l5, l6], [.int (i2 * i3), .ref k1, .int i0], h) Q := t_go k_210_47 rfl
theorem k_210_48 : lk 210 48 = some (.iload_n 3, 49, 3, 0, .null) := by decide +kernel
theorem x_210_48 : Tr sc d 210 (48, [l0, l1, l2, some (.int x), l4, l5, l6], [.int i2, .ref k1, .int i0], h) Q = Tr sc d 210 (49, [l0, l1, l2, some (.int x), l4, l5, l6], [.int x, .int i2, .ref k1, .int i0], h) Q := t_iload_n k_210_48 rfl
theorem k_210_49 : lk 210 49 = some (.iadd, 50, 0, 0, .null) := by decide +kernel
theorem x_210_49 : Tr sc d 210 (49, [l0, l1, l2, l3, l4, l5, l6], [.int i3, .int i2, .ref k1, .int i0], h) Q = Tr sc d 210 (50, [l0, l1, l2, l3, l4, l5, l6], [.int (i2 + i3), .ref k1, .int i0], h) Q := t_go k_210_49 rfl
theorem k_210_50 : lk 210 50 = some (.iaload, 51, 0, 0, .null) := by decide +kernel
theorem x_210_50 : Tr sc d 210 (50, [l0, l1, l2, l3, l4, l5, l6], [.int i2, .ref k1, .int i0], h) Q = (iOk sc h k1 i2 ∧ Tr sc d 210 (51, [l0, l1, l2, l3, l4, l5, l6], [.int (iRd sc h k1 i2), .int i0], h) Q) := t_iald k_210_50
theorem k_210_51 : lk 210 51 = some (.isub, 52, 0, 0, .null) := by decide +kernel
theorem x_210_51 : Tr sc d 210 (51, [l0, l1, l2, l3, l4, l5, l6], [.int i1, .int i0], h) Q = Tr sc d 210 (52, [l0, l1, l2, l3, l4, l5, l6], [.int (i0 - i1)], h) Q := t_go k_210_51 rfl
theorem k_210_52 : lk 210 52 = some (.istore 5, 54, 5, 0, .null) := by decide +kernel
theorem x_210_52 : Tr sc d 210 (52, [l0, l1, l2, l3, l4, l5, l6], [.int i0], h) Q = Tr sc d 210 (54, [l0, l1, l2, l3, cl2 l4, some (.int i0), l6], [], h) Q := t_istore k_210_52 (Nat.le_of_ble_eq_true rfl)
theorem k_210_54 : lk 210 54 = some (.aload_n 0, 55, 0, 0, .null) := by decide +kernel
theorem x_210_54 : Tr sc d 210 (54, [some (.ref xk), l1, l2, l3, l4, l5, l6], [], h) Q = Tr sc d 210 (55, [some (.ref xk), l1, l2, l3, l4, l5, l6], [.ref xk], h) Q := t_aload_n k_210_54 rfl
theorem k_210_55 : lk 210 55 = some (.getfield 50, 58, 10, 21, .null) := by decide +kernel
theorem x_210_55 : Tr sc d 210 (55, [l0, l1, l2, l3, l4, l5, l6], [.ref k0], h) Q = (okp h k0 10 = true ∧ ∃ q, hR h k0 21 = some q ∧ Tr sc d 210 (58, [l0, l1, l2, l3, l4, l5, l6], [.ref q], h) Q) := t_getr k_210_55
theorem k_210_58 : lk 210 58 = some (.bipush 6, 60, 0, 0, .int 6) := by decide +kernel
theorem x_210_58 : Tr sc d 210 (58, [l0, l1, l2, l3, l4, l5, l6], [.ref k0], h) Q = Tr sc d 210 (60, [l0, l1, l2, l3, l4, l5, l6], [.int 6, .ref k0], h) Q := t_go k_210_58 rfl
theorem k_210_60 : lk 210 60 = some (.iload_n 1, 61, 1, 0, .null) := by decide +kernel
theorem x_210_60 : Tr sc d 210 (60, [l0, some (.int x), l2, l3, l4, l5, l6], [.int i1, .ref k0], h) Q = Tr sc d 210 (61, [l0, some (.int x), l2, l3, l4, l5, l6], [.int x, .int i1, .ref k0], h) Q := t_iload_n k_210_60 rfl
theorem k_210_61 : lk 210 61 = some (.imul, 62, 0, 0, .null) := by decide +kernel
theorem x_210_61 : Tr sc d 210 (61, [l0, l1, l2, l3, l4, l5, l6], [.int i2, .int i1, .ref k0], h) Q = Tr sc d 210 (62, [l0, l1, l2, l3, l4, l5, l6], [.int (i1 * i2), .ref k0], h) Q := t_go k_210_61 rfl
theorem k_210_62 : lk 210 62 = some (.iload 4, 64, 4, 0, .null) := by decide +kernel
theorem x_210_62 : Tr sc d 210 (62, [l0, l1, l2, l3, some (.int x), l5, l6], [.int i1, .ref k0], h) Q = Tr sc d 210 (64, [l0, l1, l2, l3, some (.int x), l5, l6], [.int x, .int i1, .ref k0], h) Q := t_iload k_210_62 rfl
theorem k_210_64 : lk 210 64 = some (.iadd, 65, 0, 0, .null) := by decide +kernel
theorem x_210_64 : Tr sc d 210 (64, [l0, l1, l2, l3, l4, l5, l6], [.int i2, .int i1, .ref k0], h) Q = Tr sc d 210 (65, [l0, l1, l2, l3, l4, l5, l6], [.int (i1 + i2), .ref k0], h) Q := t_go k_210_64 rfl
theorem k_210_65 : lk 210 65 = some (.iaload, 66, 0, 0, .null) := by decide +kernel
theorem x_210_65 : Tr sc d 210 (65, [l0, l1, l2, l3, l4, l5, l6], [.int i1, .ref k0], h) Q = (iOk sc h k0 i1 ∧ Tr sc d 210 (66, [l0, l1, l2, l3, l4, l5, l6], [.int (iRd sc h k0 i1)], h) Q) := t_iald k_210_65
theorem k_210_66 : lk 210 66 = some (.aload_n 0, 67, 0, 0, .null) := by decide +kernel
theorem x_210_66 : Tr sc d 210 (66, [some (.ref xk), l1, l2, l3, l4, l5, l6], [.int i0], h) Q = Tr sc d 210 (67, [some (.ref xk), l1, l2, l3, l4, l5, l6], [.ref xk, .int i0], h) Q := t_aload_n k_210_66 rfl
theorem k_210_67 : lk 210 67 = some (.getfield 50, 70, 10, 21, .null) := by decide +kernel
theorem x_210_67 : Tr sc d 210 (67, [l0, l1, l2, l3, l4, l5, l6], [.ref k1, .int i0], h) Q = (okp h k1 10 = true ∧ ∃ q, hR h k1 21 = some q ∧ Tr sc d 210 (70, [l0, l1, l2, l3, l4, l5, l6], [.ref q, .int i0], h) Q) := t_getr k_210_67
theorem k_210_70 : lk 210 70 = some (.bipush 6, 72, 0, 0, .int 6) := by decide +kernel
theorem x_210_70 : Tr sc d 210 (70, [l0, l1, l2, l3, l4, l5, l6], [.ref k1, .int i0], h) Q = Tr sc d 210 (72, [l0, l1, l2, l3, l4, l5, l6], [.int 6, .ref k1, .int i0], h) Q := t_go k_210_70 rfl
theorem k_210_72 : lk 210 72 = some (.iload_n 1, 73, 1, 0, .null) := by decide +kernel
theorem x_210_72 : Tr sc d 210 (72, [l0, some (.int x), l2, l3, l4, l5, l6], [.int i2, .ref k1, .int i0], h) Q = Tr sc d 210 (73, [l0, some (.int x), l2, l3, l4, l5, l6], [.int x, .int i2, .ref k1, .int i0], h) Q := t_iload_n k_210_72 rfl
theorem k_210_73 : lk 210 73 = some (.imul, 74, 0, 0, .null) := by decide +kernel
theorem x_210_73 : Tr sc d 210 (73, [l0, l1, l2, l3, l4, l5, l6], [.int i3, .int i2, .ref k1, .int i0], h) Q = Tr sc d 210 (74, [l0, l1, l2, l3, l4, l5, l6], [.int (i2 * i3), .ref k1, .int i0], h) Q := t_go k_210_73 rfl
theorem k_210_74 : lk 210 74 = some (.iload_n 3, 75, 3, 0, .null) := by decide +kernel
theorem x_210_74 : Tr sc d 210 (74, [l0, l1, l2, some (.int x), l4, l5, l6], [.int i2, .ref k1, .int i0], h) Q = Tr sc d 210 (75, [l0, l1, l2, some (.int x), l4, l5, l6], [.int x, .int i2, .ref k1, .int i0], h) Q := t_iload_n k_210_74 rfl
theorem k_210_75 : lk 210 75 = some (.iadd, 76, 0, 0, .null) := by decide +kernel
theorem x_210_75 : Tr sc d 210 (75, [l0, l1, l2, l3, l4, l5, l6], [.int i3, .int i2, .ref k1, .int i0], h) Q = Tr sc d 210 (76, [l0, l1, l2, l3, l4, l5, l6], [.int (i2 + i3), .ref k1, .int i0], h) Q := t_go k_210_75 rfl
theorem k_210_76 : lk 210 76 = some (.iaload, 77, 0, 0, .null) := by decide +kernel
theorem x_210_76 : Tr sc d 210 (76, [l0, l1, l2, l3, l4, l5, l6], [.int i2, .ref k1, .int i0], h) Q = (iOk sc h k1 i2 ∧ Tr sc d 210 (77, [l0, l1, l2, l3, l4, l5, l6], [.int (iRd sc h k1 i2), .int i0], h) Q) := t_iald k_210_76
theorem k_210_77 : lk 210 77 = some (.isub, 78, 0, 0, .null) := by decide +kernel
theorem x_210_77 : Tr sc d 210 (77, [l0, l1, l2, l3, l4, l5, l6], [.int i1, .int i0], h) Q = Tr sc d 210 (78, [l0, l1, l2, l3, l4, l5, l6], [.int (i0 - i1)], h) Q := t_go k_210_77 rfl
theorem k_210_78 : lk 210 78 = some (.istore 6, 80, 6, 0, .null) := by decide +kernel
theorem x_210_78 : Tr sc d 210 (78, [l0, l1, l2, l3, l4, l5, l6], [.int i0], h) Q = Tr sc d 210 (80, [l0, l1, l2, l3, l4, cl2 l5, some (.int i0)], [], h) Q := t_istore k_210_78 (Nat.le_of_ble_eq_true rfl)
theorem k_210_80 : lk 210 80 = some (.iload 5, 82, 5, 0, .null) := by decide +kernel
theorem x_210_80 : Tr sc d 210 (80, [l0, l1, l2, l3, l4, some (.int x), l6], [], h) Q = Tr sc d 210 (82, [l0, l1, l2, l3, l4, some (.int x), l6], [.int x], h) Q := t_iload k_210_80 rfl
theorem k_210_82 : lk 210 82 = some (.iload_n 2, 83, 2, 0, .null) := by decide +kernel
theorem x_210_82 : Tr sc d 210 (82, [l0, l1, some (.int x), l3, l4, l5, l6], [.int i0], h) Q = Tr sc d 210 (83, [l0, l1, some (.int x), l3, l4, l5, l6], [.int x, .int i0], h) Q := t_iload_n k_210_82 rfl
theorem k_210_83 : lk 210 83 = some (.if_icmp .le 8, 86, 91, 0, .null) := by decide +kernel
theorem x_210_83 : Tr sc d 210 (83, [l0, l1, l2, l3, l4, l5, l6], [.int i1, .int i0], h) Q = if i0 ≤ i1 then Tr sc d 210 (91, [l0, l1, l2, l3, l4, l5, l6], [], h) Q else Tr sc d 210 (86, [l0, l1, l2, l3, l4, l5, l6], [], h) Q := t_if k_210_83 rfl
theorem k_210_86 : lk 210 86 = some (.iload 5, 88, 5, 0, .null) := by decide +kernel
theorem x_210_86 : Tr sc d 210 (86, [l0, l1, l2, l3, l4, some (.int x), l6], [], h) Q = Tr sc d 210 (88, [l0, l1, l2, l3, l4, some (.int x), l6], [.int x], h) Q := t_iload k_210_86 rfl
theorem k_210_88 : lk 210 88 = some (.goto 4, 91, 92, 0, .null) := by decide +kernel
theorem x_210_88 : Tr sc d 210 (88, [l0, l1, l2, l3, l4, l5, l6], [.int i0], h) Q = Tr sc d 210 (92, [l0, l1, l2, l3, l4, l5, l6], [.int i0], h) Q := t_go k_210_88 rfl
theorem k_210_91 : lk 210 91 = some (.iload_n 2, 92, 2, 0, .null) := by decide +kernel
theorem x_210_91 : Tr sc d 210 (91, [l0, l1, some (.int x), l3, l4, l5, l6], [], h) Q = Tr sc d 210 (92, [l0, l1, some (.int x), l3, l4, l5, l6], [.int x], h) Q := t_iload_n k_210_91 rfl
theorem k_210_92 : lk 210 92 = some (.istore_n 2, 93, 2, 0, .null) := by decide +kernel
theorem x_210_92 : Tr sc d 210 (92, [l0, l1, l2, l3, l4, l5, l6], [.int i0], h) Q = Tr sc d 210 (93, [l0, cl2 l1, some (.int i0), l3, l4, l5, l6], [], h) Q := t_istore_n k_210_92 (Nat.le_of_ble_eq_true rfl)
theorem k_210_93 : lk 210 93 = some (.iload 6, 95, 6, 0, .null) := by decide +kernel
theorem x_210_93 : Tr sc d 210 (93, [l0, l1, l2, l3, l4, l5, some (.int x)], [], h) Q = Tr sc d 210 (95, [l0, l1, l2, l3, l4, l5, some (.int x)], [.int x], h) Q := t_iload k_210_93 rfl
theorem k_210_95 : lk 210 95 = some (.iload_n 2, 96, 2, 0, .null) := by decide +kernel
theorem x_210_95 : Tr sc d 210 (95, [l0, l1, some (.int x), l3, l4, l5, l6], [.int i0], h) Q = Tr sc d 210 (96, [l0, l1, some (.int x), l3, l4, l5, l6], [.int x, .int i0], h) Q := t_iload_n k_210_95 rfl
theorem k_210_96 : lk 210 96 = some (.if_icmp .le 8, 99, 104, 0, .null) := by decide +kernel
theorem x_210_96 : Tr sc d 210 (96, [l0, l1, l2, l3, l4, l5, l6], [.int i1, .int i0], h) Q = if i0 ≤ i1 then Tr sc d 210 (104, [l0, l1, l2, l3, l4, l5, l6], [], h) Q else Tr sc d 210 (99, [l0, l1, l2, l3, l4, l5, l6], [], h) Q := t_if k_210_96 rfl
theorem k_210_99 : lk 210 99 = some (.iload 6, 101, 6, 0, .null) := by decide +kernel
theorem x_210_99 : Tr sc d 210 (99, [l0, l1, l2, l3, l4, l5, some (.int x)], [], h) Q = Tr sc d 210 (101, [l0, l1, l2, l3, l4, l5, some (.int x)], [.int x], h) Q := t_iload k_210_99 rfl
theorem k_210_101 : lk 210 101 = some (.goto 4, 104, 105, 0, .null) := by decide +kernel
theorem x_210_101 : Tr sc d 210 (101, [l0, l1, l2, l3, l4, l5, l6], [.int i0], h) Q = Tr sc d 210 (105, [l0, l1, l2, l3, l4, l5, l6], [.int i0], h) Q := t_go k_210_101 rfl
theorem k_210_104 : lk 210 104 = some (.iload_n 2, 105, 2, 0, .null) := by decide +kernel
theorem x_210_104 : Tr sc d 210 (104, [l0, l1, some (.int x), l3, l4, l5, l6], [], h) Q = Tr sc d 210 (105, [l0, l1, some (.int x), l3, l4, l5, l6], [.int x], h) Q := t_iload_n k_210_104 rfl
theorem k_210_105 : lk 210 105 = some (.istore_n 2, 106, 2, 0, .null) := by decide +kernel
theorem x_210_105 : Tr sc d 210 (105, [l0, l1, l2, l3, l4, l5, l6], [.int i0], h) Q = Tr sc d 210 (106, [l0, cl2 l1, some (.int i0), l3, l4, l5, l6], [], h) Q := t_istore_n k_210_105 (Nat.le_of_ble_eq_true rfl)
theorem k_210_106 : lk 210 106 = some (.iinc 4 1, 109, 4, 0, .int 1) := by decide +kernel
theorem x_210_106 : Tr sc d 210 (106, [l0, l1, l2, l3, some (.int x), l5, l6], [], h) Q = Tr sc d 210 (109, [l0, l1, l2, cl2 l3, some (.int (x + 1)), l5, l6], [], h) Q := t_inc k_210_106 rfl (Nat.le_of_ble_eq_true rfl)
theorem k_210_109 : lk 210 109 = some (.goto (-92), 112, 17, 0, .null) := by decide +kernel
theorem x_210_109 : Tr sc d 210 (109, [l0, l1, l2, l3, l4, l5, l6], [], h) Q = Tr sc d 210 (17, [l0, l1, l2, l3, l4, l5, l6], [], h) Q := t_go k_210_109 rfl
theorem k_210_112 : lk 210 112 = some (.iinc 3 1, 115, 3, 0, .int 1) := by decide +kernel
theorem x_210_112 : Tr sc d 210 (112, [l0, l1, l2, some (.int x), l4, l5, l6], [], h) Q = Tr sc d 210 (115, [l0, l1, cl2 l2, some (.int (x + 1)), l4, l5, l6], [], h) Q := t_inc k_210_112 rfl (Nat.le_of_ble_eq_true rfl)
theorem k_210_115 : lk 210 115 = some (.goto (-111), 118, 4, 0, .null) := by decide +kernel
theorem x_210_115 : Tr sc d 210 (115, [l0, l1, l2, l3, l4, l5, l6], [], h) Q = Tr sc d 210 (4, [l0, l1, l2, l3, l4, l5, l6], [], h) Q := t_go k_210_115 rfl
theorem k_210_118 : lk 210 118 = some (.iload_n 2, 119, 2, 0, .null) := by decide +kernel
theorem x_210_118 : Tr sc d 210 (118, [l0, l1, some (.int x), l3, l4, l5, l6], [], h) Q = Tr sc d 210 (119, [l0, l1, some (.int x), l3, l4, l5, l6], [.int x], h) Q := t_iload_n k_210_118 rfl
theorem k_210_119 : lk 210 119 = some (.aload_n 0, 120, 0, 0, .null) := by decide +kernel
theorem x_210_119 : Tr sc d 210 (119, [some (.ref xk), l1, l2, l3, l4, l5, l6], [.int i0], h) Q = Tr sc d 210 (120, [some (.ref xk), l1, l2, l3, l4, l5, l6], [.ref xk, .int i0], h) Q := t_aload_n k_210_119 rfl
theorem k_210_120 : lk 210 120 = some (.getfield 38, 123, 10, 17, .null) := by decide +kernel
theorem x_210_120 : Tr sc d 210 (120, [l0, l1, l2, l3, l4, l5, l6], [.ref k1, .int i0], h) Q = (okp h k1 10 = true ∧ ∃ q, hR h k1 17 = some q ∧ Tr sc d 210 (123, [l0, l1, l2, l3, l4, l5, l6], [.ref q, .int i0], h) Q) := t_getr k_210_120
theorem k_210_123 : lk 210 123 = some (.iload_n 1, 124, 1, 0, .null) := by decide +kernel
theorem x_210_123 : Tr sc d 210 (123, [l0, some (.int x), l2, l3, l4, l5, l6], [.ref k1, .int i0], h) Q = Tr sc d 210 (124, [l0, some (.int x), l2, l3, l4, l5, l6], [.int x, .ref k1, .int i0], h) Q := t_iload_n k_210_123 rfl
theorem k_210_124 : lk 210 124 = some (.iaload, 125, 0, 0, .null) := by decide +kernel
theorem x_210_124 : Tr sc d 210 (124, [l0, l1, l2, l3, l4, l5, l6], [.int i2, .ref k1, .int i0], h) Q = (iOk sc h k1 i2 ∧ Tr sc d 210 (125, [l0, l1, l2, l3, l4, l5, l6], [.int (iRd sc h k1 i2), .int i0], h) Q) := t_iald k_210_124
theorem k_210_125 : lk 210 125 = some (.iconst 1, 126, 0, 0, .int 1) := by decide +kernel
theorem x_210_125 : Tr sc d 210 (125, [l0, l1, l2, l3, l4, l5, l6], [.int i1, .int i0], h) Q = Tr sc d 210 (126, [l0, l1, l2, l3, l4, l5, l6], [.int 1, .int i1, .int i0], h) Q := t_go k_210_125 rfl
theorem k_210_126 : lk 210 126 = some (.isub, 127, 0, 0, .null) := by decide +kernel
theorem x_210_126 : Tr sc d 210 (126, [l0, l1, l2, l3, l4, l5, l6], [.int i2, .int i1, .int i0], h) Q = Tr sc d 210 (127, [l0, l1, l2, l3, l4, l5, l6], [.int (i1 - i2), .int i0], h) Q := t_go k_210_126 rfl
theorem k_210_127 : lk 210 127 = some (.idiv, 128, 0, 0, .null) := by decide +kernel
theorem x_210_127 : Tr sc d 210 (127, [l0, l1, l2, l3, l4, l5, l6], [.int i1, .int i0], h) Q = (¬ i1 = 0 ∧ Tr sc d 210 (128, [l0, l1, l2, l3, l4, l5, l6], [.int (i0 / i1)], h) Q) := t_ng k_210_127 rfl
theorem k_210_128 : lk 210 128 = some (.ireturn, 129, 0, 0, .null) := by decide +kernel
theorem x_210_128 : Tr sc d 210 (128, [l0, l1, l2, l3, l4, l5, l6], [.int i0], h) Q = Q (some (.int i0), h) := t_ret k_210_128 (by rw [r_210]; rfl)
theorem e_210 : Tr sc d 210 (ent0 210 [.ref k0, .int i1] h) Q = Tr sc d 210 (0, [some (.ref k0), some (.int i1), none, none, none, none, none], [], h) Q := by
  have e : mL 210 = 7 := by decide +kernel
  unfold ent0
  rw [e]
  rfl
theorem r_211 : mR 211 = some .int := by decide +kernel
theorem k_211_0 : lk 211 0 = some (.bipush 37, 2, 0, 0, .int 37) := by decide +kernel
theorem x_211_0 : Tr sc d 211 (0, [l0, l1], [], h) Q = Tr sc d 211 (2, [l0, l1], [.int 37], h) Q := t_go k_211_0 rfl
theorem k_211_2 : lk 211 2 = some (.iload_n 1, 3, 1, 0, .null) := by decide +kernel
theorem x_211_2 : Tr sc d 211 (2, [l0, some (.int x)], [.int i0], h) Q = Tr sc d 211 (3, [l0, some (.int x)], [.int x, .int i0], h) Q := t_iload_n k_211_2 rfl
theorem k_211_3 : lk 211 3 = some (.bipush 18, 5, 0, 0, .int 18) := by decide +kernel
theorem x_211_3 : Tr sc d 211 (3, [l0, l1], [.int i1, .int i0], h) Q = Tr sc d 211 (5, [l0, l1], [.int 18, .int i1, .int i0], h) Q := t_go k_211_3 rfl
theorem k_211_5 : lk 211 5 = some (.iadd, 6, 0, 0, .null) := by decide +kernel
theorem x_211_5 : Tr sc d 211 (5, [l0, l1], [.int i2, .int i1, .int i0], h) Q = Tr sc d 211 (6, [l0, l1], [.int (i1 + i2), .int i0], h) Q := t_go k_211_5 rfl
theorem k_211_6 : lk 211 6 = some (.imul, 7, 0, 0, .null) := by decide +kernel
theorem x_211_6 : Tr sc d 211 (6, [l0, l1], [.int i1, .int i0], h) Q = Tr sc d 211 (7, [l0, l1], [.int (i0 * i1)], h) Q := t_go k_211_6 rfl
theorem k_211_7 : lk 211 7 = some (.iload_n 0, 8, 0, 0, .null) := by decide +kernel
theorem x_211_7 : Tr sc d 211 (7, [some (.int x), l1], [.int i0], h) Q = Tr sc d 211 (8, [some (.int x), l1], [.int x, .int i0], h) Q := t_iload_n k_211_7 rfl
theorem k_211_8 : lk 211 8 = some (.iadd, 9, 0, 0, .null) := by decide +kernel
theorem x_211_8 : Tr sc d 211 (8, [l0, l1], [.int i1, .int i0], h) Q = Tr sc d 211 (9, [l0, l1], [.int (i0 + i1)], h) Q := t_go k_211_8 rfl
theorem k_211_9 : lk 211 9 = some (.bipush 18, 11, 0, 0, .int 18) := by decide +kernel
theorem x_211_9 : Tr sc d 211 (9, [l0, l1], [.int i0], h) Q = Tr sc d 211 (11, [l0, l1], [.int 18, .int i0], h) Q := t_go k_211_9 rfl
theorem k_211_11 : lk 211 11 = some (.iadd, 12, 0, 0, .null) := by decide +kernel
theorem x_211_11 : Tr sc d 211 (11, [l0, l1], [.int i1, .int i0], h) Q = Tr sc d 211 (12, [l0, l1], [.int (i0 + i1)], h) Q := t_go k_211_11 rfl
theorem k_211_12 : lk 211 12 = some (.ireturn, 13, 0, 0, .null) := by decide +kernel
theorem x_211_12 : Tr sc d 211 (12, [l0, l1], [.int i0], h) Q = Q (some (.int i0), h) := t_ret k_211_12 (by rw [r_211]; rfl)
theorem e_211 : Tr sc d 211 (ent0 211 [.int i0, .int i1] h) Q = Tr sc d 211 (0, [some (.int i0), some (.int i1)], [], h) Q := by
  have e : mL 211 = 2 := by decide +kernel
  unfold ent0
  rw [e]
  rfl
theorem r_212 : mR 212 = some .boolean := by decide +kernel
theorem k_212_0 : lk 212 0 = some (.iload_n 1, 1, 1, 0, .null) := by decide +kernel
theorem x_212_0 : Tr sc d 212 (0, [l0, some (.int x), l2], [], h) Q = Tr sc d 212 (1, [l0, some (.int x), l2], [.int x], h) Q := t_iload_n k_212_0 rfl
theorem k_212_1 : lk 212 1 = some (.bipush (-18), 3, 0, 0, .int (-18)) := by decide +kernel
theorem x_212_1 : Tr sc d 212 (1, [l0, l1, l2], [.int i0], h) Q = Tr sc d 212 (3, [l0, l1, l2], [.int (-18), .int i0], h) Q := t_go k_212_1 rfl
theorem k_212_3 : lk 212 3 = some (.bipush 18, 5, 0, 0, .int 18) := by decide +kernel
theorem x_212_3 : Tr sc d 212 (3, [l0, l1, l2], [.int i1, .int i0], h) Q = Tr sc d 212 (5, [l0, l1, l2], [.int 18, .int i1, .int i0], h) Q := t_go k_212_3 rfl
theorem k_212_5 : lk 212 5 = some (.invokestatic 144, 8, 156, 3, .null) := by decide +kernel
theorem x_212_5 : Tr sc (d + 1) 212 (5, [l0, l1, l2], [.int i2, .int i1, .int i0], h) Q = Tr sc d 156 (ent0 156 [.int i0, .int i1, .int i2] h) (fun z => Tr sc (d + 1) 212 (8, [l0, l1, l2], z.1.toList ++ [], z.2) Q) := t_cs (as := [.int i0, .int i1, .int i2]) (r := []) k_212_5 (by decide) rfl rfl (Nat.le_of_ble_eq_true rfl) (Nat.le_of_ble_eq_true rfl)
theorem k_212_8 : lk 212 8 = some (.ifCond .eq 31, 11, 39, 0, .null) := by decide +kernel
theorem x_212_8 : Tr sc d 212 (8, [l0, l1, l2], [.int i0], h) Q = if i0 = 0 then Tr sc d 212 (39, [l0, l1, l2], [], h) Q else Tr sc d 212 (11, [l0, l1, l2], [], h) Q := t_if k_212_8 rfl
theorem k_212_11 : lk 212 11 = some (.iload_n 2, 12, 2, 0, .null) := by decide +kernel
theorem x_212_11 : Tr sc d 212 (11, [l0, l1, some (.int x)], [], h) Q = Tr sc d 212 (12, [l0, l1, some (.int x)], [.int x], h) Q := t_iload_n k_212_11 rfl
theorem k_212_12 : lk 212 12 = some (.bipush (-18), 14, 0, 0, .int (-18)) := by decide +kernel
theorem x_212_12 : Tr sc d 212 (12, [l0, l1, l2], [.int i0], h) Q = Tr sc d 212 (14, [l0, l1, l2], [.int (-18), .int i0], h) Q := t_go k_212_12 rfl
theorem k_212_14 : lk 212 14 = some (.bipush 18, 16, 0, 0, .int 18) := by decide +kernel
theorem x_212_14 : Tr sc d 212 (14, [l0, l1, l2], [.int i1, .int i0], h) Q = Tr sc d 212 (16, [l0, l1, l2], [.int 18, .int i1, .int i0], h) Q := t_go k_212_14 rfl
theorem k_212_16 : lk 212 16 = some (.invokestatic 144, 19, 156, 3, .null) := by decide +kernel
theorem x_212_16 : Tr sc (d + 1) 212 (16, [l0, l1, l2], [.int i2, .int i1, .int i0], h) Q = Tr sc d 156 (ent0 156 [.int i0, .int i1, .int i2] h) (fun z => Tr sc (d + 1) 212 (19, [l0, l1, l2], z.1.toList ++ [], z.2) Q) := t_cs (as := [.int i0, .int i1, .int i2]) (r := []) k_212_16 (by decide) rfl rfl (Nat.le_of_ble_eq_true rfl) (Nat.le_of_ble_eq_true rfl)
theorem k_212_19 : lk 212 19 = some (.ifCond .eq 20, 22, 39, 0, .null) := by decide +kernel
theorem x_212_19 : Tr sc d 212 (19, [l0, l1, l2], [.int i0], h) Q = if i0 = 0 then Tr sc d 212 (39, [l0, l1, l2], [], h) Q else Tr sc d 212 (22, [l0, l1, l2], [], h) Q := t_if k_212_19 rfl
theorem k_212_22 : lk 212 22 = some (.aload_n 0, 23, 0, 0, .null) := by decide +kernel
theorem x_212_22 : Tr sc d 212 (22, [some (.ref xk), l1, l2], [], h) Q = Tr sc d 212 (23, [some (.ref xk), l1, l2], [.ref xk], h) Q := t_aload_n k_212_22 rfl
theorem k_212_23 : lk 212 23 = some (.getfield 84, 26, 10, 45, .null) := by decide +kernel
theorem x_212_23 : Tr sc d 212 (23, [l0, l1, l2], [.ref k0], h) Q = (okp h k0 10 = true ∧ ∃ q, hR h k0 45 = some q ∧ Tr sc d 212 (26, [l0, l1, l2], [.ref q], h) Q) := t_getr k_212_23
theorem k_212_26 : lk 212 26 = some (.iload_n 1, 27, 1, 0, .null) := by decide +kernel
theorem x_212_26 : Tr sc d 212 (26, [l0, some (.int x), l2], [.ref k0], h) Q = Tr sc d 212 (27, [l0, some (.int x), l2], [.int x, .ref k0], h) Q := t_iload_n k_212_26 rfl
theorem k_212_27 : lk 212 27 = some (.iload_n 2, 28, 2, 0, .null) := by decide +kernel
theorem x_212_27 : Tr sc d 212 (27, [l0, l1, some (.int x)], [.int i1, .ref k0], h) Q = Tr sc d 212 (28, [l0, l1, some (.int x)], [.int x, .int i1, .ref k0], h) Q := t_iload_n k_212_27 rfl
theorem k_212_28 : lk 212 28 = some (.invokestatic 310, 31, 211, 2, .null) := by decide +kernel
theorem x_212_28 : Tr sc (d + 1) 212 (28, [l0, l1, l2], [.int i2, .int i1, .ref k0], h) Q = Tr sc d 211 (ent0 211 [.int i1, .int i2] h) (fun z => Tr sc (d + 1) 212 (31, [l0, l1, l2], z.1.toList ++ [.ref k0], z.2) Q) := t_cs (as := [.int i1, .int i2]) (r := [.ref k0]) k_212_28 (by decide) rfl rfl (Nat.le_of_ble_eq_true rfl) (Nat.le_of_ble_eq_true rfl)
theorem k_212_31 : lk 212 31 = some (.baload, 32, 0, 0, .null) := by decide +kernel
theorem x_212_31 : Tr sc d 212 (31, [l0, l1, l2], [.int i1, .ref k0], h) Q = ((okp h k0 13 && inb i1 (LN k0)) = true ∧ Tr sc d 212 (32, [l0, l1, l2], [.int (hI h k0 i1.toNatClampNeg)], h) Q) := t_gd k_212_31 rfl
theorem k_212_32 : lk 212 32 = some (.ifCond .eq 7, 35, 39, 0, .null) := by decide +kernel
theorem x_212_32 : Tr sc d 212 (32, [l0, l1, l2], [.int i0], h) Q = if i0 = 0 then Tr sc d 212 (39, [l0, l1, l2], [], h) Q else Tr sc d 212 (35, [l0, l1, l2], [], h) Q := t_if k_212_32 rfl
theorem k_212_35 : lk 212 35 = some (.iconst 1, 36, 0, 0, .int 1) := by decide +kernel
theorem x_212_35 : Tr sc d 212 (35, [l0, l1, l2], [], h) Q = Tr sc d 212 (36, [l0, l1, l2], [.int 1], h) Q := t_go k_212_35 rfl
theorem k_212_36 : lk 212 36 = some (.goto 4, 39, 40, 0, .null) := by decide +kernel
theorem x_212_36 : Tr sc d 212 (36, [l0, l1, l2], [.int i0], h) Q = Tr sc d 212 (40, [l0, l1, l2], [.int i0], h) Q := t_go k_212_36 rfl
theorem k_212_39 : lk 212 39 = some (.iconst 0, 40, 0, 0, .int 0) := by decide +kernel
theorem x_212_39 : Tr sc d 212 (39, [l0, l1, l2], [], h) Q = Tr sc d 212 (40, [l0, l1, l2], [.int 0], h) Q := t_go k_212_39 rfl
theorem k_212_40 : lk 212 40 = some (.ireturn, 41, 0, 0, .null) := by decide +kernel
theorem x_212_40 : Tr sc d 212 (40, [l0, l1, l2], [.int i0], h) Q = (vp_nar .boolean i0 = i0 ∧ Q (some (.int i0), h)) := t_zret k_212_40 r_212
theorem e_212 : Tr sc d 212 (ent0 212 [.ref k0, .int i1, .int i2] h) Q = Tr sc d 212 (0, [some (.ref k0), some (.int i1), some (.int i2)], [], h) Q := by
  have e : mL 212 = 3 := by decide +kernel
  unfold ent0
  rw [e]
  rfl
theorem r_213 : mR 213 = some .int := by decide +kernel
theorem k_213_0 : lk 213 0 = some (.iconst 0, 1, 0, 0, .int 0) := by decide +kernel
theorem x_213_0 : Tr sc d 213 (0, [l0, l1, l2, l3, l4, l5, l6, l7, l8], [], h) Q = Tr sc d 213 (1, [l0, l1, l2, l3, l4, l5, l6, l7, l8], [.int 0], h) Q := t_go k_213_0 rfl
theorem k_213_1 : lk 213 1 = some (.istore 4, 3, 4, 0, .null) := by decide +kernel
theorem x_213_1 : Tr sc d 213 (1, [l0, l1, l2, l3, l4, l5, l6, l7, l8], [.int i0], h) Q = Tr sc d 213 (3, [l0, l1, l2, cl2 l3, some (.int i0), l5, l6, l7, l8], [], h) Q := t_istore k_213_1 (Nat.le_of_ble_eq_true rfl)
theorem k_213_3 : lk 213 3 = some (.iconst 0, 4, 0, 0, .int 0) := by decide +kernel
theorem x_213_3 : Tr sc d 213 (3, [l0, l1, l2, l3, l4, l5, l6, l7, l8], [], h) Q = Tr sc d 213 (4, [l0, l1, l2, l3, l4, l5, l6, l7, l8], [.int 0], h) Q := t_go k_213_3 rfl
theorem k_213_4 : lk 213 4 = some (.istore 5, 6, 5, 0, .null) := by decide +kernel
theorem x_213_4 : Tr sc d 213 (4, [l0, l1, l2, l3, l4, l5, l6, l7, l8], [.int i0], h) Q = Tr sc d 213 (6, [l0, l1, l2, l3, cl2 l4, some (.int i0), l6, l7, l8], [], h) Q := t_istore k_213_4 (Nat.le_of_ble_eq_true rfl)
theorem k_213_6 : lk 213 6 = some (.iload 5, 8, 5, 0, .null) := by decide +kernel
theorem x_213_6 : Tr sc d 213 (6, [l0, l1, l2, l3, l4, some (.int x), l6, l7, l8], [], h) Q = Tr sc d 213 (8, [l0, l1, l2, l3, l4, some (.int x), l6, l7, l8], [.int x], h) Q := t_iload k_213_6 rfl
theorem k_213_8 : lk 213 8 = some (.aload_n 0, 9, 0, 0, .null) := by decide +kernel
theorem x_213_8 : Tr sc d 213 (8, [some (.ref xk), l1, l2, l3, l4, l5, l6, l7, l8], [.int i0], h) Q = Tr sc d 213 (9, [some (.ref xk), l1, l2, l3, l4, l5, l6, l7, l8], [.ref xk, .int i0], h) Q := t_aload_n k_213_8 rfl
theorem k_213_9 : lk 213 9 = some (.getfield 41, 12, 10, 18, .null) := by decide +kernel
theorem x_213_9 : Tr sc d 213 (9, [l0, l1, l2, l3, l4, l5, l6, l7, l8], [.ref k1, .int i0], h) Q = (okp h k1 10 = true ∧ ∃ q, hR h k1 18 = some q ∧ Tr sc d 213 (12, [l0, l1, l2, l3, l4, l5, l6, l7, l8], [.ref q, .int i0], h) Q) := t_getr k_213_9
theorem k_213_12 : lk 213 12 = some (.iload_n 1, 13, 1, 0, .null) := by decide +kernel
theorem x_213_12 : Tr sc d 213 (12, [l0, some (.int x), l2, l3, l4, l5, l6, l7, l8], [.ref k1, .int i0], h) Q = Tr sc d 213 (13, [l0, some (.int x), l2, l3, l4, l5, l6, l7, l8], [.int x, .ref k1, .int i0], h) Q := t_iload_n k_213_12 rfl
theorem k_213_13 : lk 213 13 = some (.iaload, 14, 0, 0, .null) := by decide +kernel
theorem x_213_13 : Tr sc d 213 (13, [l0, l1, l2, l3, l4, l5, l6, l7, l8], [.int i2, .ref k1, .int i0], h) Q = (iOk sc h k1 i2 ∧ Tr sc d 213 (14, [l0, l1, l2, l3, l4, l5, l6, l7, l8], [.int (iRd sc h k1 i2), .int i0], h) Q) := t_iald k_213_13
theorem k_213_14 : lk 213 14 = some (.if_icmp .ge 122, 17, 136, 0, .null) := by decide +kernel
theorem x_213_14 : Tr sc d 213 (14, [l0, l1, l2, l3, l4, l5, l6, l7, l8], [.int i1, .int i0], h) Q = if i1 ≤ i0 then Tr sc d 213 (136, [l0, l1, l2, l3, l4, l5, l6, l7, l8], [], h) Q else Tr sc d 213 (17, [l0, l1, l2, l3, l4, l5, l6, l7, l8], [], h) Q := t_if k_213_14 rfl
theorem k_213_17 : lk 213 17 = some (.iconst 0, 18, 0, 0, .int 0) := by decide +kernel
theorem x_213_17 : Tr sc d 213 (17, [l0, l1, l2, l3, l4, l5, l6, l7, l8], [], h) Q = Tr sc d 213 (18, [l0, l1, l2, l3, l4, l5, l6, l7, l8], [.int 0], h) Q := t_go k_213_17 rfl
theorem k_213_18 : lk 213 18 = some (.istore 6, 20, 6, 0, .null) := by decide +kernel
theorem x_213_18 : Tr sc d 213 (18, [l0, l1, l2, l3, l4, l5, l6, l7, l8], [.int i0], h) Q = Tr sc d 213 (20, [l0, l1, l2, l3, l4, cl2 l5, some (.int i0), l7, l8], [], h) Q := t_istore k_213_18 (Nat.le_of_ble_eq_true rfl)
theorem k_213_20 : lk 213 20 = some (.iload 6, 22, 6, 0, .null) := by decide +kernel
theorem x_213_20 : Tr sc d 213 (20, [l0, l1, l2, l3, l4, l5, some (.int x), l7, l8], [], h) Q = Tr sc d 213 (22, [l0, l1, l2, l3, l4, l5, some (.int x), l7, l8], [.int x], h) Q := t_iload k_213_20 rfl
theorem k_213_22 : lk 213 22 = some (.aload_n 0, 23, 0, 0, .null) := by decide +kernel
theorem x_213_22 : Tr sc d 213 (22, [some (.ref xk), l1, l2, l3, l4, l5, l6, l7, l8], [.int i0], h) Q = Tr sc d 213 (23, [some (.ref xk), l1, l2, l3, l4, l5, l6, l7, l8], [.ref xk, .int i0], h) Q := t_aload_n k_213_22 rfl
theorem k_213_23 : lk 213 23 = some (.getfield 41, 26, 10, 18, .null) := by decide +kernel
theorem x_213_23 : Tr sc d 213 (23, [l0, l1, l2, l3, l4, l5, l6, l7, l8], [.ref k1, .int i0], h) Q = (okp h k1 10 = true ∧ ∃ q, hR h k1 18 = some q ∧ Tr sc d 213 (26, [l0, l1, l2, l3, l4, l5, l6, l7, l8], [.ref q, .int i0], h) Q) := t_getr k_213_23
theorem k_213_26 : lk 213 26 = some (.iload_n 1, 27, 1, 0, .null) := by decide +kernel
theorem x_213_26 : Tr sc d 213 (26, [l0, some (.int x), l2, l3, l4, l5, l6, l7, l8], [.ref k1, .int i0], h) Q = Tr sc d 213 (27, [l0, some (.int x), l2, l3, l4, l5, l6, l7, l8], [.int x, .ref k1, .int i0], h) Q := t_iload_n k_213_26 rfl
theorem k_213_27 : lk 213 27 = some (.iaload, 28, 0, 0, .null) := by decide +kernel
theorem x_213_27 : Tr sc d 213 (27, [l0, l1, l2, l3, l4, l5, l6, l7, l8], [.int i2, .ref k1, .int i0], h) Q = (iOk sc h k1 i2 ∧ Tr sc d 213 (28, [l0, l1, l2, l3, l4, l5, l6, l7, l8], [.int (iRd sc h k1 i2), .int i0], h) Q) := t_iald k_213_27
theorem k_213_28 : lk 213 28 = some (.if_icmp .ge 102, 31, 130, 0, .null) := by decide +kernel
theorem x_213_28 : Tr sc d 213 (28, [l0, l1, l2, l3, l4, l5, l6, l7, l8], [.int i1, .int i0], h) Q = if i1 ≤ i0 then Tr sc d 213 (130, [l0, l1, l2, l3, l4, l5, l6, l7, l8], [], h) Q else Tr sc d 213 (31, [l0, l1, l2, l3, l4, l5, l6, l7, l8], [], h) Q := t_if k_213_28 rfl
theorem k_213_31 : lk 213 31 = some (.aload_n 0, 32, 0, 0, .null) := by decide +kernel
theorem x_213_31 : Tr sc d 213 (31, [some (.ref xk), l1, l2, l3, l4, l5, l6, l7, l8], [], h) Q = Tr sc d 213 (32, [some (.ref xk), l1, l2, l3, l4, l5, l6, l7, l8], [.ref xk], h) Q := t_aload_n k_213_31 rfl
theorem k_213_32 : lk 213 32 = some (.getfield 38, 35, 10, 17, .null) := by decide +kernel
theorem x_213_32 : Tr sc d 213 (32, [l0, l1, l2, l3, l4, l5, l6, l7, l8], [.ref k0], h) Q = (okp h k0 10 = true ∧ ∃ q, hR h k0 17 = some q ∧ Tr sc d 213 (35, [l0, l1, l2, l3, l4, l5, l6, l7, l8], [.ref q], h) Q) := t_getr k_213_32
theorem k_213_35 : lk 213 35 = some (.iload_n 1, 36, 1, 0, .null) := by decide +kernel
theorem x_213_35 : Tr sc d 213 (35, [l0, some (.int x), l2, l3, l4, l5, l6, l7, l8], [.ref k0], h) Q = Tr sc d 213 (36, [l0, some (.int x), l2, l3, l4, l5, l6, l7, l8], [.int x, .ref k0], h) Q := t_iload_n k_213_35 rfl
theorem k_213_36 : lk 213 36 = some (.iaload, 37, 0, 0, .null) := by decide +kernel
theorem x_213_36 : Tr sc d 213 (36, [l0, l1, l2, l3, l4, l5, l6, l7, l8], [.int i1, .ref k0], h) Q = (iOk sc h k0 i1 ∧ Tr sc d 213 (37, [l0, l1, l2, l3, l4, l5, l6, l7, l8], [.int (iRd sc h k0 i1)], h) Q) := t_iald k_213_36
theorem k_213_37 : lk 213 37 = some (.iload_n 2, 38, 2, 0, .null) := by decide +kernel
theorem x_213_37 : Tr sc d 213 (37, [l0, l1, some (.int x), l3, l4, l5, l6, l7, l8], [.int i0], h) Q = Tr sc d 213 (38, [l0, l1, some (.int x), l3, l4, l5, l6, l7, l8], [.int x, .int i0], h) Q := t_iload_n k_213_37 rfl
theorem k_213_38 : lk 213 38 = some (.imul, 39, 0, 0, .null) := by decide +kernel
theorem x_213_38 : Tr sc d 213 (38, [l0, l1, l2, l3, l4, l5, l6, l7, l8], [.int i1, .int i0], h) Q = Tr sc d 213 (39, [l0, l1, l2, l3, l4, l5, l6, l7, l8], [.int (i0 * i1)], h) Q := t_go k_213_38 rfl
theorem k_213_39 : lk 213 39 = some (.aload_n 0, 40, 0, 0, .null) := by decide +kernel
theorem x_213_39 : Tr sc d 213 (39, [some (.ref xk), l1, l2, l3, l4, l5, l6, l7, l8], [.int i0], h) Q = Tr sc d 213 (40, [some (.ref xk), l1, l2, l3, l4, l5, l6, l7, l8], [.ref xk, .int i0], h) Q := t_aload_n k_213_39 rfl
theorem k_213_40 : lk 213 40 = some (.getfield 47, 43, 10, 20, .null) := by decide +kernel
theorem x_213_40 : Tr sc d 213 (40, [l0, l1, l2, l3, l4, l5, l6, l7, l8], [.ref k1, .int i0], h) Q = (okp h k1 10 = true ∧ ∃ q, hR h k1 20 = some q ∧ Tr sc d 213 (43, [l0, l1, l2, l3, l4, l5, l6, l7, l8], [.ref q, .int i0], h) Q) := t_getr k_213_40
theorem k_213_43 : lk 213 43 = some (.bipush 6, 45, 0, 0, .int 6) := by decide +kernel
theorem x_213_43 : Tr sc d 213 (43, [l0, l1, l2, l3, l4, l5, l6, l7, l8], [.ref k1, .int i0], h) Q = Tr sc d 213 (45, [l0, l1, l2, l3, l4, l5, l6, l7, l8], [.int 6, .ref k1, .int i0], h) Q := t_go k_213_43 rfl
theorem k_213_45 : lk 213 45 = some (.iload_n 1, 46, 1, 0, .null) := by decide +kernel
theorem x_213_45 : Tr sc d 213 (45, [l0, some (.int x), l2, l3, l4, l5, l6, l7, l8], [.int i2, .ref k1, .int i0], h) Q = Tr sc d 213 (46, [l0, some (.int x), l2, l3, l4, l5, l6, l7, l8], [.int x, .int i2, .ref k1, .int i0], h) Q := t_iload_n k_213_45 rfl
theorem k_213_46 : lk 213 46 = some (.imul, 47, 0, 0, .null) := by decide +kernel
theorem x_213_46 : Tr sc d 213 (46, [l0, l1, l2, l3, l4, l5, l6, l7, l8], [.int i3, .int i2, .ref k1, .int i0], h) Q = Tr sc d 213 (47, [l0, l1, l2, l3, l4, l5, l6, l7, l8], [.int (i2 * i3), .ref k1, .int i0], h) Q := t_go k_213_46 rfl
theorem k_213_47 : lk 213 47 = some (.iload 6, 49, 6, 0, .null) := by decide +kernel
theorem x_213_47 : Tr sc d 213 (47, [l0, l1, l2, l3, l4, l5, some (.int x), l7, l8], [.int i2, .ref k1, .int i0], h) Q = Tr sc d 213 (49, [l0, l1, l2, l3, l4, l5, some (.int x), l7, l8], [.int x, .int i2, .ref k1, .int i0], h) Q := t_iload k_213_47 rfl
theorem k_213_49 : lk 213 49 = some (.iadd, 50, 0, 0, .null) := by decide +kernel
theorem x_213_49 : Tr sc d 213 (49, [l0, l1, l2, l3, l4, l5, l6, l7, l8], [.int i3, .int i2, .ref k1, .int i0], h) Q = Tr sc d 213 (50, [l0, l1, l2, l3, l4, l5, l6, l7, l8], [.int (i2 + i3), .ref k1, .int i0], h) Q := t_go k_213_49 rfl
theorem k_213_50 : lk 213 50 = some (.iaload, 51, 0, 0, .null) := by decide +kernel
theorem x_213_50 : Tr sc d 213 (50, [l0, l1, l2, l3, l4, l5, l6, l7, l8], [.int i2, .ref k1, .int i0], h) Q = (iOk sc h k1 i2 ∧ Tr sc d 213 (51, [l0, l1, l2, l3, l4, l5, l6, l7, l8], [.int (iRd sc h k1 i2), .int i0], h) Q) := t_iald k_213_50
theorem k_213_51 : lk 213 51 = some (.iadd, 52, 0, 0, .null) := by decide +kernel
theorem x_213_51 : Tr sc d 213 (51, [l0, l1, l2, l3, l4, l5, l6, l7, l8], [.int i1, .int i0], h) Q = Tr sc d 213 (52, [l0, l1, l2, l3, l4, l5, l6, l7, l8], [.int (i0 + i1)], h) Q := t_go k_213_51 rfl
theorem k_213_52 : lk 213 52 = some (.aload_n 0, 53, 0, 0, .null) := by decide +kernel
theorem x_213_52 : Tr sc d 213 (52, [some (.ref xk), l1, l2, l3, l4, l5, l6, l7, l8], [.int i0], h) Q = Tr sc d 213 (53, [some (.ref xk), l1, l2, l3, l4, l5, l6, l7, l8], [.ref xk, .int i0], h) Q := t_aload_n k_213_52 rfl
theorem k_213_53 : lk 213 53 = some (.getfield 47, 56, 10, 20, .null) := by decide +kernel
theorem x_213_53 : Tr sc d 213 (53, [l0, l1, l2, l3, l4, l5, l6, l7, l8], [.ref k1, .int i0], h) Q = (okp h k1 10 = true ∧ ∃ q, hR h k1 20 = some q ∧ Tr sc d 213 (56, [l0, l1, l2, l3, l4, l5, l6, l7, l8], [.ref q, .int i0], h) Q) := t_getr k_213_53
theorem k_213_56 : lk 213 56 = some (.bipush 6, 58, 0, 0, .int 6) := by decide +kernel
theorem x_213_56 : Tr sc d 213 (56, [l0, l1, l2, l3, l4, l5, l6, l7, l8], [.ref k1, .int i0], h) Q = Tr sc d 213 (58, [l0, l1, l2, l3, l4, l5, l6, l7, l8], [.int 6, .ref k1, .int i0], h) Q := t_go k_213_56 rfl
theorem k_213_58 : lk 213 58 = some (.iload_n 1, 59, 1, 0, .null) := by decide +kernel
theorem x_213_58 : Tr sc d 213 (58, [l0, some (.int x), l2, l3, l4, l5, l6, l7, l8], [.int i2, .ref k1, .int i0], h) Q = Tr sc d 213 (59, [l0, some (.int x), l2, l3, l4, l5, l6, l7, l8], [.int x, .int i2, .ref k1, .int i0], h) Q := t_iload_n k_213_58 rfl
theorem k_213_59 : lk 213 59 = some (.imul, 60, 0, 0, .null) := by decide +kernel
theorem x_213_59 : Tr sc d 213 (59, [l0, l1, l2, l3, l4, l5, l6, l7, l8], [.int i3, .int i2, .ref k1, .int i0], h) Q = Tr sc d 213 (60, [l0, l1, l2, l3, l4, l5, l6, l7, l8], [.int (i2 * i3), .ref k1, .int i0], h) Q := t_go k_213_59 rfl
theorem k_213_60 : lk 213 60 = some (.iload 5, 62, 5, 0, .null) := by decide +kernel
theorem x_213_60 : Tr sc d 213 (60, [l0, l1, l2, l3, l4, some (.int x), l6, l7, l8], [.int i2, .ref k1, .int i0], h) Q = Tr sc d 213 (62, [l0, l1, l2, l3, l4, some (.int x), l6, l7, l8], [.int x, .int i2, .ref k1, .int i0], h) Q := t_iload k_213_60 rfl
theorem k_213_62 : lk 213 62 = some (.iadd, 63, 0, 0, .null) := by decide +kernel
theorem x_213_62 : Tr sc d 213 (62, [l0, l1, l2, l3, l4, l5, l6, l7, l8], [.int i3, .int i2, .ref k1, .int i0], h) Q = Tr sc d 213 (63, [l0, l1, l2, l3, l4, l5, l6, l7, l8], [.int (i2 + i3), .ref k1, .int i0], h) Q := t_go k_213_62 rfl
theorem k_213_63 : lk 213 63 = some (.iaload, 64, 0, 0, .null) := by decide +kernel
theorem x_213_63 : Tr sc d 213 (63, [l0, l1, l2, l3, l4, l5, l6, l7, l8], [.int i2, .ref k1, .int i0], h) Q = (iOk sc h k1 i2 ∧ Tr sc d 213 (64, [l0, l1, l2, l3, l4, l5, l6, l7, l8], [.int (iRd sc h k1 i2), .int i0], h) Q) := t_iald k_213_63
theorem k_213_64 : lk 213 64 = some (.isub, 65, 0, 0, .null) := by decide +kernel
theorem x_213_64 : Tr sc d 213 (64, [l0, l1, l2, l3, l4, l5, l6, l7, l8], [.int i1, .int i0], h) Q = Tr sc d 213 (65, [l0, l1, l2, l3, l4, l5, l6, l7, l8], [.int (i0 - i1)], h) Q := t_go k_213_64 rfl
theorem k_213_65 : lk 213 65 = some (.istore 7, 67, 7, 0, .null) := by decide +kernel
theorem x_213_65 : Tr sc d 213 (65, [l0, l1, l2, l3, l4, l5, l6, l7, l8], [.int i0], h) Q = Tr sc d 213 (67, [l0, l1, l2, l3, l4, l5, cl2 l6, some (.int i0), l8], [], h) Q := t_istore k_213_65 (Nat.le_of_ble_eq_true rfl)
theorem k_213_67 : lk 213 67 = some (.aload_n 0, 68, 0, 0, .null) := by decide +kernel
theorem x_213_67 : Tr sc d 213 (67, [some (.ref xk), l1, l2, l3, l4, l5, l6, l7, l8], [], h) Q = Tr sc d 213 (68, [some (.ref xk), l1, l2, l3, l4, l5, l6, l7, l8], [.ref xk], h) Q := t_aload_n k_213_67 rfl
theorem k_213_68 : lk 213 68 = some (.getfield 38, 71, 10, 17, .null) := by decide +kernel
theorem x_213_68 : Tr sc d 213 (68, [l0, l1, l2, l3, l4, l5, l6, l7, l8], [.ref k0], h) Q = (okp h k0 10 = true ∧ ∃ q, hR h k0 17 = some q ∧ Tr sc d 213 (71, [l0, l1, l2, l3, l4, l5, l6, l7, l8], [.ref q], h) Q) := t_getr k_213_68
theorem k_213_71 : lk 213 71 = some (.iload_n 1, 72, 1, 0, .null) := by decide +kernel
theorem x_213_71 : Tr sc d 213 (71, [l0, some (.int x), l2, l3, l4, l5, l6, l7, l8], [.ref k0], h) Q = Tr sc d 213 (72, [l0, some (.int x), l2, l3, l4, l5, l6, l7, l8], [.int x, .ref k0], h) Q := t_iload_n k_213_71 rfl
theorem k_213_72 : lk 213 72 = some (.iaload, 73, 0, 0, .null) := by decide +kernel
theorem x_213_72 : Tr sc d 213 (72, [l0, l1, l2, l3, l4, l5, l6, l7, l8], [.int i1, .ref k0], h) Q = (iOk sc h k0 i1 ∧ Tr sc d 213 (73, [l0, l1, l2, l3, l4, l5, l6, l7, l8], [.int (iRd sc h k0 i1)], h) Q) := t_iald k_213_72
theorem k_213_73 : lk 213 73 = some (.iload_n 3, 74, 3, 0, .null) := by decide +kernel
theorem x_213_73 : Tr sc d 213 (73, [l0, l1, l2, some (.int x), l4, l5, l6, l7, l8], [.int i0], h) Q = Tr sc d 213 (74, [l0, l1, l2, some (.int x), l4, l5, l6, l7, l8], [.int x, .int i0], h) Q := t_iload_n k_213_73 rfl
theorem k_213_74 : lk 213 74 = some (.imul, 75, 0, 0, .null) := by decide +kernel
theorem x_213_74 : Tr sc d 213 (74, [l0, l1, l2, l3, l4, l5, l6, l7, l8], [.int i1, .int i0], h) Q = Tr sc d 213 (75, [l0, l1, l2, l3, l4, l5, l6, l7, l8], [.int (i0 * i1)], h) Q := t_go k_213_74 rfl
theorem k_213_75 : lk 213 75 = some (.aload_n 0, 76, 0, 0, .null) := by decide +kernel
theorem x_213_75 : Tr sc d 213 (75, [some (.ref xk), l1, l2, l3, l4, l5, l6, l7, l8], [.int i0], h) Q = Tr sc d 213 (76, [some (.ref xk), l1, l2, l3, l4, l5, l6, l7, l8], [.ref xk, .int i0], h) Q := t_aload_n k_213_75 rfl
theorem k_213_76 : lk 213 76 = some (.getfield 50, 79, 10, 21, .null) := by decide +kernel
theorem x_213_76 : Tr sc d 213 (76, [l0, l1, l2, l3, l4, l5, l6, l7, l8], [.ref k1, .int i0], h) Q = (okp h k1 10 = true ∧ ∃ q, hR h k1 21 = some q ∧ Tr sc d 213 (79, [l0, l1, l2, l3, l4, l5, l6, l7, l8], [.ref q, .int i0], h) Q) := t_getr k_213_76
theorem k_213_79 : lk 213 79 = some (.bipush 6, 81, 0, 0, .int 6) := by decide +kernel
theorem x_213_79 : Tr sc d 213 (79, [l0, l1, l2, l3, l4, l5, l6, l7, l8], [.ref k1, .int i0], h) Q = Tr sc d 213 (81, [l0, l1, l2, l3, l4, l5, l6, l7, l8], [.int 6, .ref k1, .int i0], h) Q := t_go k_213_79 rfl
theorem k_213_81 : lk 213 81 = some (.iload_n 1, 82, 1, 0, .null) := by decide +kernel
theorem x_213_81 : Tr sc d 213 (81, [l0, some (.int x), l2, l3, l4, l5, l6, l7, l8], [.int i2, .ref k1, .int i0], h) Q = Tr sc d 213 (82, [l0, some (.int x), l2, l3, l4, l5, l6, l7, l8], [.int x, .int i2, .ref k1, .int i0], h) Q := t_iload_n k_213_81 rfl
theorem k_213_82 : lk 213 82 = some (.imul, 83, 0, 0, .null) := by decide +kernel
theorem x_213_82 : Tr sc d 213 (82, [l0, l1, l2, l3, l4, l5, l6, l7, l8], [.int i3, .int i2, .ref k1, .int i0], h) Q = Tr sc d 213 (83, [l0, l1, l2, l3, l4, l5, l6, l7, l8], [.int (i2 * i3), .ref k1, .int i0], h) Q := t_go k_213_82 rfl
theorem k_213_83 : lk 213 83 = some (.iload 6, 85, 6, 0, .null) := by decide +kernel
theorem x_213_83 : Tr sc d 213 (83, [l0, l1, l2, l3, l4, l5, some (.int x), l7, l8], [.int i2, .ref k1, .int i0], h) Q = Tr sc d 213 (85, [l0, l1, l2, l3, l4, l5, some (.int x), l7, l8], [.int x, .int i2, .ref k1, .int i0], h) Q := t_iload k_213_83 rfl
theorem k_213_85 : lk 213 85 = some (.iadd, 86, 0, 0, .null) := by decide +kernel
theorem x_213_85 : Tr sc d 213 (85, [l0, l1, l2, l3, l4, l5, l6, l7, l8], [.int i3, .int i2, .ref k1, .int i0], h) Q = Tr sc d 213 (86, [l0, l1, l2, l3, l4, l5, l6, l7, l8], [.int (i2 + i3), .ref k1, .int i0], h) Q := t_go k_213_85 rfl
theorem k_213_86 : lk 213 86 = some (.iaload, 87, 0, 0, .null) := by decide +kernel
theorem x_213_86 : Tr sc d 213 (86, [l0, l1, l2, l3, l4, l5, l6, l7, l8], [.int i2, .ref k1, .int i0], h) Q = (iOk sc h k1 i2 ∧ Tr sc d 213 (87, [l0, l1, l2, l3, l4, l5, l6, l7, l8], [.int (iRd sc h k1 i2), .int i0], h) Q) := t_iald k_213_86
theorem k_213_87 : lk 213 87 = some (.iadd, 88, 0, 0, .null) := by decide +kernel
theorem x_213_87 : Tr sc d 213 (87, [l0, l1, l2, l3, l4, l5, l6, l7, l8], [.int i1, .int i0], h) Q = Tr sc d 213 (88, [l0, l1, l2, l3, l4, l5, l6, l7, l8], [.int (i0 + i1)], h) Q := t_go k_213_87 rfl
theorem k_213_88 : lk 213 88 = some (.aload_n 0, 89, 0, 0, .null) := by decide +kernel
theorem x_213_88 : Tr sc d 213 (88, [some (.ref xk), l1, l2, l3, l4, l5, l6, l7, l8], [.int i0], h) Q = Tr sc d 213 (89, [some (.ref xk), l1, l2, l3, l4, l5, l6, l7, l8], [.ref xk, .int i0], h) Q := t_aload_n k_213_88 rfl
theorem k_213_89 : lk 213 89 = some (.getfield 50, 92, 10, 21, .null) := by decide +kernel
theorem x_213_89 : Tr sc d 213 (89, [l0, l1, l2, l3, l4, l5, l6, l7, l8], [.ref k1, .int i0], h) Q = (okp h k1 10 = true ∧ ∃ q, hR h k1 21 = some q ∧ Tr sc d 213 (92, [l0, l1, l2, l3, l4, l5, l6, l7, l8], [.ref q, .int i0], h) Q) := t_getr k_213_89
theorem k_213_92 : lk 213 92 = some (.bipush 6, 94, 0, 0, .int 6) := by decide +kernel
theorem x_213_92 : Tr sc d 213 (92, [l0, l1, l2, l3, l4, l5, l6, l7, l8], [.ref k1, .int i0], h) Q = Tr sc d 213 (94, [l0, l1, l2, l3, l4, l5, l6, l7, l8], [.int 6, .ref k1, .int i0], h) Q := t_go k_213_92 rfl
theorem k_213_94 : lk 213 94 = some (.iload_n 1, 95, 1, 0, .null) := by decide +kernel
theorem x_213_94 : Tr sc d 213 (94, [l0, some (.int x), l2, l3, l4, l5, l6, l7, l8], [.int i2, .ref k1, .int i0], h) Q = Tr sc d 213 (95, [l0, some (.int x), l2, l3, l4, l5, l6, l7, l8], [.int x, .int i2, .ref k1, .int i0], h) Q := t_iload_n k_213_94 rfl
theorem k_213_95 : lk 213 95 = some (.imul, 96, 0, 0, .null) := by decide +kernel
theorem x_213_95 : Tr sc d 213 (95, [l0, l1, l2, l3, l4, l5, l6, l7, l8], [.int i3, .int i2, .ref k1, .int i0], h) Q = Tr sc d 213 (96, [l0, l1, l2, l3, l4, l5, l6, l7, l8], [.int (i2 * i3), .ref k1, .int i0], h) Q := t_go k_213_95 rfl
theorem k_213_96 : lk 213 96 = some (.iload 5, 98, 5, 0, .null) := by decide +kernel
theorem x_213_96 : Tr sc d 213 (96, [l0, l1, l2, l3, l4, some (.int x), l6, l7, l8], [.int i2, .ref k1, .int i0], h) Q = Tr sc d 213 (98, [l0, l1, l2, l3, l4, some (.int x), l6, l7, l8], [.int x, .int i2, .ref k1, .int i0], h) Q := t_iload k_213_96 rfl
theorem k_213_98 : lk 213 98 = some (.iadd, 99, 0, 0, .null) := by decide +kernel
theorem x_213_98 : Tr sc d 213 (98, [l0, l1, l2, l3, l4, l5, l6, l7, l8], [.int i3, .int i2, .ref k1, .int i0], h) Q = Tr sc d 213 (99, [l0, l1, l2, l3, l4, l5, l6, l7, l8], [.int (i2 + i3), .ref k1, .int i0], h) Q := t_go k_213_98 rfl
theorem k_213_99 : lk 213 99 = some (.iaload, 100, 0, 0, .null) := by decide +kernel
theorem x_213_99 : Tr sc d 213 (99, [l0, l1, l2, l3, l4, l5, l6, l7, l8], [.int i2, .ref k1, .int i0], h) Q = (iOk sc h k1 i2 ∧ Tr sc d 213 (100, [l0, l1, l2, l3, l4, l5, l6, l7, l8], [.int (iRd sc h k1 i2), .int i0], h) Q) := t_iald k_213_99
theorem k_213_100 : lk 213 100 = some (.isub, 101, 0, 0, .null) := by decide +kernel
theorem x_213_100 : Tr sc d 213 (100, [l0, l1, l2, l3, l4, l5, l6, l7, l8], [.int i1, .int i0], h) Q = Tr sc d 213 (101, [l0, l1, l2, l3, l4, l5, l6, l7, l8], [.int (i0 - i1)], h) Q := t_go k_213_100 rfl
theorem k_213_101 : lk 213 101 = some (.istore 8, 103, 8, 0, .null) := by decide +kernel
theorem x_213_101 : Tr sc d 213 (101, [l0, l1, l2, l3, l4, l5, l6, l7, l8], [.int i0], h) Q = Tr sc d 213 (103, [l0, l1, l2, l3, l4, l5, l6, cl2 l7, some (.int i0)], [], h) Q := t_istore k_213_101 (Nat.le_of_ble_eq_true rfl)
theorem k_213_103 : lk 213 103 = some (.iload 4, 105, 4, 0, .null) := by decide +kernel
theorem x_213_103 : Tr sc d 213 (103, [l0, l1, l2, l3, some (.int x), l5, l6, l7, l8], [], h) Q = Tr sc d 213 (105, [l0, l1, l2, l3, some (.int x), l5, l6, l7, l8], [.int x], h) Q := t_iload k_213_103 rfl
theorem k_213_105 : lk 213 105 = some (.aload_n 0, 106, 0, 0, .null) := by decide +kernel
theorem x_213_105 : Tr sc d 213 (105, [some (.ref xk), l1, l2, l3, l4, l5, l6, l7, l8], [.int i0], h) Q = Tr sc d 213 (106, [some (.ref xk), l1, l2, l3, l4, l5, l6, l7, l8], [.ref xk, .int i0], h) Q := t_aload_n k_213_105 rfl
theorem k_213_106 : lk 213 106 = some (.iload 7, 108, 7, 0, .null) := by decide +kernel
theorem x_213_106 : Tr sc d 213 (106, [l0, l1, l2, l3, l4, l5, l6, some (.int x), l8], [.ref k1, .int i0], h) Q = Tr sc d 213 (108, [l0, l1, l2, l3, l4, l5, l6, some (.int x), l8], [.int x, .ref k1, .int i0], h) Q := t_iload k_213_106 rfl
theorem k_213_108 : lk 213 108 = some (.iload 8, 110, 8, 0, .null) := by decide +kernel
theorem x_213_108 : Tr sc d 213 (108, [l0, l1, l2, l3, l4, l5, l6, l7, some (.int x)], [.int i2, .ref k1, .int i0], h) Q = Tr sc d 213 (110, [l0, l1, l2, l3, l4, l5, l6, l7, some (.int x)], [.int x, .int i2, .ref k1, .int i0], h) Q := t_iload k_213_108 rfl
theorem k_213_110 : lk 213 110 = some (.invokevirtual 313, 113, 212, 2, .null) := by decide +kernel
theorem x_213_110 : Tr sc (d + 1) 213 (110, [l0, l1, l2, l3, l4, l5, l6, l7, l8], [.int i3, .int i2, .ref k1, .int i0], h) Q = (okp h k1 10 = true ∧ Tr sc d 212 (ent0 212 [.ref k1, .int i2, .int i3] h) (fun z => Tr sc (d + 1) 213 (113, [l0, l1, l2, l3, l4, l5, l6, l7, l8], z.1.toList ++ [.int i0], z.2) Q)) := t_cv (as := [.int i2, .int i3]) (r := [.int i0]) k_213_110 rfl rfl (Nat.le_of_ble_eq_true rfl) (Nat.le_of_ble_eq_true rfl) (Nat.le_of_ble_eq_true rfl)
theorem k_213_113 : lk 213 113 = some (.ifCond .eq 7, 116, 120, 0, .null) := by decide +kernel
theorem x_213_113 : Tr sc d 213 (113, [l0, l1, l2, l3, l4, l5, l6, l7, l8], [.int i1, .int i0], h) Q = if i1 = 0 then Tr sc d 213 (120, [l0, l1, l2, l3, l4, l5, l6, l7, l8], [.int i0], h) Q else Tr sc d 213 (116, [l0, l1, l2, l3, l4, l5, l6, l7, l8], [.int i0], h) Q := t_if k_213_113 rfl
theorem k_213_116 : lk 213 116 = some (.iconst 1, 117, 0, 0, .int 1) := by decide +kernel
theorem x_213_116 : Tr sc d 213 (116, [l0, l1, l2, l3, l4, l5, l6, l7, l8], [.int i0], h) Q = Tr sc d 213 (117, [l0, l1, l2, l3, l4, l5, l6, l7, l8], [.int 1, .int i0], h) Q := t_go k_213_116 rfl
theorem k_213_117 : lk 213 117 = some (.goto 4, 120, 121, 0, .null) := by decide +kernel
theorem x_213_117 : Tr sc d 213 (117, [l0, l1, l2, l3, l4, l5, l6, l7, l8], [.int i1, .int i0], h) Q = Tr sc d 213 (121, [l0, l1, l2, l3, l4, l5, l6, l7, l8], [.int i1, .int i0], h) Q := t_go k_213_117 rfl
theorem k_213_120 : lk 213 120 = some (.iconst 0, 121, 0, 0, .int 0) := by decide +kernel
theorem x_213_120 : Tr sc d 213 (120, [l0, l1, l2, l3, l4, l5, l6, l7, l8], [.int i0], h) Q = Tr sc d 213 (121, [l0, l1, l2, l3, l4, l5, l6, l7, l8], [.int 0, .int i0], h) Q := t_go k_213_120 rfl
theorem k_213_121 : lk 213 121 = some (.iadd, 122, 0, 0, .null) := by decide +kernel
theorem x_213_121 : Tr sc d 213 (121, [l0, l1, l2, l3, l4, l5, l6, l7, l8], [.int i1, .int i0], h) Q = Tr sc d 213 (122, [l0, l1, l2, l3, l4, l5, l6, l7, l8], [.int (i0 + i1)], h) Q := t_go k_213_121 rfl
theorem k_213_122 : lk 213 122 = some (.istore 4, 124, 4, 0, .null) := by decide +kernel
theorem x_213_122 : Tr sc d 213 (122, [l0, l1, l2, l3, l4, l5, l6, l7, l8], [.int i0], h) Q = Tr sc d 213 (124, [l0, l1, l2, cl2 l3, some (.int i0), l5, l6, l7, l8], [], h) Q := t_istore k_213_122 (Nat.le_of_ble_eq_true rfl)
theorem k_213_124 : lk 213 124 = some (.iinc 6 1, 127, 6, 0, .int 1) := by decide +kernel
theorem x_213_124 : Tr sc d 213 (124, [l0, l1, l2, l3, l4, l5, some (.int x), l7, l8], [], h) Q = Tr sc d 213 (127, [l0, l1, l2, l3, l4, cl2 l5, some (.int (x + 1)), l7, l8], [], h) Q := t_inc k_213_124 rfl (Nat.le_of_ble_eq_true rfl)
theorem k_213_127 : lk 213 127 = some (.goto (-107), 130, 20, 0, .null) := by decide +kernel
theorem x_213_127 : Tr sc d 213 (127, [l0, l1, l2, l3, l4, l5, l6, l7, l8], [], h) Q = Tr sc d 213 (20, [l0, l1, l2, l3, l4, l5, l6, l7, l8], [], h) Q := t_go k_213_127 rfl
theorem k_213_130 : lk 213 130 = some (.iinc 5 1, 133, 5, 0, .int 1) := by decide +kernel
theorem x_213_130 : Tr sc d 213 (130, [l0, l1, l2, l3, l4, some (.int x), l6, l7, l8], [], h) Q = Tr sc d 213 (133, [l0, l1, l2, l3, cl2 l4, some (.int (x + 1)), l6, l7, l8], [], h) Q := t_inc k_213_130 rfl (Nat.le_of_ble_eq_true rfl)
theorem k_213_133 : lk 213 133 = some (.goto (-127), 136, 6, 0, .null) := by decide +kernel
theorem x_213_133 : Tr sc d 213 (133, [l0, l1, l2, l3, l4, l5, l6, l7, l8], [], h) Q = Tr sc d 213 (6, [l0, l1, l2, l3, l4, l5, l6, l7, l8], [], h) Q := t_go k_213_133 rfl
theorem k_213_136 : lk 213 136 = some (.iload 4, 138, 4, 0, .null) := by decide +kernel
theorem x_213_136 : Tr sc d 213 (136, [l0, l1, l2, l3, some (.int x), l5, l6, l7, l8], [], h) Q = Tr sc d 213 (138, [l0, l1, l2, l3, some (.int x), l5, l6, l7, l8], [.int x], h) Q := t_iload k_213_136 rfl
theorem k_213_138 : lk 213 138 = some (.ireturn, 139, 0, 0, .null) := by decide +kernel
theorem x_213_138 : Tr sc d 213 (138, [l0, l1, l2, l3, l4, l5, l6, l7, l8], [.int i0], h) Q = Q (some (.int i0), h) := t_ret k_213_138 (by rw [r_213]; rfl)
theorem e_213 : Tr sc d 213 (ent0 213 [.ref k0, .int i1, .int i2, .int i3] h) Q = Tr sc d 213 (0, [some (.ref k0), some (.int i1), some (.int i2), some (.int i3), none, none, none, none, none], [], h) Q := by
  have e : mL 213 = 9 := by decide +kernel
  unfold ent0
  rw [e]
  rfl
theorem r_214 : mR 214 = none := by decide +kernel
theorem k_214_0 : lk 214 0 = some (.aload_n 0, 1, 0, 0, .null) := by decide +kernel
theorem x_214_0 : Tr sc d 214 (0, [some (.ref xk), l1, l2, l3, l4], [], h) Q = Tr sc d 214 (1, [some (.ref xk), l1, l2, l3, l4], [.ref xk], h) Q := t_aload_n k_214_0 rfl
theorem k_214_1 : lk 214 1 = some (.iload_n 1, 2, 1, 0, .null) := by decide +kernel
theorem x_214_1 : Tr sc d 214 (1, [l0, some (.int x), l2, l3, l4], [.ref k0], h) Q = Tr sc d 214 (2, [l0, some (.int x), l2, l3, l4], [.int x, .ref k0], h) Q := t_iload_n k_214_1 rfl
theorem k_214_2 : lk 214 2 = some (.invokevirtual 226, 5, 210, 1, .null) := by decide +kernel
theorem x_214_2 : Tr sc (d + 1) 214 (2, [l0, l1, l2, l3, l4], [.int i1, .ref k0], h) Q = (okp h k0 10 = true ∧ Tr sc d 210 (ent0 210 [.ref k0, .int i1] h) (fun z => Tr sc (d + 1) 214 (5, [l0, l1, l2, l3, l4], z.1.toList ++ [], z.2) Q)) := t_cv (as := [.int i1]) (r := []) k_214_2 rfl rfl (Nat.le_of_ble_eq_true rfl) (Nat.le_of_ble_eq_true rfl) (Nat.le_of_ble_eq_true rfl)
theorem k_214_5 : lk 214 5 = some (.istore_n 2, 6, 2, 0, .null) := by decide +kernel
theorem x_214_5 : Tr sc d 214 (5, [l0, l1, l2, l3, l4], [.int i0], h) Q = Tr sc d 214 (6, [l0, cl2 l1, some (.int i0), l3, l4], [], h) Q := t_istore_n k_214_5 (Nat.le_of_ble_eq_true rfl)
theorem k_214_6 : lk 214 6 = some (.iconst 0, 7, 0, 0, .int 0) := by decide +kernel
theorem x_214_6 : Tr sc d 214 (6, [l0, l1, l2, l3, l4], [], h) Q = Tr sc d 214 (7, [l0, l1, l2, l3, l4], [.int 0], h) Q := t_go k_214_6 rfl
theorem k_214_7 : lk 214 7 = some (.istore_n 3, 8, 3, 0, .null) := by decide +kernel
theorem x_214_7 : Tr sc d 214 (7, [l0, l1, l2, l3, l4], [.int i0], h) Q = Tr sc d 214 (8, [l0, l1, cl2 l2, some (.int i0), l4], [], h) Q := t_istore_n k_214_7 (Nat.le_of_ble_eq_true rfl)
theorem k_214_8 : lk 214 8 = some (.iload_n 3, 9, 3, 0, .null) := by decide +kernel
theorem x_214_8 : Tr sc d 214 (8, [l0, l1, l2, some (.int x), l4], [], h) Q = Tr sc d 214 (9, [l0, l1, l2, some (.int x), l4], [.int x], h) Q := t_iload_n k_214_8 rfl
theorem k_214_9 : lk 214 9 = some (.sipush 1369, 12, 0, 0, .int 1369) := by decide +kernel
theorem x_214_9 : Tr sc d 214 (9, [l0, l1, l2, l3, l4], [.int i0], h) Q = Tr sc d 214 (12, [l0, l1, l2, l3, l4], [.int 1369, .int i0], h) Q := t_go k_214_9 rfl
theorem k_214_12 : lk 214 12 = some (.if_icmp .ge 52, 15, 64, 0, .null) := by decide +kernel
theorem x_214_12 : Tr sc d 214 (12, [l0, l1, l2, l3, l4], [.int i1, .int i0], h) Q = if i1 ≤ i0 then Tr sc d 214 (64, [l0, l1, l2, l3, l4], [], h) Q else Tr sc d 214 (15, [l0, l1, l2, l3, l4], [], h) Q := t_if k_214_12 rfl
theorem k_214_15 : lk 214 15 = some (.aload_n 0, 16, 0, 0, .null) := by decide +kernel
theorem x_214_15 : Tr sc d 214 (15, [some (.ref xk), l1, l2, l3, l4], [], h) Q = Tr sc d 214 (16, [some (.ref xk), l1, l2, l3, l4], [.ref xk], h) Q := t_aload_n k_214_15 rfl
theorem k_214_16 : lk 214 16 = some (.getfield 84, 19, 10, 45, .null) := by decide +kernel
theorem x_214_16 : Tr sc d 214 (16, [l0, l1, l2, l3, l4], [.ref k0], h) Q = (okp h k0 10 = true ∧ ∃ q, hR h k0 45 = some q ∧ Tr sc d 214 (19, [l0, l1, l2, l3, l4], [.ref q], h) Q) := t_getr k_214_16
theorem k_214_19 : lk 214 19 = some (.iload_n 3, 20, 3, 0, .null) := by decide +kernel
theorem x_214_19 : Tr sc d 214 (19, [l0, l1, l2, some (.int x), l4], [.ref k0], h) Q = Tr sc d 214 (20, [l0, l1, l2, some (.int x), l4], [.int x, .ref k0], h) Q := t_iload_n k_214_19 rfl
theorem k_214_20 : lk 214 20 = some (.iload_n 3, 21, 3, 0, .null) := by decide +kernel
theorem x_214_20 : Tr sc d 214 (20, [l0, l1, l2, some (.int x), l4], [.int i1, .ref k0], h) Q = Tr sc d 214 (21, [l0, l1, l2, some (.int x), l4], [.int x, .int i1, .ref k0], h) Q := t_iload_n k_214_20 rfl
theorem k_214_21 : lk 214 21 = some (.bipush 37, 23, 0, 0, .int 37) := by decide +kernel
theorem x_214_21 : Tr sc d 214 (21, [l0, l1, l2, l3, l4], [.int i2, .int i1, .ref k0], h) Q = Tr sc d 214 (23, [l0, l1, l2, l3, l4], [.int 37, .int i2, .int i1, .ref k0], h) Q := t_go k_214_21 rfl
theorem k_214_23 : lk 214 23 = some (.irem, 24, 0, 0, .null) := by decide +kernel
theorem x_214_23 : Tr sc d 214 (23, [l0, l1, l2, l3, l4], [.int i3, .int i2, .int i1, .ref k0], h) Q = (¬ i3 = 0 ∧ Tr sc d 214 (24, [l0, l1, l2, l3, l4], [.int (i2 - i2 / i3 * i3), .int i1, .ref k0], h) Q) := t_ng k_214_23 rfl
theorem k_214_24 : lk 214 24 = some (.bipush 18, 26, 0, 0, .int 18) := by decide +kernel
theorem x_214_24 : Tr sc d 214 (24, [l0, l1, l2, l3, l4], [.int i2, .int i1, .ref k0], h) Q = Tr sc d 214 (26, [l0, l1, l2, l3, l4], [.int 18, .int i2, .int i1, .ref k0], h) Q := t_go k_214_24 rfl
theorem k_214_26 : lk 214 26 = some (.isub, 27, 0, 0, .null) := by decide +kernel
theorem x_214_26 : Tr sc d 214 (26, [l0, l1, l2, l3, l4], [.int i3, .int i2, .int i1, .ref k0], h) Q = Tr sc d 214 (27, [l0, l1, l2, l3, l4], [.int (i2 - i3), .int i1, .ref k0], h) Q := t_go k_214_26 rfl
theorem k_214_27 : lk 214 27 = some (.iload_n 2, 28, 2, 0, .null) := by decide +kernel
theorem x_214_27 : Tr sc d 214 (27, [l0, l1, some (.int x), l3, l4], [.int i2, .int i1, .ref k0], h) Q = Tr sc d 214 (28, [l0, l1, some (.int x), l3, l4], [.int x, .int i2, .int i1, .ref k0], h) Q := t_iload_n k_214_27 rfl
theorem k_214_28 : lk 214 28 = some (.ineg, 29, 0, 0, .null) := by decide +kernel
theorem x_214_28 : Tr sc d 214 (28, [l0, l1, l2, l3, l4], [.int i3, .int i2, .int i1, .ref k0], h) Q = Tr sc d 214 (29, [l0, l1, l2, l3, l4], [.int (-i3), .int i2, .int i1, .ref k0], h) Q := t_go k_214_28 rfl
theorem k_214_29 : lk 214 29 = some (.iload_n 2, 30, 2, 0, .null) := by decide +kernel
theorem x_214_29 : Tr sc d 214 (29, [l0, l1, some (.int x), l3, l4], [.int i3, .int i2, .int i1, .ref k0], h) Q = Tr sc d 214 (30, [l0, l1, some (.int x), l3, l4], [.int x, .int i3, .int i2, .int i1, .ref k0], h) Q := t_iload_n k_214_29 rfl
theorem k_214_30 : lk 214 30 = some (.invokestatic 144, 33, 156, 3, .null) := by decide +kernel
theorem x_214_30 : Tr sc (d + 1) 214 (30, [l0, l1, l2, l3, l4], [.int i4, .int i3, .int i2, .int i1, .ref k0], h) Q = Tr sc d 156 (ent0 156 [.int i2, .int i3, .int i4] h) (fun z => Tr sc (d + 1) 214 (33, [l0, l1, l2, l3, l4], z.1.toList ++ [.int i1, .ref k0], z.2) Q) := t_cs (as := [.int i2, .int i3, .int i4]) (r := [.int i1, .ref k0]) k_214_30 (by decide) rfl rfl (Nat.le_of_ble_eq_true rfl) (Nat.le_of_ble_eq_true rfl)
theorem k_214_33 : lk 214 33 = some (.ifCond .eq 23, 36, 56, 0, .null) := by decide +kernel
theorem x_214_33 : Tr sc d 214 (33, [l0, l1, l2, l3, l4], [.int i2, .int i1, .ref k0], h) Q = if i2 = 0 then Tr sc d 214 (56, [l0, l1, l2, l3, l4], [.int i1, .ref k0], h) Q else Tr sc d 214 (36, [l0, l1, l2, l3, l4], [.int i1, .ref k0], h) Q := t_if k_214_33 rfl
theorem k_214_36 : lk 214 36 = some (.iload_n 3, 37, 3, 0, .null) := by decide +kernel
theorem x_214_36 : Tr sc d 214 (36, [l0, l1, l2, some (.int x), l4], [.int i1, .ref k0], h) Q = Tr sc d 214 (37, [l0, l1, l2, some (.int x), l4], [.int x, .int i1, .ref k0], h) Q := t_iload_n k_214_36 rfl
theorem k_214_37 : lk 214 37 = some (.bipush 37, 39, 0, 0, .int 37) := by decide +kernel
theorem x_214_37 : Tr sc d 214 (37, [l0, l1, l2, l3, l4], [.int i2, .int i1, .ref k0], h) Q = Tr sc d 214 (39, [l0, l1, l2, l3, l4], [.int 37, .int i2, .int i1, .ref k0], h) Q := t_go k_214_37 rfl
theorem k_214_39 : lk 214 39 = some (.idiv, 40, 0, 0, .null) := by decide +kernel
theorem x_214_39 : Tr sc d 214 (39, [l0, l1, l2, l3, l4], [.int i3, .int i2, .int i1, .ref k0], h) Q = (¬ i3 = 0 ∧ Tr sc d 214 (40, [l0, l1, l2, l3, l4], [.int (i2 / i3), .int i1, .ref k0], h) Q) := t_ng k_214_39 rfl
theorem k_214_40 : lk 214 40 = some (.bipush 18, 42, 0, 0, .int 18) := by decide +kernel
theorem x_214_40 : Tr sc d 214 (40, [l0, l1, l2, l3, l4], [.int i2, .int i1, .ref k0], h) Q = Tr sc d 214 (42, [l0, l1, l2, l3, l4], [.int 18, .int i2, .int i1, .ref k0], h) Q := t_go k_214_40 rfl
theorem k_214_42 : lk 214 42 = some (.isub, 43, 0, 0, .null) := by decide +kernel
theorem x_214_42 : Tr sc d 214 (42, [l0, l1, l2, l3, l4], [.int i3, .int i2, .int i1, .ref k0], h) Q = Tr sc d 214 (43, [l0, l1, l2, l3, l4], [.int (i2 - i3), .int i1, .ref k0], h) Q := t_go k_214_42 rfl
theorem k_214_43 : lk 214 43 = some (.iload_n 2, 44, 2, 0, .null) := by decide +kernel
theorem x_214_43 : Tr sc d 214 (43, [l0, l1, some (.int x), l3, l4], [.int i2, .int i1, .ref k0], h) Q = Tr sc d 214 (44, [l0, l1, some (.int x), l3, l4], [.int x, .int i2, .int i1, .ref k0], h) Q := t_iload_n k_214_43 rfl
theorem k_214_44 : lk 214 44 = some (.ineg, 45, 0, 0, .null) := by decide +kernel
theorem x_214_44 : Tr sc d 214 (44, [l0, l1, l2, l3, l4], [.int i3, .int i2, .int i1, .ref k0], h) Q = Tr sc d 214 (45, [l0, l1, l2, l3, l4], [.int (-i3), .int i2, .int i1, .ref k0], h) Q := t_go k_214_44 rfl
theorem k_214_45 : lk 214 45 = some (.iload_n 2, 46, 2, 0, .null) := by decide +kernel
theorem x_214_45 : Tr sc d 214 (45, [l0, l1, some (.int x), l3, l4], [.int i3, .int i2, .int i1, .ref k0], h) Q = Tr sc d 214 (46, [l0, l1, some (.int x), l3, l4], [.int x, .int i3, .int i2, .int i1, .ref k0], h) Q := t_iload_n k_214_45 rfl
theorem k_214_46 : lk 214 46 = some (.invokestatic 144, 49, 156, 3, .null) := by decide +kernel
theorem x_214_46 : Tr sc (d + 1) 214 (46, [l0, l1, l2, l3, l4], [.int i4, .int i3, .int i2, .int i1, .ref k0], h) Q = Tr sc d 156 (ent0 156 [.int i2, .int i3, .int i4] h) (fun z => Tr sc (d + 1) 214 (49, [l0, l1, l2, l3, l4], z.1.toList ++ [.int i1, .ref k0], z.2) Q) := t_cs (as := [.int i2, .int i3, .int i4]) (r := [.int i1, .ref k0]) k_214_46 (by decide) rfl rfl (Nat.le_of_ble_eq_true rfl) (Nat.le_of_ble_eq_true rfl)
theorem k_214_49 : lk 214 49 = some (.ifCond .eq 7, 52, 56, 0, .null) := by decide +kernel
theorem x_214_49 : Tr sc d 214 (49, [l0, l1, l2, l3, l4], [.int i2, .int i1, .ref k0], h) Q = if i2 = 0 then Tr sc d 214 (56, [l0, l1, l2, l3, l4], [.int i1, .ref k0], h) Q else Tr sc d 214 (52, [l0, l1, l2, l3, l4], [.int i1, .ref k0], h) Q := t_if k_214_49 rfl
theorem k_214_52 : lk 214 52 = some (.iconst 1, 53, 0, 0, .int 1) := by decide +kernel
theorem x_214_52 : Tr sc d 214 (52, [l0, l1, l2, l3, l4], [.int i1, .ref k0], h) Q = Tr sc d 214 (53, [l0, l1, l2, l3, l4], [.int 1, .int i1, .ref k0], h) Q := t_go k_214_52 rfl
theorem k_214_53 : lk 214 53 = some (.goto 4, 56, 57, 0, .null) := by decide +kernel
theorem x_214_53 : Tr sc d 214 (53, [l0, l1, l2, l3, l4], [.int i2, .int i1, .ref k0], h) Q = Tr sc d 214 (57, [l0, l1, l2, l3, l4], [.int i2, .int i1, .ref k0], h) Q := t_go k_214_53 rfl
theorem k_214_56 : lk 214 56 = some (.iconst 0, 57, 0, 0, .int 0) := by decide +kernel
theorem x_214_56 : Tr sc d 214 (56, [l0, l1, l2, l3, l4], [.int i1, .ref k0], h) Q = Tr sc d 214 (57, [l0, l1, l2, l3, l4], [.int 0, .int i1, .ref k0], h) Q := t_go k_214_56 rfl
theorem k_214_57 : lk 214 57 = some (.bastore, 58, 0, 0, .null) := by decide +kernel
theorem x_214_57 : Tr sc d 214 (57, [l0, l1, l2, l3, l4], [.int i2, .int i1, .ref k0], h) Q = ((okp h k0 13 && inb i1 (LN k0)) = true ∧ Tr sc d 214 (58, [l0, l1, l2, l3, l4], [], (sI h k0 i1.toNatClampNeg (vp_nar .boolean i2))) Q) := t_gd k_214_57 rfl
theorem k_214_58 : lk 214 58 = some (.iinc 3 1, 61, 3, 0, .int 1) := by decide +kernel
theorem x_214_58 : Tr sc d 214 (58, [l0, l1, l2, some (.int x), l4], [], h) Q = Tr sc d 214 (61, [l0, l1, cl2 l2, some (.int (x + 1)), l4], [], h) Q := t_inc k_214_58 rfl (Nat.le_of_ble_eq_true rfl)
theorem k_214_61 : lk 214 61 = some (.goto (-53), 64, 8, 0, .null) := by decide +kernel
theorem x_214_61 : Tr sc d 214 (61, [l0, l1, l2, l3, l4], [], h) Q = Tr sc d 214 (8, [l0, l1, l2, l3, l4], [], h) Q := t_go k_214_61 rfl
theorem k_214_64 : lk 214 64 = some (.iconst 1, 65, 0, 0, .int 1) := by decide +kernel
theorem x_214_64 : Tr sc d 214 (64, [l0, l1, l2, l3, l4], [], h) Q = Tr sc d 214 (65, [l0, l1, l2, l3, l4], [.int 1], h) Q := t_go k_214_64 rfl
theorem k_214_65 : lk 214 65 = some (.istore_n 3, 66, 3, 0, .null) := by decide +kernel
theorem x_214_65 : Tr sc d 214 (65, [l0, l1, l2, l3, l4], [.int i0], h) Q = Tr sc d 214 (66, [l0, l1, cl2 l2, some (.int i0), l4], [], h) Q := t_istore_n k_214_65 (Nat.le_of_ble_eq_true rfl)
theorem k_214_66 : lk 214 66 = some (.iload_n 3, 67, 3, 0, .null) := by decide +kernel
theorem x_214_66 : Tr sc d 214 (66, [l0, l1, l2, some (.int x), l4], [], h) Q = Tr sc d 214 (67, [l0, l1, l2, some (.int x), l4], [.int x], h) Q := t_iload_n k_214_66 rfl
theorem k_214_67 : lk 214 67 = some (.ifCond .eq 69, 70, 136, 0, .null) := by decide +kernel
theorem x_214_67 : Tr sc d 214 (67, [l0, l1, l2, l3, l4], [.int i0], h) Q = if i0 = 0 then Tr sc d 214 (136, [l0, l1, l2, l3, l4], [], h) Q else Tr sc d 214 (70, [l0, l1, l2, l3, l4], [], h) Q := t_if k_214_67 rfl
theorem k_214_70 : lk 214 70 = some (.iconst 0, 71, 0, 0, .int 0) := by decide +kernel
theorem x_214_70 : Tr sc d 214 (70, [l0, l1, l2, l3, l4], [], h) Q = Tr sc d 214 (71, [l0, l1, l2, l3, l4], [.int 0], h) Q := t_go k_214_70 rfl
theorem k_214_71 : lk 214 71 = some (.istore_n 3, 72, 3, 0, .null) := by decide +kernel
theorem x_214_71 : Tr sc d 214 (71, [l0, l1, l2, l3, l4], [.int i0], h) Q = Tr sc d 214 (72, [l0, l1, cl2 l2, some (.int i0), l4], [], h) Q := t_istore_n k_214_71 (Nat.le_of_ble_eq_true rfl)
theorem k_214_72 : lk 214 72 = some (.iconst 0, 73, 0, 0, .int 0) := by decide +kernel
theorem x_214_72 : Tr sc d 214 (72, [l0, l1, l2, l3, l4], [], h) Q = Tr sc d 214 (73, [l0, l1, l2, l3, l4], [.int 0], h) Q := t_go k_214_72 rfl
theorem k_214_73 : lk 214 73 = some (.istore 4, 75, 4, 0, .null) := by decide +kernel
theorem x_214_73 : Tr sc d 214 (73, [l0, l1, l2, l3, l4], [.int i0], h) Q = Tr sc d 214 (75, [l0, l1, l2, cl2 l3, some (.int i0)], [], h) Q := t_istore k_214_73 (Nat.le_of_ble_eq_true rfl)
theorem k_214_75 : lk 214 75 = some (.iload 4, 77, 4, 0, .null) := by decide +kernel
theorem x_214_75 : Tr sc d 214 (75, [l0, l1, l2, l3, some (.int x)], [], h) Q = Tr sc d 214 (77, [l0, l1, l2, l3, some (.int x)], [.int x], h) Q := t_iload k_214_75 rfl
theorem k_214_77 : lk 214 77 = some (.sipush 1369, 80, 0, 0, .int 1369) := by decide +kernel
theorem x_214_77 : Tr sc d 214 (77, [l0, l1, l2, l3, l4], [.int i0], h) Q = Tr sc d 214 (80, [l0, l1, l2, l3, l4], [.int 1369, .int i0], h) Q := t_go k_214_77 rfl
theorem k_214_80 : lk 214 80 = some (.if_icmp .ge 53, 83, 133, 0, .null) := by decide +kernel
theorem x_214_80 : Tr sc d 214 (80, [l0, l1, l2, l3, l4], [.int i1, .int i0], h) Q = if i1 ≤ i0 then Tr sc d 214 (133, [l0, l1, l2, l3, l4], [], h) Q else Tr sc d 214 (83, [l0, l1, l2, l3, l4], [], h) Q := t_if k_214_80 rfl
theorem k_214_83 : lk 214 83 = some (.aload_n 0, 84, 0, 0, .null) := by decide +kernel
theorem x_214_83 : Tr sc d 214 (83, [some (.ref xk), l1, l2, l3, l4], [], h) Q = Tr sc d 214 (84, [some (.ref xk), l1, l2, l3, l4], [.ref xk], h) Q := t_aload_n k_214_83 rfl
theorem k_214_84 : lk 214 84 = some (.getfield 84, 87, 10, 45, .null) := by decide +kernel
theorem x_214_84 : Tr sc d 214 (84, [l0, l1, l2, l3, l4], [.ref k0], h) Q = (okp h k0 10 = true ∧ ∃ q, hR h k0 45 = some q ∧ Tr sc d 214 (87, [l0, l1, l2, l3, l4], [.ref q], h) Q) := t_getr k_214_84
theorem k_214_87 : lk 214 87 = some (.iload 4, 89, 4, 0, .null) := by decide +kernel
theorem x_214_87 : Tr sc d 214 (87, [l0, l1, l2, l3, some (.int x)], [.ref k0], h) Q = Tr sc d 214 (89, [l0, l1, l2, l3, some (.int x)], [.int x, .ref k0], h) Q := t_iload k_214_87 rfl
theorem k_214_89 : lk 214 89 = some (.baload, 90, 0, 0, .null) := by decide +kernel
theorem x_214_89 : Tr sc d 214 (89, [l0, l1, l2, l3, l4], [.int i1, .ref k0], h) Q = ((okp h k0 13 && inb i1 (LN k0)) = true ∧ Tr sc d 214 (90, [l0, l1, l2, l3, l4], [.int (hI h k0 i1.toNatClampNeg)], h) Q) := t_gd k_214_89 rfl
theorem k_214_90 : lk 214 90 = some (.ifCond .eq 37, 93, 127, 0, .null) := by decide +kernel
theorem x_214_90 : Tr sc d 214 (90, [l0, l1, l2, l3, l4], [.int i0], h) Q = if i0 = 0 then Tr sc d 214 (127, [l0, l1, l2, l3, l4], [], h) Q else Tr sc d 214 (93, [l0, l1, l2, l3, l4], [], h) Q := t_if k_214_90 rfl
theorem k_214_93 : lk 214 93 = some (.aload_n 0, 94, 0, 0, .null) := by decide +kernel
theorem x_214_93 : Tr sc d 214 (93, [some (.ref xk), l1, l2, l3, l4], [], h) Q = Tr sc d 214 (94, [some (.ref xk), l1, l2, l3, l4], [.ref xk], h) Q := t_aload_n k_214_93 rfl
theorem k_214_94 : lk 214 94 = some (.iload_n 1, 95, 1, 0, .null) := by decide +kernel
theorem x_214_94 : Tr sc d 214 (94, [l0, some (.int x), l2, l3, l4], [.ref k0], h) Q = Tr sc d 214 (95, [l0, some (.int x), l2, l3, l4], [.int x, .ref k0], h) Q := t_iload_n k_214_94 rfl
theorem k_214_95 : lk 214 95 = some (.iload 4, 97, 4, 0, .null) := by decide +kernel
theorem x_214_95 : Tr sc d 214 (95, [l0, l1, l2, l3, some (.int x)], [.int i1, .ref k0], h) Q = Tr sc d 214 (97, [l0, l1, l2, l3, some (.int x)], [.int x, .int i1, .ref k0], h) Q := t_iload k_214_95 rfl
theorem k_214_97 : lk 214 97 = some (.bipush 37, 99, 0, 0, .int 37) := by decide +kernel
theorem x_214_97 : Tr sc d 214 (97, [l0, l1, l2, l3, l4], [.int i2, .int i1, .ref k0], h) Q = Tr sc d 214 (99, [l0, l1, l2, l3, l4], [.int 37, .int i2, .int i1, .ref k0], h) Q := t_go k_214_97 rfl
theorem k_214_99 : lk 214 99 = some (.irem, 100, 0, 0, .null) := by decide +kernel
theorem x_214_99 : Tr sc d 214 (99, [l0, l1, l2, l3, l4], [.int i3, .int i2, .int i1, .ref k0], h) Q = (¬ i3 = 0 ∧ Tr sc d 214 (100, [l0, l1, l2, l3, l4], [.int (i2 - i2 / i3 * i3), .int i1, .ref k0], h) Q) := t_ng k_214_99 rfl
theorem k_214_100 : lk 214 100 = some (.bipush 18, 102, 0, 0, .int 18) := by decide +kernel
theorem x_214_100 : Tr sc d 214 (100, [l0, l1, l2, l3, l4], [.int i2, .int i1, .ref k0], h) Q = Tr sc d 214 (102, [l0, l1, l2, l3, l4], [.int 18, .int i2, .int i1, .ref k0], h) Q := t_go k_214_100 rfl
theorem k_214_102 : lk 214 102 = some (.isub, 103, 0, 0, .null) := by decide +kernel
theorem x_214_102 : Tr sc d 214 (102, [l0, l1, l2, l3, l4], [.int i3, .int i2, .int i1, .ref k0], h) Q = Tr sc d 214 (103, [l0, l1, l2, l3, l4], [.int (i2 - i3), .int i1, .ref k0], h) Q := t_go k_214_102 rfl
theorem k_214_103 : lk 214 103 = some (.iload 4, 105, 4, 0, .null) := by decide +kernel
theorem x_214_103 : Tr sc d 214 (103, [l0, l1, l2, l3, some (.int x)], [.int i2, .int i1, .ref k0], h) Q = Tr sc d 214 (105, [l0, l1, l2, l3, some (.int x)], [.int x, .int i2, .int i1, .ref k0], h) Q := t_iload k_214_103 rfl
theorem k_214_105 : lk 214 105 = some (.bipush 37, 107, 0, 0, .int 37) := by decide +kernel
theorem x_214_105 : Tr sc d 214 (105, [l0, l1, l2, l3, l4], [.int i3, .int i2, .int i1, .ref k0], h) Q = Tr sc d 214 (107, [l0, l1, l2, l3, l4], [.int 37, .int i3, .int i2, .int i1, .ref k0], h) Q := t_go k_214_105 rfl
theorem k_214_107 : lk 214 107 = some (.idiv, 108, 0, 0, .null) := by decide +kernel
theorem x_214_107 : Tr sc d 214 (107, [l0, l1, l2, l3, l4], [.int i4, .int i3, .int i2, .int i1, .ref k0], h) Q = (¬ i4 = 0 ∧ Tr sc d 214 (108, [l0, l1, l2, l3, l4], [.int (i3 / i4), .int i2, .int i1, .ref k0], h) Q) := t_ng k_214_107 rfl
theorem k_214_108 : lk 214 108 = some (.bipush 18, 110, 0, 0, .int 18) := by decide +kernel
theorem x_214_108 : Tr sc d 214 (108, [l0, l1, l2, l3, l4], [.int i3, .int i2, .int i1, .ref k0], h) Q = Tr sc d 214 (110, [l0, l1, l2, l3, l4], [.int 18, .int i3, .int i2, .int i1, .ref k0], h) Q := t_go k_214_108 rfl
theorem k_214_110 : lk 214 110 = some (.isub, 111, 0, 0, .null) := by decide +kernel
theorem x_214_110 : Tr sc d 214 (110, [l0, l1, l2, l3, l4], [.int i4, .int i3, .int i2, .int i1, .ref k0], h) Q = Tr sc d 214 (111, [l0, l1, l2, l3, l4], [.int (i3 - i4), .int i2, .int i1, .ref k0], h) Q := t_go k_214_110 rfl
theorem k_214_111 : lk 214 111 = some (.invokevirtual 317, 114, 213, 3, .null) := by decide +kernel
theorem x_214_111 : Tr sc (d + 1) 214 (111, [l0, l1, l2, l3, l4], [.int i3, .int i2, .int i1, .ref k0], h) Q = (okp h k0 10 = true ∧ Tr sc d 213 (ent0 213 [.ref k0, .int i1, .int i2, .int i3] h) (fun z => Tr sc (d + 1) 214 (114, [l0, l1, l2, l3, l4], z.1.toList ++ [], z.2) Q)) := t_cv (as := [.int i1, .int i2, .int i3]) (r := []) k_214_111 rfl rfl (Nat.le_of_ble_eq_true rfl) (Nat.le_of_ble_eq_true rfl) (Nat.le_of_ble_eq_true rfl)
theorem k_214_114 : lk 214 114 = some (.ifCond .ne 13, 117, 127, 0, .null) := by decide +kernel
theorem x_214_114 : Tr sc d 214 (114, [l0, l1, l2, l3, l4], [.int i0], h) Q = if i0 = 0 then Tr sc d 214 (117, [l0, l1, l2, l3, l4], [], h) Q else Tr sc d 214 (127, [l0, l1, l2, l3, l4], [], h) Q := t_if k_214_114 rfl
theorem k_214_117 : lk 214 117 = some (.aload_n 0, 118, 0, 0, .null) := by decide +kernel
theorem x_214_117 : Tr sc d 214 (117, [some (.ref xk), l1, l2, l3, l4], [], h) Q = Tr sc d 214 (118, [some (.ref xk), l1, l2, l3, l4], [.ref xk], h) Q := t_aload_n k_214_117 rfl
theorem k_214_118 : lk 214 118 = some (.getfield 84, 121, 10, 45, .null) := by decide +kernel
theorem x_214_118 : Tr sc d 214 (118, [l0, l1, l2, l3, l4], [.ref k0], h) Q = (okp h k0 10 = true ∧ ∃ q, hR h k0 45 = some q ∧ Tr sc d 214 (121, [l0, l1, l2, l3, l4], [.ref q], h) Q) := t_getr k_214_118
theorem k_214_121 : lk 214 121 = some (.iload 4, 123, 4, 0, .null) := by decide +kernel
theorem x_214_121 : Tr sc d 214 (121, [l0, l1, l2, l3, some (.int x)], [.ref k0], h) Q = Tr sc d 214 (123, [l0, l1, l2, l3, some (.int x)], [.int x, .ref k0], h) Q := t_iload k_214_121 rfl
theorem k_214_123 : lk 214 123 = some (.iconst 0, 124, 0, 0, .int 0) := by decide +kernel
theorem x_214_123 : Tr sc d 214 (123, [l0, l1, l2, l3, l4], [.int i1, .ref k0], h) Q = Tr sc d 214 (124, [l0, l1, l2, l3, l4], [.int 0, .int i1, .ref k0], h) Q := t_go k_214_123 rfl
theorem k_214_124 : lk 214 124 = some (.bastore, 125, 0, 0, .null) := by decide +kernel
theorem x_214_124 : Tr sc d 214 (124, [l0, l1, l2, l3, l4], [.int i2, .int i1, .ref k0], h) Q = ((okp h k0 13 && inb i1 (LN k0)) = true ∧ Tr sc d 214 (125, [l0, l1, l2, l3, l4], [], (sI h k0 i1.toNatClampNeg (vp_nar .boolean i2))) Q) := t_gd k_214_124 rfl
theorem k_214_125 : lk 214 125 = some (.iconst 1, 126, 0, 0, .int 1) := by decide +kernel
theorem x_214_125 : Tr sc d 214 (125, [l0, l1, l2, l3, l4], [], h) Q = Tr sc d 214 (126, [l0, l1, l2, l3, l4], [.int 1], h) Q := t_go k_214_125 rfl
theorem k_214_126 : lk 214 126 = some (.istore_n 3, 127, 3, 0, .null) := by decide +kernel
theorem x_214_126 : Tr sc d 214 (126, [l0, l1, l2, l3, l4], [.int i0], h) Q = Tr sc d 214 (127, [l0, l1, cl2 l2, some (.int i0), l4], [], h) Q := t_istore_n k_214_126 (Nat.le_of_ble_eq_true rfl)
theorem k_214_127 : lk 214 127 = some (.iinc 4 1, 130, 4, 0, .int 1) := by decide +kernel
theorem x_214_127 : Tr sc d 214 (127, [l0, l1, l2, l3, some (.int x)], [], h) Q = Tr sc d 214 (130, [l0, l1, l2, cl2 l3, some (.int (x + 1))], [], h) Q := t_inc k_214_127 rfl (Nat.le_of_ble_eq_true rfl)
theorem k_214_130 : lk 214 130 = some (.goto (-55), 133, 75, 0, .null) := by decide +kernel
theorem x_214_130 : Tr sc d 214 (130, [l0, l1, l2, l3, l4], [], h) Q = Tr sc d 214 (75, [l0, l1, l2, l3, l4], [], h) Q := t_go k_214_130 rfl
theorem k_214_133 : lk 214 133 = some (.goto (-67), 136, 66, 0, .null) := by decide +kernel
theorem x_214_133 : Tr sc d 214 (133, [l0, l1, l2, l3, l4], [], h) Q = Tr sc d 214 (66, [l0, l1, l2, l3, l4], [], h) Q := t_go k_214_133 rfl
theorem k_214_136 : lk 214 136 = some (.return_, 137, 0, 0, .null) := by decide +kernel
theorem x_214_136 : Tr sc d 214 (136, [l0, l1, l2, l3, l4], [], h) Q = Q (none, h) := t_ret k_214_136 (by rw [r_214]; rfl)
theorem e_214 : Tr sc d 214 (ent0 214 [.ref k0, .int i1] h) Q = Tr sc d 214 (0, [some (.ref k0), some (.int i1), none, none, none], [], h) Q := by
  have e : mL 214 = 5 := by decide +kernel
  unfold ent0
  rw [e]
  rfl
theorem r_215 : mR 215 = some .boolean := by decide +kernel
theorem k_215_0 : lk 215 0 = some (.aload_n 0, 1, 0, 0, .null) := by decide +kernel
theorem x_215_0 : Tr sc d 215 (0, [some (.ref xk), l1, l2, l3], [], h) Q = Tr sc d 215 (1, [some (.ref xk), l1, l2, l3], [.ref xk], h) Q := t_aload_n k_215_0 rfl
theorem k_215_1 : lk 215 1 = some (.aload_n 0, 2, 0, 0, .null) := by decide +kernel
theorem x_215_1 : Tr sc d 215 (1, [some (.ref xk), l1, l2, l3], [.ref k0], h) Q = Tr sc d 215 (2, [some (.ref xk), l1, l2, l3], [.ref xk, .ref k0], h) Q := t_aload_n k_215_1 rfl
theorem k_215_2 : lk 215 2 = some (.getfield 47, 5, 10, 20, .null) := by decide +kernel
theorem x_215_2 : Tr sc d 215 (2, [l0, l1, l2, l3], [.ref k1, .ref k0], h) Q = (okp h k1 10 = true ∧ ∃ q, hR h k1 20 = some q ∧ Tr sc d 215 (5, [l0, l1, l2, l3], [.ref q, .ref k0], h) Q) := t_getr k_215_2
theorem k_215_5 : lk 215 5 = some (.bipush 6, 7, 0, 0, .int 6) := by decide +kernel
theorem x_215_5 : Tr sc d 215 (5, [l0, l1, l2, l3], [.ref k1, .ref k0], h) Q = Tr sc d 215 (7, [l0, l1, l2, l3], [.int 6, .ref k1, .ref k0], h) Q := t_go k_215_5 rfl
theorem k_215_7 : lk 215 7 = some (.iload_n 1, 8, 1, 0, .null) := by decide +kernel
theorem x_215_7 : Tr sc d 215 (7, [l0, some (.int x), l2, l3], [.int i2, .ref k1, .ref k0], h) Q = Tr sc d 215 (8, [l0, some (.int x), l2, l3], [.int x, .int i2, .ref k1, .ref k0], h) Q := t_iload_n k_215_7 rfl
theorem k_215_8 : lk 215 8 = some (.imul, 9, 0, 0, .null) := by decide +kernel
theorem x_215_8 : Tr sc d 215 (8, [l0, l1, l2, l3], [.int i3, .int i2, .ref k1, .ref k0], h) Q = Tr sc d 215 (9, [l0, l1, l2, l3], [.int (i2 * i3), .ref k1, .ref k0], h) Q := t_go k_215_8 rfl
theorem k_215_9 : lk 215 9 = some (.iload_n 3, 10, 3, 0, .null) := by decide +kernel
theorem x_215_9 : Tr sc d 215 (9, [l0, l1, l2, some (.int x)], [.int i2, .ref k1, .ref k0], h) Q = Tr sc d 215 (10, [l0, l1, l2, some (.int x)], [.int x, .int i2, .ref k1, .ref k0], h) Q := t_iload_n k_215_9 rfl
theorem k_215_10 : lk 215 10 = some (.iadd, 11, 0, 0, .null) := by decide +kernel
theorem x_215_10 : Tr sc d 215 (10, [l0, l1, l2, l3], [.int i3, .int i2, .ref k1, .ref k0], h) Q = Tr sc d 215 (11, [l0, l1, l2, l3], [.int (i2 + i3), .ref k1, .ref k0], h) Q := t_go k_215_10 rfl
theorem k_215_11 : lk 215 11 = some (.iaload, 12, 0, 0, .null) := by decide +kernel
theorem x_215_11 : Tr sc d 215 (11, [l0, l1, l2, l3], [.int i2, .ref k1, .ref k0], h) Q = (iOk sc h k1 i2 ∧ Tr sc d 215 (12, [l0, l1, l2, l3], [.int (iRd sc h k1 i2), .ref k0], h) Q) := t_iald k_215_11
theorem k_215_12 : lk 215 12 = some (.aload_n 0, 13, 0, 0, .null) := by decide +kernel
theorem x_215_12 : Tr sc d 215 (12, [some (.ref xk), l1, l2, l3], [.int i1, .ref k0], h) Q = Tr sc d 215 (13, [some (.ref xk), l1, l2, l3], [.ref xk, .int i1, .ref k0], h) Q := t_aload_n k_215_12 rfl
theorem k_215_13 : lk 215 13 = some (.getfield 47, 16, 10, 20, .null) := by decide +kernel
theorem x_215_13 : Tr sc d 215 (13, [l0, l1, l2, l3], [.ref k2, .int i1, .ref k0], h) Q = (okp h k2 10 = true ∧ ∃ q, hR h k2 20 = some q ∧ Tr sc d 215 (16, [l0, l1, l2, l3], [.ref q, .int i1, .ref k0], h) Q) := t_getr k_215_13
theorem k_215_16 : lk 215 16 = some (.bipush 6, 18, 0, 0, .int 6) := by decide +kernel
theorem x_215_16 : Tr sc d 215 (16, [l0, l1, l2, l3], [.ref k2, .int i1, .ref k0], h) Q = Tr sc d 215 (18, [l0, l1, l2, l3], [.int 6, .ref k2, .int i1, .ref k0], h) Q := t_go k_215_16 rfl
theorem k_215_18 : lk 215 18 = some (.iload_n 1, 19, 1, 0, .null) := by decide +kernel
theorem x_215_18 : Tr sc d 215 (18, [l0, some (.int x), l2, l3], [.int i3, .ref k2, .int i1, .ref k0], h) Q = Tr sc d 215 (19, [l0, some (.int x), l2, l3], [.int x, .int i3, .ref k2, .int i1, .ref k0], h) Q := t_iload_n k_215_18 rfl
theorem k_215_19 : lk 215 19 = some (.imul, 20, 0, 0, .null) := by decide +kernel
theorem x_215_19 : Tr sc d 215 (19, [l0, l1, l2, l3], [.int i4, .int i3, .ref k2, .int i1, .ref k0], h) Q = Tr sc d 215 (20, [l0, l1, l2, l3], [.int (i3 * i4), .ref k2, .int i1, .ref k0], h) Q := t_go k_215_19 rfl
theorem k_215_20 : lk 215 20 = some (.iload_n 2, 21, 2, 0, .null) := by decide +kernel
theorem x_215_20 : Tr sc d 215 (20, [l0, l1, some (.int x), l3], [.int i3, .ref k2, .int i1, .ref k0], h) Q = Tr sc d 215 (21, [l0, l1, some (.int x), l3], [.int x, .int i3, .ref k2, .int i1, .ref k0], h) Q := t_iload_n k_215_20 rfl
theorem k_215_21 : lk 215 21 = some (.iadd, 22, 0, 0, .null) := by decide +kernel
theorem x_215_21 : Tr sc d 215 (21, [l0, l1, l2, l3], [.int i4, .int i3, .ref k2, .int i1, .ref k0], h) Q = Tr sc d 215 (22, [l0, l1, l2, l3], [.int (i3 + i4), .ref k2, .int i1, .ref k0], h) Q := t_go k_215_21 rfl
theorem k_215_22 : lk 215 22 = some (.iaload, 23, 0, 0, .null) := by decide +kernel
theorem x_215_22 : Tr sc d 215 (22, [l0, l1, l2, l3], [.int i3, .ref k2, .int i1, .ref k0], h) Q = (iOk sc h k2 i3 ∧ Tr sc d 215 (23, [l0, l1, l2, l3], [.int (iRd sc h k2 i3), .int i1, .ref k0], h) Q) := t_iald k_215_22
theorem k_215_23 : lk 215 23 = some (.isub, 24, 0, 0, .null) := by decide +kernel
theorem x_215_23 : Tr sc d 215 (23, [l0, l1, l2, l3], [.int i2, .int i1, .ref k0], h) Q = Tr sc d 215 (24, [l0, l1, l2, l3], [.int (i1 - i2), .ref k0], h) Q := t_go k_215_23 rfl
theorem k_215_24 : lk 215 24 = some (.aload_n 0, 25, 0, 0, .null) := by decide +kernel
theorem x_215_24 : Tr sc d 215 (24, [some (.ref xk), l1, l2, l3], [.int i1, .ref k0], h) Q = Tr sc d 215 (25, [some (.ref xk), l1, l2, l3], [.ref xk, .int i1, .ref k0], h) Q := t_aload_n k_215_24 rfl
theorem k_215_25 : lk 215 25 = some (.getfield 50, 28, 10, 21, .null) := by decide +kernel
theorem x_215_25 : Tr sc d 215 (25, [l0, l1, l2, l3], [.ref k2, .int i1, .ref k0], h) Q = (okp h k2 10 = true ∧ ∃ q, hR h k2 21 = some q ∧ Tr sc d 215 (28, [l0, l1, l2, l3], [.ref q, .int i1, .ref k0], h) Q) := t_getr k_215_25
theorem k_215_28 : lk 215 28 = some (.bipush 6, 30, 0, 0, .int 6) := by decide +kernel
theorem x_215_28 : Tr sc d 215 (28, [l0, l1, l2, l3], [.ref k2, .int i1, .ref k0], h) Q = Tr sc d 215 (30, [l0, l1, l2, l3], [.int 6, .ref k2, .int i1, .ref k0], h) Q := t_go k_215_28 rfl
theorem k_215_30 : lk 215 30 = some (.iload_n 1, 31, 1, 0, .null) := by decide +kernel
theorem x_215_30 : Tr sc d 215 (30, [l0, some (.int x), l2, l3], [.int i3, .ref k2, .int i1, .ref k0], h) Q = Tr sc d 215 (31, [l0, some (.int x), l2, l3], [.int x, .int i3, .ref k2, .int i1, .ref k0], h) Q := t_iload_n k_215_30 rfl
theorem k_215_31 : lk 215 31 = some (.imul, 32, 0, 0, .null) := by decide +kernel
theorem x_215_31 : Tr sc d 215 (31, [l0, l1, l2, l3], [.int i4, .int i3, .ref k2, .int i1, .ref k0], h) Q = Tr sc d 215 (32, [l0, l1, l2, l3], [.int (i3 * i4), .ref k2, .int i1, .ref k0], h) Q := t_go k_215_31 rfl
theorem k_215_32 : lk 215 32 = some (.iload_n 3, 33, 3, 0, .null) := by decide +kernel
theorem x_215_32 : Tr sc d 215 (32, [l0, l1, l2, some (.int x)], [.int i3, .ref k2, .int i1, .ref k0], h) Q = Tr sc d 215 (33, [l0, l1, l2, some (.int x)], [.int x, .int i3, .ref k2, .int i1, .ref k0], h) Q := t_iload_n k_215_32 rfl
theorem k_215_33 : lk 215 33 = some (.iadd, 34, 0, 0, .null) := by decide +kernel
theorem x_215_33 : Tr sc d 215 (33, [l0, l1, l2, l3], [.int i4, .int i3, .ref k2, .int i1, .ref k0], h) Q = Tr sc d 215 (34, [l0, l1, l2, l3], [.int (i3 + i4), .ref k2, .int i1, .ref k0], h) Q := t_go k_215_33 rfl
theorem k_215_34 : lk 215 34 = some (.iaload, 35, 0, 0, .null) := by decide +kernel
theorem x_215_34 : Tr sc d 215 (34, [l0, l1, l2, l3], [.int i3, .ref k2, .int i1, .ref k0], h) Q = (iOk sc h k2 i3 ∧ Tr sc d 215 (35, [l0, l1, l2, l3], [.int (iRd sc h k2 i3), .int i1, .ref k0], h) Q) := t_iald k_215_34
theorem k_215_35 : lk 215 35 = some (.aload_n 0, 36, 0, 0, .null) := by decide +kernel
theorem x_215_35 : Tr sc d 215 (35, [some (.ref xk), l1, l2, l3], [.int i2, .int i1, .ref k0], h) Q = Tr sc d 215 (36, [some (.ref xk), l1, l2, l3], [.ref xk, .int i2, .int i1, .ref k0], h) Q := t_aload_n k_215_35 rfl
theorem k_215_36 : lk 215 36 = some (.getfield 50, 39, 10, 21, .null) := by decide +kernel
theorem x_215_36 : Tr sc d 215 (36, [l0, l1, l2, l3], [.ref k3, .int i2, .int i1, .ref k0], h) Q = (okp h k3 10 = true ∧ ∃ q, hR h k3 21 = some q ∧ Tr sc d 215 (39, [l0, l1, l2, l3], [.ref q, .int i2, .int i1, .ref k0], h) Q) := t_getr k_215_36
theorem k_215_39 : lk 215 39 = some (.bipush 6, 41, 0, 0, .int 6) := by decide +kernel
theorem x_215_39 : Tr sc d 215 (39, [l0, l1, l2, l3], [.ref k3, .int i2, .int i1, .ref k0], h) Q = Tr sc d 215 (41, [l0, l1, l2, l3], [.int 6, .ref k3, .int i2, .int i1, .ref k0], h) Q := t_go k_215_39 rfl
theorem k_215_41 : lk 215 41 = some (.iload_n 1, 42, 1, 0, .null) := by decide +kernel
theorem x_215_41 : Tr sc d 215 (41, [l0, some (.int x), l2, l3], [.int i4, .ref k3, .int i2, .int i1, .ref k0], h) Q = Tr sc d 215 (42, [l0, some (.int x), l2, l3], [.int x, .int i4, .ref k3, .int i2, .int i1, .ref k0], h) Q := t_iload_n k_215_41 rfl
theorem k_215_42 : lk 215 42 = some (.imul, 43, 0, 0, .null) := by decide +kernel
theorem x_215_42 : Tr sc d 215 (42, [l0, l1, l2, l3], [.int i5, .int i4, .ref k3, .int i2, .int i1, .ref k0], h) Q = Tr sc d 215 (43, [l0, l1, l2, l3], [.int (i4 * i5), .ref k3, .int i2, .int i1, .ref k0], h) Q := t_go k_215_42 rfl
theorem k_215_43 : lk 215 43 = some (.iload_n 2, 44, 2, 0, .null) := by decide +kernel
theorem x_215_43 : Tr sc d 215 (43, [l0, l1, some (.int x), l3], [.int i4, .ref k3, .int i2, .int i1, .ref k0], h) Q = Tr sc d 215 (44, [l0, l1, some (.int x), l3], [.int x, .int i4, .ref k3, .int i2, .int i1, .ref k0], h) Q := t_iload_n k_215_43 rfl
theorem k_215_44 : lk 215 44 = some (.iadd, 45, 0, 0, .null) := by decide +kernel
theorem x_215_44 : Tr sc d 215 (44, [l0, l1, l2, l3], [.int i5, .int i4, .ref k3, .int i2, .int i1, .ref k0], h) Q = Tr sc d 215 (45, [l0, l1, l2, l3], [.int (i4 + i5), .ref k3, .int i2, .int i1, .ref k0], h) Q := t_go k_215_44 rfl
theorem k_215_45 : lk 215 45 = some (.iaload, 46, 0, 0, .null) := by decide +kernel
theorem x_215_45 : Tr sc d 215 (45, [l0, l1, l2, l3], [.int i4, .ref k3, .int i2, .int i1, .ref k0], h) Q = (iOk sc h k3 i4 ∧ Tr sc d 215 (46, [l0, l1, l2, l3], [.int (iRd sc h k3 i4), .int i2, .int i1, .ref k0], h) Q) := t_iald k_215_45
theorem k_215_46 : lk 215 46 = some (.isub, 47, 0, 0, .null) := by decide +kernel
theorem x_215_46 : Tr sc d 215 (46, [l0, l1, l2, l3], [.int i3, .int i2, .int i1, .ref k0], h) Q = Tr sc d 215 (47, [l0, l1, l2, l3], [.int (i2 - i3), .int i1, .ref k0], h) Q := t_go k_215_46 rfl
theorem k_215_47 : lk 215 47 = some (.invokevirtual 313, 50, 212, 2, .null) := by decide +kernel
theorem x_215_47 : Tr sc (d + 1) 215 (47, [l0, l1, l2, l3], [.int i2, .int i1, .ref k0], h) Q = (okp h k0 10 = true ∧ Tr sc d 212 (ent0 212 [.ref k0, .int i1, .int i2] h) (fun z => Tr sc (d + 1) 215 (50, [l0, l1, l2, l3], z.1.toList ++ [], z.2) Q)) := t_cv (as := [.int i1, .int i2]) (r := []) k_215_47 rfl rfl (Nat.le_of_ble_eq_true rfl) (Nat.le_of_ble_eq_true rfl) (Nat.le_of_ble_eq_true rfl)
theorem k_215_50 : lk 215 50 = some (.ireturn, 51, 0, 0, .null) := by decide +kernel
theorem x_215_50 : Tr sc d 215 (50, [l0, l1, l2, l3], [.int i0], h) Q = (vp_nar .boolean i0 = i0 ∧ Q (some (.int i0), h)) := t_zret k_215_50 r_215
theorem e_215 : Tr sc d 215 (ent0 215 [.ref k0, .int i1, .int i2, .int i3] h) Q = Tr sc d 215 (0, [some (.ref k0), some (.int i1), some (.int i2), some (.int i3)], [], h) Q := by
  have e : mL 215 = 4 := by decide +kernel
  unfold ent0
  rw [e]
  rfl
theorem r_216 : mR 216 = some .boolean := by decide +kernel
theorem k_216_0 : lk 216 0 = some (.aload_n 0, 1, 0, 0, .null) := by decide +kernel
theorem x_216_0 : Tr sc d 216 (0, [some (.ref xk), l1, l2, l3, l4, l5, l6, l7, l8, l9], [], h) Q = Tr sc d 216 (1, [some (.ref xk), l1, l2, l3, l4, l5, l6, l7, l8, l9], [.ref xk], h) Q := t_aload_n k_216_0 rfl
theorem k_216_1 : lk 216 1 = some (.iload_n 1, 2, 1, 0, .null) := by decide +kernel
theorem x_216_1 : Tr sc d 216 (1, [l0, some (.int x), l2, l3, l4, l5, l6, l7, l8, l9], [.ref k0], h) Q = Tr sc d 216 (2, [l0, some (.int x), l2, l3, l4, l5, l6, l7, l8, l9], [.int x, .ref k0], h) Q := t_iload_n k_216_1 rfl
theorem k_216_2 : lk 216 2 = some (.invokevirtual 320, 5, 214, 1, .null) := by decide +kernel
theorem x_216_2 : Tr sc (d + 1) 216 (2, [l0, l1, l2, l3, l4, l5, l6, l7, l8, l9], [.int i1, .ref k0], h) Q = (okp h k0 10 = true ∧ Tr sc d 214 (ent0 214 [.ref k0, .int i1] h) (fun z => Tr sc (d + 1) 216 (5, [l0, l1, l2, l3, l4, l5, l6, l7, l8, l9], z.1.toList ++ [], z.2) Q)) := t_cv (as := [.int i1]) (r := []) k_216_2 rfl rfl (Nat.le_of_ble_eq_true rfl) (Nat.le_of_ble_eq_true rfl) (Nat.le_of_ble_eq_true rfl)
theorem k_216_5 : lk 216 5 = some (.iconst 1, 6, 0, 0, .int 1) := by decide +kernel
theorem x_216_5 : Tr sc d 216 (5, [l0, l1, l2, l3, l4, l5, l6, l7, l8, l9], [], h) Q = Tr sc d 216 (6, [l0, l1, l2, l3, l4, l5, l6, l7, l8, l9], [.int 1], h) Q := t_go k_216_5 rfl
theorem k_216_6 : lk 216 6 = some (.istore_n 2, 7, 2, 0, .null) := by decide +kernel
theorem x_216_6 : Tr sc d 216 (6, [l0, l1, l2, l3, l4, l5, l6, l7, l8, l9], [.int i0], h) Q = Tr sc d 216 (7, [l0, cl2 l1, some (.int i0), l3, l4, l5, l6, l7, l8, l9], [], h) Q := t_istore_n k_216_6 (Nat.le_of_ble_eq_true rfl)
theorem k_216_7 : lk 216 7 = some (.iconst 0, 8, 0, 0, .int 0) := by decide +kernel
theorem x_216_7 : Tr sc d 216 (7, [l0, l1, l2, l3, l4, l5, l6, l7, l8, l9], [], h) Q = Tr sc d 216 (8, [l0, l1, l2, l3, l4, l5, l6, l7, l8, l9], [.int 0], h) Q := t_go k_216_7 rfl
theorem k_216_8 : lk 216 8 = some (.istore_n 3, 9, 3, 0, .null) := by decide +kernel
theorem x_216_8 : Tr sc d 216 (8, [l0, l1, l2, l3, l4, l5, l6, l7, l8, l9], [.int i0], h) Q = Tr sc d 216 (9, [l0, l1, cl2 l2, some (.int i0), l4, l5, l6, l7, l8, l9], [], h) Q := t_istore_n k_216_8 (Nat.le_of_ble_eq_true rfl)
theorem k_216_9 : lk 216 9 = some (.iload_n 3, 10, 3, 0, .null) := by decide +kernel
theorem x_216_9 : Tr sc d 216 (9, [l0, l1, l2, some (.int x), l4, l5, l6, l7, l8, l9], [], h) Q = Tr sc d 216 (10, [l0, l1, l2, some (.int x), l4, l5, l6, l7, l8, l9], [.int x], h) Q := t_iload_n k_216_9 rfl
theorem k_216_10 : lk 216 10 = some (.sipush 1369, 13, 0, 0, .int 1369) := by decide +kernel
theorem x_216_10 : Tr sc d 216 (10, [l0, l1, l2, l3, l4, l5, l6, l7, l8, l9], [.int i0], h) Q = Tr sc d 216 (13, [l0, l1, l2, l3, l4, l5, l6, l7, l8, l9], [.int 1369, .int i0], h) Q := t_go k_216_10 rfl
theorem k_216_13 : lk 216 13 = some (.if_icmp .ge 16, 16, 29, 0, .null) := by decide +kernel
theorem x_216_13 : Tr sc d 216 (13, [l0, l1, l2, l3, l4, l5, l6, l7, l8, l9], [.int i1, .int i0], h) Q = if i1 ≤ i0 then Tr sc d 216 (29, [l0, l1, l2, l3, l4, l5, l6, l7, l8, l9], [], h) Q else Tr sc d 216 (16, [l0, l1, l2, l3, l4, l5, l6, l7, l8, l9], [], h) Q := t_if k_216_13 rfl
theorem k_216_16 : lk 216 16 = some (.aload_n 0, 17, 0, 0, .null) := by decide +kernel
theorem x_216_16 : Tr sc d 216 (16, [some (.ref xk), l1, l2, l3, l4, l5, l6, l7, l8, l9], [], h) Q = Tr sc d 216 (17, [some (.ref xk), l1, l2, l3, l4, l5, l6, l7, l8, l9], [.ref xk], h) Q := t_aload_n k_216_16 rfl
theorem k_216_17 : lk 216 17 = some (.getfield 88, 20, 10, 46, .null) := by decide +kernel
theorem x_216_17 : Tr sc d 216 (17, [l0, l1, l2, l3, l4, l5, l6, l7, l8, l9], [.ref k0], h) Q = (okp h k0 10 = true ∧ ∃ q, hR h k0 46 = some q ∧ Tr sc d 216 (20, [l0, l1, l2, l3, l4, l5, l6, l7, l8, l9], [.ref q], h) Q) := t_getr k_216_17
theorem k_216_20 : lk 216 20 = some (.iload_n 3, 21, 3, 0, .null) := by decide +kernel
theorem x_216_20 : Tr sc d 216 (20, [l0, l1, l2, some (.int x), l4, l5, l6, l7, l8, l9], [.ref k0], h) Q = Tr sc d 216 (21, [l0, l1, l2, some (.int x), l4, l5, l6, l7, l8, l9], [.int x, .ref k0], h) Q := t_iload_n k_216_20 rfl
theorem k_216_21 : lk 216 21 = some (.iconst 0, 22, 0, 0, .int 0) := by decide +kernel
theorem x_216_21 : Tr sc d 216 (21, [l0, l1, l2, l3, l4, l5, l6, l7, l8, l9], [.int i1, .ref k0], h) Q = Tr sc d 216 (22, [l0, l1, l2, l3, l4, l5, l6, l7, l8, l9], [.int 0, .int i1, .ref k0], h) Q := t_go k_216_21 rfl
theorem k_216_22 : lk 216 22 = some (.bastore, 23, 0, 0, .null) := by decide +kernel
theorem x_216_22 : Tr sc d 216 (22, [l0, l1, l2, l3, l4, l5, l6, l7, l8, l9], [.int i2, .int i1, .ref k0], h) Q = ((okp h k0 13 && inb i1 (LN k0)) = true ∧ Tr sc d 216 (23, [l0, l1, l2, l3, l4, l5, l6, l7, l8, l9], [], (sI h k0 i1.toNatClampNeg (vp_nar .boolean i2))) Q) := t_gd k_216_22 rfl
theorem k_216_23 : lk 216 23 = some (.iinc 3 1, 26, 3, 0, .int 1) := by decide +kernel
theorem x_216_23 : Tr sc d 216 (23, [l0, l1, l2, some (.int x), l4, l5, l6, l7, l8, l9], [], h) Q = Tr sc d 216 (26, [l0, l1, cl2 l2, some (.int (x + 1)), l4, l5, l6, l7, l8, l9], [], h) Q := t_inc k_216_23 rfl (Nat.le_of_ble_eq_true rfl)
theorem k_216_26 : lk 216 26 = some (.goto (-17), 29, 9, 0, .null) := by decide +kernel
theorem x_216_26 : Tr sc d 216 (26, [l0, l1, l2, l3, l4, l5, l6, l7, l8, l9], [], h) Q = Tr sc d 216 (9, [l0, l1, l2, l3, l4, l5, l6, l7, l8, l9], [], h) Q := t_go k_216_26 rfl
theorem k_216_29 : lk 216 29 = some (.iconst 0, 30, 0, 0, .int 0) := by decide +kernel
theorem x_216_29 : Tr sc d 216 (29, [l0, l1, l2, l3, l4, l5, l6, l7, l8, l9], [], h) Q = Tr sc d 216 (30, [l0, l1, l2, l3, l4, l5, l6, l7, l8, l9], [.int 0], h) Q := t_go k_216_29 rfl
theorem k_216_30 : lk 216 30 = some (.istore_n 3, 31, 3, 0, .null) := by decide +kernel
theorem x_216_30 : Tr sc d 216 (30, [l0, l1, l2, l3, l4, l5, l6, l7, l8, l9], [.int i0], h) Q = Tr sc d 216 (31, [l0, l1, cl2 l2, some (.int i0), l4, l5, l6, l7, l8, l9], [], h) Q := t_istore_n k_216_30 (Nat.le_of_ble_eq_true rfl)
theorem k_216_31 : lk 216 31 = some (.iload_n 3, 32, 3, 0, .null) := by decide +kernel
theorem x_216_31 : Tr sc d 216 (31, [l0, l1, l2, some (.int x), l4, l5, l6, l7, l8, l9], [], h) Q = Tr sc d 216 (32, [l0, l1, l2, some (.int x), l4, l5, l6, l7, l8, l9], [.int x], h) Q := t_iload_n k_216_31 rfl
theorem k_216_32 : lk 216 32 = some (.aload_n 0, 33, 0, 0, .null) := by decide +kernel
theorem x_216_32 : Tr sc d 216 (32, [some (.ref xk), l1, l2, l3, l4, l5, l6, l7, l8, l9], [.int i0], h) Q = Tr sc d 216 (33, [some (.ref xk), l1, l2, l3, l4, l5, l6, l7, l8, l9], [.ref xk, .int i0], h) Q := t_aload_n k_216_32 rfl
theorem k_216_33 : lk 216 33 = some (.getfield 41, 36, 10, 18, .null) := by decide +kernel
theorem x_216_33 : Tr sc d 216 (33, [l0, l1, l2, l3, l4, l5, l6, l7, l8, l9], [.ref k1, .int i0], h) Q = (okp h k1 10 = true ∧ ∃ q, hR h k1 18 = some q ∧ Tr sc d 216 (36, [l0, l1, l2, l3, l4, l5, l6, l7, l8, l9], [.ref q, .int i0], h) Q) := t_getr k_216_33
theorem k_216_36 : lk 216 36 = some (.iload_n 1, 37, 1, 0, .null) := by decide +kernel
theorem x_216_36 : Tr sc d 216 (36, [l0, some (.int x), l2, l3, l4, l5, l6, l7, l8, l9], [.ref k1, .int i0], h) Q = Tr sc d 216 (37, [l0, some (.int x), l2, l3, l4, l5, l6, l7, l8, l9], [.int x, .ref k1, .int i0], h) Q := t_iload_n k_216_36 rfl
theorem k_216_37 : lk 216 37 = some (.iaload, 38, 0, 0, .null) := by decide +kernel
theorem x_216_37 : Tr sc d 216 (37, [l0, l1, l2, l3, l4, l5, l6, l7, l8, l9], [.int i2, .ref k1, .int i0], h) Q = (iOk sc h k1 i2 ∧ Tr sc d 216 (38, [l0, l1, l2, l3, l4, l5, l6, l7, l8, l9], [.int (iRd sc h k1 i2), .int i0], h) Q) := t_iald k_216_37
theorem k_216_38 : lk 216 38 = some (.if_icmp .ge 103, 41, 141, 0, .null) := by decide +kernel
theorem x_216_38 : Tr sc d 216 (38, [l0, l1, l2, l3, l4, l5, l6, l7, l8, l9], [.int i1, .int i0], h) Q = if i1 ≤ i0 then Tr sc d 216 (141, [l0, l1, l2, l3, l4, l5, l6, l7, l8, l9], [], h) Q else Tr sc d 216 (41, [l0, l1, l2, l3, l4, l5, l6, l7, l8, l9], [], h) Q := t_if k_216_38 rfl
theorem k_216_41 : lk 216 41 = some (.iconst 0, 42, 0, 0, .int 0) := by decide +kernel
theorem x_216_41 : Tr sc d 216 (41, [l0, l1, l2, l3, l4, l5, l6, l7, l8, l9], [], h) Q = Tr sc d 216 (42, [l0, l1, l2, l3, l4, l5, l6, l7, l8, l9], [.int 0], h) Q := t_go k_216_41 rfl
theorem k_216_42 : lk 216 42 = some (.istore 4, 44, 4, 0, .null) := by decide +kernel
theorem x_216_42 : Tr sc d 216 (42, [l0, l1, l2, l3, l4, l5, l6, l7, l8, l9], [.int i0], h) Q = Tr sc d 216 (44, [l0, l1, l2, cl2 l3, some (.int i0), l5, l6, l7, l8, l9], [], h) Q := t_istore k_216_42 (Nat.le_of_ble_eq_true rfl)
theorem k_216_44 : lk 216 44 = some (.iload 4, 46, 4, 0, .null) := by decide +kernel
theorem x_216_44 : Tr sc d 216 (44, [l0, l1, l2, l3, some (.int x), l5, l6, l7, l8, l9], [], h) Q = Tr sc d 216 (46, [l0, l1, l2, l3, some (.int x), l5, l6, l7, l8, l9], [.int x], h) Q := t_iload k_216_44 rfl
theorem k_216_46 : lk 216 46 = some (.aload_n 0, 47, 0, 0, .null) := by decide +kernel
theorem x_216_46 : Tr sc d 216 (46, [some (.ref xk), l1, l2, l3, l4, l5, l6, l7, l8, l9], [.int i0], h) Q = Tr sc d 216 (47, [some (.ref xk), l1, l2, l3, l4, l5, l6, l7, l8, l9], [.ref xk, .int i0], h) Q := t_aload_n k_216_46 rfl
theorem k_216_47 : lk 216 47 = some (.getfield 41, 50, 10, 18, .null) := by decide +kernel
theorem x_216_47 : Tr sc d 216 (47, [l0, l1, l2, l3, l4, l5, l6, l7, l8, l9], [.ref k1, .int i0], h) Q = (okp h k1 10 = true ∧ ∃ q, hR h k1 18 = some q ∧ Tr sc d 216 (50, [l0, l1, l2, l3, l4, l5, l6, l7, l8, l9], [.ref q, .int i0], h) Q) := t_getr k_216_47
theorem k_216_50 : lk 216 50 = some (.iload_n 1, 51, 1, 0, .null) := by decide +kernel
theorem x_216_50 : Tr sc d 216 (50, [l0, some (.int x), l2, l3, l4, l5, l6, l7, l8, l9], [.ref k1, .int i0], h) Q = Tr sc d 216 (51, [l0, some (.int x), l2, l3, l4, l5, l6, l7, l8, l9], [.int x, .ref k1, .int i0], h) Q := t_iload_n k_216_50 rfl
theorem k_216_51 : lk 216 51 = some (.iaload, 52, 0, 0, .null) := by decide +kernel
theorem x_216_51 : Tr sc d 216 (51, [l0, l1, l2, l3, l4, l5, l6, l7, l8, l9], [.int i2, .ref k1, .int i0], h) Q = (iOk sc h k1 i2 ∧ Tr sc d 216 (52, [l0, l1, l2, l3, l4, l5, l6, l7, l8, l9], [.int (iRd sc h k1 i2), .int i0], h) Q) := t_iald k_216_51
theorem k_216_52 : lk 216 52 = some (.if_icmp .ge 83, 55, 135, 0, .null) := by decide +kernel
theorem x_216_52 : Tr sc d 216 (52, [l0, l1, l2, l3, l4, l5, l6, l7, l8, l9], [.int i1, .int i0], h) Q = if i1 ≤ i0 then Tr sc d 216 (135, [l0, l1, l2, l3, l4, l5, l6, l7, l8, l9], [], h) Q else Tr sc d 216 (55, [l0, l1, l2, l3, l4, l5, l6, l7, l8, l9], [], h) Q := t_if k_216_52 rfl
theorem k_216_55 : lk 216 55 = some (.iload_n 3, 56, 3, 0, .null) := by decide +kernel
theorem x_216_55 : Tr sc d 216 (55, [l0, l1, l2, some (.int x), l4, l5, l6, l7, l8, l9], [], h) Q = Tr sc d 216 (56, [l0, l1, l2, some (.int x), l4, l5, l6, l7, l8, l9], [.int x], h) Q := t_iload_n k_216_55 rfl
theorem k_216_56 : lk 216 56 = some (.iload 4, 58, 4, 0, .null) := by decide +kernel
theorem x_216_56 : Tr sc d 216 (56, [l0, l1, l2, l3, some (.int x), l5, l6, l7, l8, l9], [.int i0], h) Q = Tr sc d 216 (58, [l0, l1, l2, l3, some (.int x), l5, l6, l7, l8, l9], [.int x, .int i0], h) Q := t_iload k_216_56 rfl
theorem k_216_58 : lk 216 58 = some (.if_icmp .eq 71, 61, 129, 0, .null) := by decide +kernel
theorem x_216_58 : Tr sc d 216 (58, [l0, l1, l2, l3, l4, l5, l6, l7, l8, l9], [.int i1, .int i0], h) Q = if i0 = i1 then Tr sc d 216 (129, [l0, l1, l2, l3, l4, l5, l6, l7, l8, l9], [], h) Q else Tr sc d 216 (61, [l0, l1, l2, l3, l4, l5, l6, l7, l8, l9], [], h) Q := t_if k_216_58 rfl
theorem k_216_61 : lk 216 61 = some (.aload_n 0, 62, 0, 0, .null) := by decide +kernel
theorem x_216_61 : Tr sc d 216 (61, [some (.ref xk), l1, l2, l3, l4, l5, l6, l7, l8, l9], [], h) Q = Tr sc d 216 (62, [some (.ref xk), l1, l2, l3, l4, l5, l6, l7, l8, l9], [.ref xk], h) Q := t_aload_n k_216_61 rfl
theorem k_216_62 : lk 216 62 = some (.iload_n 1, 63, 1, 0, .null) := by decide +kernel
theorem x_216_62 : Tr sc d 216 (62, [l0, some (.int x), l2, l3, l4, l5, l6, l7, l8, l9], [.ref k0], h) Q = Tr sc d 216 (63, [l0, some (.int x), l2, l3, l4, l5, l6, l7, l8, l9], [.int x, .ref k0], h) Q := t_iload_n k_216_62 rfl
theorem k_216_63 : lk 216 63 = some (.iload_n 3, 64, 3, 0, .null) := by decide +kernel
theorem x_216_63 : Tr sc d 216 (63, [l0, l1, l2, some (.int x), l4, l5, l6, l7, l8, l9], [.int i1, .ref k0], h) Q = Tr sc d 216 (64, [l0, l1, l2, some (.int x), l4, l5, l6, l7, l8, l9], [.int x, .int i1, .ref k0], h) Q := t_iload_n k_216_63 rfl
theorem k_216_64 : lk 216 64 = some (.iload 4, 66, 4, 0, .null) := by decide +kernel
theorem x_216_64 : Tr sc d 216 (64, [l0, l1, l2, l3, some (.int x), l5, l6, l7, l8, l9], [.int i2, .int i1, .ref k0], h) Q = Tr sc d 216 (66, [l0, l1, l2, l3, some (.int x), l5, l6, l7, l8, l9], [.int x, .int i2, .int i1, .ref k0], h) Q := t_iload k_216_64 rfl
theorem k_216_66 : lk 216 66 = some (.invokevirtual 324, 69, 215, 3, .null) := by decide +kernel
theorem x_216_66 : Tr sc (d + 1) 216 (66, [l0, l1, l2, l3, l4, l5, l6, l7, l8, l9], [.int i3, .int i2, .int i1, .ref k0], h) Q = (okp h k0 10 = true ∧ Tr sc d 215 (ent0 215 [.ref k0, .int i1, .int i2, .int i3] h) (fun z => Tr sc (d + 1) 216 (69, [l0, l1, l2, l3, l4, l5, l6, l7, l8, l9], z.1.toList ++ [], z.2) Q)) := t_cv (as := [.int i1, .int i2, .int i3]) (r := []) k_216_66 rfl rfl (Nat.le_of_ble_eq_true rfl) (Nat.le_of_ble_eq_true rfl) (Nat.le_of_ble_eq_true rfl)
theorem k_216_69 : lk 216 69 = some (.ifCond .eq 60, 72, 129, 0, .null) := by decide +kernel
theorem x_216_69 : Tr sc d 216 (69, [l0, l1, l2, l3, l4, l5, l6, l7, l8, l9], [.int i0], h) Q = if i0 = 0 then Tr sc d 216 (129, [l0, l1, l2, l3, l4, l5, l6, l7, l8, l9], [], h) Q else Tr sc d 216 (72, [l0, l1, l2, l3, l4, l5, l6, l7, l8, l9], [], h) Q := t_if k_216_69 rfl
theorem k_216_72 : lk 216 72 = some (.aload_n 0, 73, 0, 0, .null) := by decide +kernel
theorem x_216_72 : Tr sc d 216 (72, [some (.ref xk), l1, l2, l3, l4, l5, l6, l7, l8, l9], [], h) Q = Tr sc d 216 (73, [some (.ref xk), l1, l2, l3, l4, l5, l6, l7, l8, l9], [.ref xk], h) Q := t_aload_n k_216_72 rfl
theorem k_216_73 : lk 216 73 = some (.getfield 88, 76, 10, 46, .null) := by decide +kernel
theorem x_216_73 : Tr sc d 216 (73, [l0, l1, l2, l3, l4, l5, l6, l7, l8, l9], [.ref k0], h) Q = (okp h k0 10 = true ∧ ∃ q, hR h k0 46 = some q ∧ Tr sc d 216 (76, [l0, l1, l2, l3, l4, l5, l6, l7, l8, l9], [.ref q], h) Q) := t_getr k_216_73
theorem k_216_76 : lk 216 76 = some (.aload_n 0, 77, 0, 0, .null) := by decide +kernel
theorem x_216_76 : Tr sc d 216 (76, [some (.ref xk), l1, l2, l3, l4, l5, l6, l7, l8, l9], [.ref k0], h) Q = Tr sc d 216 (77, [some (.ref xk), l1, l2, l3, l4, l5, l6, l7, l8, l9], [.ref xk, .ref k0], h) Q := t_aload_n k_216_76 rfl
theorem k_216_77 : lk 216 77 = some (.getfield 47, 80, 10, 20, .null) := by decide +kernel
theorem x_216_77 : Tr sc d 216 (77, [l0, l1, l2, l3, l4, l5, l6, l7, l8, l9], [.ref k1, .ref k0], h) Q = (okp h k1 10 = true ∧ ∃ q, hR h k1 20 = some q ∧ Tr sc d 216 (80, [l0, l1, l2, l3, l4, l5, l6, l7, l8, l9], [.ref q, .ref k0], h) Q) := t_getr k_216_77
theorem k_216_80 : lk 216 80 = some (.bipush 6, 82, 0, 0, .int 6) := by decide +kernel
theorem x_216_80 : Tr sc d 216 (80, [l0, l1, l2, l3, l4, l5, l6, l7, l8, l9], [.ref k1, .ref k0], h) Q = Tr sc d 216 (82, [l0, l1, l2, l3, l4, l5, l6, l7, l8, l9], [.int 6, .ref k1, .ref k0], h) Q := t_go k_216_80 rfl
theorem k_216_82 : lk 216 82 = some (.iload_n 1, 83, 1, 0, .null) := by decide +kernel
theorem x_216_82 : Tr sc d 216 (82, [l0, some (.int x), l2, l3, l4, l5, l6, l7, l8, l9], [.int i2, .ref k1, .ref k0], h) Q = Tr sc d 216 (83, [l0, some (.int x), l2, l3, l4, l5, l6, l7, l8, l9], [.int x, .int i2, .ref k1, .ref k0], h) Q := t_iload_n k_216_82 rfl
theorem k_216_83 : lk 216 83 = some (.imul, 84, 0, 0, .null) := by decide +kernel
theorem x_216_83 : Tr sc d 216 (83, [l0, l1, l2, l3, l4, l5, l6, l7, l8, l9], [.int i3, .int i2, .ref k1, .ref k0], h) Q = Tr sc d 216 (84, [l0, l1, l2, l3, l4, l5, l6, l7, l8, l9], [.int (i2 * i3), .ref k1, .ref k0], h) Q := t_go k_216_83 rfl
theorem k_216_84 : lk 216 84 = some (.iload 4, 86, 4, 0, .null) := by decide +kernel
theorem x_216_84 : Tr sc d 216 (84, [l0, l1, l2, l3, some (.int x), l5, l6, l7, l8, l9], [.int i2, .ref k1, .ref k0], h) Q = Tr sc d 216 (86, [l0, l1, l2, l3, some (.int x), l5, l6, l7, l8, l9], [.int x, .int i2, .ref k1, .ref k0], h) Q := t_iload k_216_84 rfl
theorem k_216_86 : lk 216 86 = some (.iadd, 87, 0, 0, .null) := by decide +kernel
theorem x_216_86 : Tr sc d 216 (86, [l0, l1, l2, l3, l4, l5, l6, l7, l8, l9], [.int i3, .int i2, .ref k1, .ref k0], h) Q = Tr sc d 216 (87, [l0, l1, l2, l3, l4, l5, l6, l7, l8, l9], [.int (i2 + i3), .ref k1, .ref k0], h) Q := t_go k_216_86 rfl
theorem k_216_87 : lk 216 87 = some (.iaload, 88, 0, 0, .null) := by decide +kernel
theorem x_216_87 : Tr sc d 216 (87, [l0, l1, l2, l3, l4, l5, l6, l7, l8, l9], [.int i2, .ref k1, .ref k0], h) Q = (iOk sc h k1 i2 ∧ Tr sc d 216 (88, [l0, l1, l2, l3, l4, l5, l6, l7, l8, l9], [.int (iRd sc h k1 i2), .ref k0], h) Q) := t_iald k_216_87
theorem k_216_88 : lk 216 88 = some (.aload_n 0, 89, 0, 0, .null) := by decide +kernel
theorem x_216_88 : Tr sc d 216 (88, [some (.ref xk), l1, l2, l3, l4, l5, l6, l7, l8, l9], [.int i1, .ref k0], h) Q = Tr sc d 216 (89, [some (.ref xk), l1, l2, l3, l4, l5, l6, l7, l8, l9], [.ref xk, .int i1, .ref k0], h) Q := t_aload_n k_216_88 rfl
theorem k_216_89 : lk 216 89 = some (.getfield 47, 92, 10, 20, .null) := by decide +kernel
theorem x_216_89 : Tr sc d 216 (89, [l0, l1, l2, l3, l4, l5, l6, l7, l8, l9], [.ref k2, .int i1, .ref k0], h) Q = (okp h k2 10 = true ∧ ∃ q, hR h k2 20 = some q ∧ Tr sc d 216 (92, [l0, l1, l2, l3, l4, l5, l6, l7, l8, l9], [.ref q, .int i1, .ref k0], h) Q) := t_getr k_216_89
theorem k_216_92 : lk 216 92 = some (.bipush 6, 94, 0, 0, .int 6) := by decide +kernel
theorem x_216_92 : Tr sc d 216 (92, [l0, l1, l2, l3, l4, l5, l6, l7, l8, l9], [.ref k2, .int i1, .ref k0], h) Q = Tr sc d 216 (94, [l0, l1, l2, l3, l4, l5, l6, l7, l8, l9], [.int 6, .ref k2, .int i1, .ref k0], h) Q := t_go k_216_92 rfl
theorem k_216_94 : lk 216 94 = some (.iload_n 1, 95, 1, 0, .null) := by decide +kernel
theorem x_216_94 : Tr sc d 216 (94, [l0, some (.int x), l2, l3, l4, l5, l6, l7, l8, l9], [.int i3, .ref k2, .int i1, .ref k0], h) Q = Tr sc d 216 (95, [l0, some (.int x), l2, l3, l4, l5, l6, l7, l8, l9], [.int x, .int i3, .ref k2, .int i1, .ref k0], h) Q := t_iload_n k_216_94 rfl
theorem k_216_95 : lk 216 95 = some (.imul, 96, 0, 0, .null) := by decide +kernel
theorem x_216_95 : Tr sc d 216 (95, [l0, l1, l2, l3, l4, l5, l6, l7, l8, l9], [.int i4, .int i3, .ref k2, .int i1, .ref k0], h) Q = Tr sc d 216 (96, [l0, l1, l2, l3, l4, l5, l6, l7, l8, l9], [.int (i3 * i4), .ref k2, .int i1, .ref k0], h) Q := t_go k_216_95 rfl
theorem k_216_96 : lk 216 96 = some (.iload_n 3, 97, 3, 0, .null) := by decide +kernel
theorem x_216_96 : Tr sc d 216 (96, [l0, l1, l2, some (.int x), l4, l5, l6, l7, l8, l9], [.int i3, .ref k2, .int i1, .ref k0], h) Q = Tr sc d 216 (97, [l0, l1, l2, some (.int x), l4, l5, l6, l7, l8, l9], [.int x, .int i3, .ref k2, .int i1, .ref k0], h) Q := t_iload_n k_216_96 rfl
theorem k_216_97 : lk 216 97 = some (.iadd, 98, 0, 0, .null) := by decide +kernel
theorem x_216_97 : Tr sc d 216 (97, [l0, l1, l2, l3, l4, l5, l6, l7, l8, l9], [.int i4, .int i3, .ref k2, .int i1, .ref k0], h) Q = Tr sc d 216 (98, [l0, l1, l2, l3, l4, l5, l6, l7, l8, l9], [.int (i3 + i4), .ref k2, .int i1, .ref k0], h) Q := t_go k_216_97 rfl
theorem k_216_98 : lk 216 98 = some (.iaload, 99, 0, 0, .null) := by decide +kernel
theorem x_216_98 : Tr sc d 216 (98, [l0, l1, l2, l3, l4, l5, l6, l7, l8, l9], [.int i3, .ref k2, .int i1, .ref k0], h) Q = (iOk sc h k2 i3 ∧ Tr sc d 216 (99, [l0, l1, l2, l3, l4, l5, l6, l7, l8, l9], [.int (iRd sc h k2 i3), .int i1, .ref k0], h) Q) := t_iald k_216_98
theorem k_216_99 : lk 216 99 = some (.isub, 100, 0, 0, .null) := by decide +kernel
theorem x_216_99 : Tr sc d 216 (99, [l0, l1, l2, l3, l4, l5, l6, l7, l8, l9], [.int i2, .int i1, .ref k0], h) Q = Tr sc d 216 (100, [l0, l1, l2, l3, l4, l5, l6, l7, l8, l9], [.int (i1 - i2), .ref k0], h) Q := t_go k_216_99 rfl
theorem k_216_100 : lk 216 100 = some (.aload_n 0, 101, 0, 0, .null) := by decide +kernel
theorem x_216_100 : Tr sc d 216 (100, [some (.ref xk), l1, l2, l3, l4, l5, l6, l7, l8, l9], [.int i1, .ref k0], h) Q = Tr sc d 216 (101, [some (.ref xk), l1, l2, l3, l4, l5, l6, l7, l8, l9], [.ref xk, .int i1, .ref k0], h) Q := t_aload_n k_216_100 rfl
theorem k_216_101 : lk 216 101 = some (.getfield 50, 104, 10, 21, .null) := by decide +kernel
theorem x_216_101 : Tr sc d 216 (101, [l0, l1, l2, l3, l4, l5, l6, l7, l8, l9], [.ref k2, .int i1, .ref k0], h) Q = (okp h k2 10 = true ∧ ∃ q, hR h k2 21 = some q ∧ Tr sc d 216 (104, [l0, l1, l2, l3, l4, l5, l6, l7, l8, l9], [.ref q, .int i1, .ref k0], h) Q) := t_getr k_216_101
theorem k_216_104 : lk 216 104 = some (.bipush 6, 106, 0, 0, .int 6) := by decide +kernel
theorem x_216_104 : Tr sc d 216 (104, [l0, l1, l2, l3, l4, l5, l6, l7, l8, l9], [.ref k2, .int i1, .ref k0], h) Q = Tr sc d 216 (106, [l0, l1, l2, l3, l4, l5, l6, l7, l8, l9], [.int 6, .ref k2, .int i1, .ref k0], h) Q := t_go k_216_104 rfl
theorem k_216_106 : lk 216 106 = some (.iload_n 1, 107, 1, 0, .null) := by decide +kernel
theorem x_216_106 : Tr sc d 216 (106, [l0, some (.int x), l2, l3, l4, l5, l6, l7, l8, l9], [.int i3, .ref k2, .int i1, .ref k0], h) Q = Tr sc d 216 (107, [l0, some (.int x), l2, l3, l4, l5, l6, l7, l8, l9], [.int x, .int i3, .ref k2, .int i1, .ref k0], h) Q := t_iload_n k_216_106 rfl
theorem k_216_107 : lk 216 107 = some (.imul, 108, 0, 0, .null) := by decide +kernel
theorem x_216_107 : Tr sc d 216 (107, [l0, l1, l2, l3, l4, l5, l6, l7, l8, l9], [.int i4, .int i3, .ref k2, .int i1, .ref k0], h) Q = Tr sc d 216 (108, [l0, l1, l2, l3, l4, l5, l6, l7, l8, l9], [.int (i3 * i4), .ref k2, .int i1, .ref k0], h) Q := t_go k_216_107 rfl
theorem k_216_108 : lk 216 108 = some (.iload 4, 110, 4, 0, .null) := by decide +kernel
theorem x_216_108 : Tr sc d 216 (108, [l0, l1, l2, l3, some (.int x), l5, l6, l7, l8, l9], [.int i3, .ref k2, .int i1, .ref k0], h) Q = Tr sc d 216 (110, [l0, l1, l2, l3, some (.int x), l5, l6, l7, l8, l9], [.int x, .int i3, .ref k2, .int i1, .ref k0], h) Q := t_iload k_216_108 rfl
theorem k_216_110 : lk 216 110 = some (.iadd, 111, 0, 0, .null) := by decide +kernel
theorem x_216_110 : Tr sc d 216 (110, [l0, l1, l2, l3, l4, l5, l6, l7, l8, l9], [.int i4, .int i3, .ref k2, .int i1, .ref k0], h) Q = Tr sc d 216 (111, [l0, l1, l2, l3, l4, l5, l6, l7, l8, l9], [.int (i3 + i4), .ref k2, .int i1, .ref k0], h) Q := t_go k_216_110 rfl
theorem k_216_111 : lk 216 111 = some (.iaload, 112, 0, 0, .null) := by decide +kernel
theorem x_216_111 : Tr sc d 216 (111, [l0, l1, l2, l3, l4, l5, l6, l7, l8, l9], [.int i3, .ref k2, .int i1, .ref k0], h) Q = (iOk sc h k2 i3 ∧ Tr sc d 216 (112, [l0, l1, l2, l3, l4, l5, l6, l7, l8, l9], [.int (iRd sc h k2 i3), .int i1, .ref k0], h) Q) := t_iald k_216_111
theorem k_216_112 : lk 216 112 = some (.aload_n 0, 113, 0, 0, .null) := by decide +kernel
theorem x_216_112 : Tr sc d 216 (112, [some (.ref xk), l1, l2, l3, l4, l5, l6, l7, l8, l9], [.int i2, .int i1, .ref k0], h) Q = Tr sc d 216 (113, [some (.ref xk), l1, l2, l3, l4, l5, l6, l7, l8, l9], [.ref xk, .int i2, .int i1, .ref k0], h) Q := t_aload_n k_216_112 rfl
theorem k_216_113 : lk 216 113 = some (.getfield 50, 116, 10, 21, .null) := by decide +kernel
theorem x_216_113 : Tr sc d 216 (113, [l0, l1, l2, l3, l4, l5, l6, l7, l8, l9], [.ref k3, .int i2, .int i1, .ref k0], h) Q = (okp h k3 10 = true ∧ ∃ q, hR h k3 21 = some q ∧ Tr sc d 216 (116, [l0, l1, l2, l3, l4, l5, l6, l7, l8, l9], [.ref q, .int i2, .int i1, .ref k0], h) Q) := t_getr k_216_113
theorem k_216_116 : lk 216 116 = some (.bipush 6, 118, 0, 0, .int 6) := by decide +kernel
theorem x_216_116 : Tr sc d 216 (116, [l0, l1, l2, l3, l4, l5, l6, l7, l8, l9], [.ref k3, .int i2, .int i1, .ref k0], h) Q = Tr sc d 216 (118, [l0, l1, l2, l3, l4, l5, l6, l7, l8, l9], [.int 6, .ref k3, .int i2, .int i1, .ref k0], h) Q := t_go k_216_116 rfl
theorem k_216_118 : lk 216 118 = some (.iload_n 1, 119, 1, 0, .null) := by decide +kernel
theorem x_216_118 : Tr sc d 216 (118, [l0, some (.int x), l2, l3, l4, l5, l6, l7, l8, l9], [.int i4, .ref k3, .int i2, .int i1, .ref k0], h) Q = Tr sc d 216 (119, [l0, some (.int x), l2, l3, l4, l5, l6, l7, l8, l9], [.int x, .int i4, .ref k3, .int i2, .int i1, .ref k0], h) Q := t_iload_n k_216_118 rfl
theorem k_216_119 : lk 216 119 = some (.imul, 120, 0, 0, .null) := by decide +kernel
theorem x_216_119 : Tr sc d 216 (119, [l0, l1, l2, l3, l4, l5, l6, l7, l8, l9], [.int i5, .int i4, .ref k3, .int i2, .int i1, .ref k0], h) Q = Tr sc d 216 (120, [l0, l1, l2, l3, l4, l5, l6, l7, l8, l9], [.int (i4 * i5), .ref k3, .int i2, .int i1, .ref k0], h) Q := t_go k_216_119 rfl
theorem k_216_120 : lk 216 120 = some (.iload_n 3, 121, 3, 0, .null) := by decide +kernel
theorem x_216_120 : Tr sc d 216 (120, [l0, l1, l2, some (.int x), l4, l5, l6, l7, l8, l9], [.int i4, .ref k3, .int i2, .int i1, .ref k0], h) Q = Tr sc d 216 (121, [l0, l1, l2, some (.int x), l4, l5, l6, l7, l8, l9], [.int x, .int i4, .ref k3, .int i2, .int i1, .ref k0], h) Q := t_iload_n k_216_120 rfl
theorem k_216_121 : lk 216 121 = some (.iadd, 122, 0, 0, .null) := by decide +kernel
theorem x_216_121 : Tr sc d 216 (121, [l0, l1, l2, l3, l4, l5, l6, l7, l8, l9], [.int i5, .int i4, .ref k3, .int i2, .int i1, .ref k0], h) Q = Tr sc d 216 (122, [l0, l1, l2, l3, l4, l5, l6, l7, l8, l9], [.int (i4 + i5), .ref k3, .int i2, .int i1, .ref k0], h) Q := t_go k_216_121 rfl
theorem k_216_122 : lk 216 122 = some (.iaload, 123, 0, 0, .null) := by decide +kernel
theorem x_216_122 : Tr sc d 216 (122, [l0, l1, l2, l3, l4, l5, l6, l7, l8, l9], [.int i4, .ref k3, .int i2, .int i1, .ref k0], h) Q = (iOk sc h k3 i4 ∧ Tr sc d 216 (123, [l0, l1, l2, l3, l4, l5, l6, l7, l8, l9], [.int (iRd sc h k3 i4), .int i2, .int i1, .ref k0], h) Q) := t_iald k_216_122
theorem k_216_123 : lk 216 123 = some (.isub, 124, 0, 0, .null) := by decide +kernel
theorem x_216_123 : Tr sc d 216 (123, [l0, l1, l2, l3, l4, l5, l6, l7, l8, l9], [.int i3, .int i2, .int i1, .ref k0], h) Q = Tr sc d 216 (124, [l0, l1, l2, l3, l4, l5, l6, l7, l8, l9], [.int (i2 - i3), .int i1, .ref k0], h) Q := t_go k_216_123 rfl
theorem k_216_124 : lk 216 124 = some (.invokestatic 310, 127, 211, 2, .null) := by decide +kernel
theorem x_216_124 : Tr sc (d + 1) 216 (124, [l0, l1, l2, l3, l4, l5, l6, l7, l8, l9], [.int i2, .int i1, .ref k0], h) Q = Tr sc d 211 (ent0 211 [.int i1, .int i2] h) (fun z => Tr sc (d + 1) 216 (127, [l0, l1, l2, l3, l4, l5, l6, l7, l8, l9], z.1.toList ++ [.ref k0], z.2) Q) := t_cs (as := [.int i1, .int i2]) (r := [.ref k0]) k_216_124 (by decide) rfl rfl (Nat.le_of_ble_eq_true rfl) (Nat.le_of_ble_eq_true rfl)
theorem k_216_127 : lk 216 127 = some (.iconst 1, 128, 0, 0, .int 1) := by decide +kernel
theorem x_216_127 : Tr sc d 216 (127, [l0, l1, l2, l3, l4, l5, l6, l7, l8, l9], [.int i1, .ref k0], h) Q = Tr sc d 216 (128, [l0, l1, l2, l3, l4, l5, l6, l7, l8, l9], [.int 1, .int i1, .ref k0], h) Q := t_go k_216_127 rfl
theorem k_216_128 : lk 216 128 = some (.bastore, 129, 0, 0, .null) := by decide +kernel
theorem x_216_128 : Tr sc d 216 (128, [l0, l1, l2, l3, l4, l5, l6, l7, l8, l9], [.int i2, .int i1, .ref k0], h) Q = ((okp h k0 13 && inb i1 (LN k0)) = true ∧ Tr sc d 216 (129, [l0, l1, l2, l3, l4, l5, l6, l7, l8, l9], [], (sI h k0 i1.toNatClampNeg (vp_nar .boolean i2))) Q) := t_gd k_216_128 rfl
theorem k_216_129 : lk 216 129 = some (.iinc 4 1, 132, 4, 0, .int 1) := by decide +kernel
theorem x_216_129 : Tr sc d 216 (129, [l0, l1, l2, l3, some (.int x), l5, l6, l7, l8, l9], [], h) Q = Tr sc d 216 (132, [l0, l1, l2, cl2 l3, some (.int (x + 1)), l5, l6, l7, l8, l9], [], h) Q := t_inc k_216_129 rfl (Nat.le_of_ble_eq_true rfl)
theorem k_216_132 : lk 216 132 = some (.goto (-88), 135, 44, 0, .null) := by decide +kernel
theorem x_216_132 : Tr sc d 216 (132, [l0, l1, l2, l3, l4, l5, l6, l7, l8, l9], [], h) Q = Tr sc d 216 (44, [l0, l1, l2, l3, l4, l5, l6, l7, l8, l9], [], h) Q := t_go k_216_132 rfl
theorem k_216_135 : lk 216 135 = some (.iinc 3 1, 138, 3, 0, .int 1) := by decide +kernel
theorem x_216_135 : Tr sc d 216 (135, [l0, l1, l2, some (.int x), l4, l5, l6, l7, l8, l9], [], h) Q = Tr sc d 216 (138, [l0, l1, cl2 l2, some (.int (x + 1)), l4, l5, l6, l7, l8, l9], [], h) Q := t_inc k_216_135 rfl (Nat.le_of_ble_eq_true rfl)
theorem k_216_138 : lk 216 138 = some (.goto (-107), 141, 31, 0, .null) := by decide +kernel
theorem x_216_138 : Tr sc d 216 (138, [l0, l1, l2, l3, l4, l5, l6, l7, l8, l9], [], h) Q = Tr sc d 216 (31, [l0, l1, l2, l3, l4, l5, l6, l7, l8, l9], [], h) Q := t_go k_216_138 rfl
theorem k_216_141 : lk 216 141 = some (.iconst 1, 142, 0, 0, .int 1) := by decide +kernel
theorem x_216_141 : Tr sc d 216 (141, [l0, l1, l2, l3, l4, l5, l6, l7, l8, l9], [], h) Q = Tr sc d 216 (142, [l0, l1, l2, l3, l4, l5, l6, l7, l8, l9], [.int 1], h) Q := t_go k_216_141 rfl
theorem k_216_142 : lk 216 142 = some (.istore_n 3, 143, 3, 0, .null) := by decide +kernel
theorem x_216_142 : Tr sc d 216 (142, [l0, l1, l2, l3, l4, l5, l6, l7, l8, l9], [.int i0], h) Q = Tr sc d 216 (143, [l0, l1, cl2 l2, some (.int i0), l4, l5, l6, l7, l8, l9], [], h) Q := t_istore_n k_216_142 (Nat.le_of_ble_eq_true rfl)
theorem k_216_143 : lk 216 143 = some (.iload_n 3, 144, 3, 0, .null) := by decide +kernel
theorem x_216_143 : Tr sc d 216 (143, [l0, l1, l2, some (.int x), l4, l5, l6, l7, l8, l9], [], h) Q = Tr sc d 216 (144, [l0, l1, l2, some (.int x), l4, l5, l6, l7, l8, l9], [.int x], h) Q := t_iload_n k_216_143 rfl
theorem k_216_144 : lk 216 144 = some (.ifCond .eq 201, 147, 345, 0, .null) := by decide +kernel
theorem x_216_144 : Tr sc d 216 (144, [l0, l1, l2, l3, l4, l5, l6, l7, l8, l9], [.int i0], h) Q = if i0 = 0 then Tr sc d 216 (345, [l0, l1, l2, l3, l4, l5, l6, l7, l8, l9], [], h) Q else Tr sc d 216 (147, [l0, l1, l2, l3, l4, l5, l6, l7, l8, l9], [], h) Q := t_if k_216_144 rfl
theorem k_216_147 : lk 216 147 = some (.iconst 0, 148, 0, 0, .int 0) := by decide +kernel
theorem x_216_147 : Tr sc d 216 (147, [l0, l1, l2, l3, l4, l5, l6, l7, l8, l9], [], h) Q = Tr sc d 216 (148, [l0, l1, l2, l3, l4, l5, l6, l7, l8, l9], [.int 0], h) Q := t_go k_216_147 rfl
theorem k_216_148 : lk 216 148 = some (.istore_n 3, 149, 3, 0, .null) := by decide +kernel
theorem x_216_148 : Tr sc d 216 (148, [l0, l1, l2, l3, l4, l5, l6, l7, l8, l9], [.int i0], h) Q = Tr sc d 216 (149, [l0, l1, cl2 l2, some (.int i0), l4, l5, l6, l7, l8, l9], [], h) Q := t_istore_n k_216_148 (Nat.le_of_ble_eq_true rfl)
theorem k_216_149 : lk 216 149 = some (.iconst 0, 150, 0, 0, .int 0) := by decide +kernel
theorem x_216_149 : Tr sc d 216 (149, [l0, l1, l2, l3, l4, l5, l6, l7, l8, l9], [], h) Q = Tr sc d 216 (150, [l0, l1, l2, l3, l4, l5, l6, l7, l8, l9], [.int 0], h) Q := t_go k_216_149 rfl
theorem k_216_150 : lk 216 150 = some (.istore 4, 152, 4, 0, .null) := by decide +kernel
theorem x_216_150 : Tr sc d 216 (150, [l0, l1, l2, l3, l4, l5, l6, l7, l8, l9], [.int i0], h) Q = Tr sc d 216 (152, [l0, l1, l2, cl2 l3, some (.int i0), l5, l6, l7, l8, l9], [], h) Q := t_istore k_216_150 (Nat.le_of_ble_eq_true rfl)
theorem k_216_152 : lk 216 152 = some (.iload 4, 154, 4, 0, .null) := by decide +kernel
theorem x_216_152 : Tr sc d 216 (152, [l0, l1, l2, l3, some (.int x), l5, l6, l7, l8, l9], [], h) Q = Tr sc d 216 (154, [l0, l1, l2, l3, some (.int x), l5, l6, l7, l8, l9], [.int x], h) Q := t_iload k_216_152 rfl
theorem k_216_154 : lk 216 154 = some (.sipush 1369, 157, 0, 0, .int 1369) := by decide +kernel
theorem x_216_154 : Tr sc d 216 (154, [l0, l1, l2, l3, l4, l5, l6, l7, l8, l9], [.int i0], h) Q = Tr sc d 216 (157, [l0, l1, l2, l3, l4, l5, l6, l7, l8, l9], [.int 1369, .int i0], h) Q := t_go k_216_154 rfl
theorem k_216_157 : lk 216 157 = some (.if_icmp .ge 185, 160, 342, 0, .null) := by decide +kernel
theorem x_216_157 : Tr sc d 216 (157, [l0, l1, l2, l3, l4, l5, l6, l7, l8, l9], [.int i1, .int i0], h) Q = if i1 ≤ i0 then Tr sc d 216 (342, [l0, l1, l2, l3, l4, l5, l6, l7, l8, l9], [], h) Q else Tr sc d 216 (160, [l0, l1, l2, l3, l4, l5, l6, l7, l8, l9], [], h) Q := t_if k_216_157 rfl
theorem k_216_160 : lk 216 160 = some (.iconst 0, 161, 0, 0, .int 0) := by decide +kernel
theorem x_216_160 : Tr sc d 216 (160, [l0, l1, l2, l3, l4, l5, l6, l7, l8, l9], [], h) Q = Tr sc d 216 (161, [l0, l1, l2, l3, l4, l5, l6, l7, l8, l9], [.int 0], h) Q := t_go k_216_160 rfl
theorem k_216_161 : lk 216 161 = some (.istore 5, 163, 5, 0, .null) := by decide +kernel
theorem x_216_161 : Tr sc d 216 (161, [l0, l1, l2, l3, l4, l5, l6, l7, l8, l9], [.int i0], h) Q = Tr sc d 216 (163, [l0, l1, l2, l3, cl2 l4, some (.int i0), l6, l7, l8, l9], [], h) Q := t_istore k_216_161 (Nat.le_of_ble_eq_true rfl)
theorem k_216_163 : lk 216 163 = some (.iload 5, 165, 5, 0, .null) := by decide +kernel
theorem x_216_163 : Tr sc d 216 (163, [l0, l1, l2, l3, l4, some (.int x), l6, l7, l8, l9], [], h) Q = Tr sc d 216 (165, [l0, l1, l2, l3, l4, some (.int x), l6, l7, l8, l9], [.int x], h) Q := t_iload k_216_163 rfl
theorem k_216_165 : lk 216 165 = some (.aload_n 0, 166, 0, 0, .null) := by decide +kernel
theorem x_216_165 : Tr sc d 216 (165, [some (.ref xk), l1, l2, l3, l4, l5, l6, l7, l8, l9], [.int i0], h) Q = Tr sc d 216 (166, [some (.ref xk), l1, l2, l3, l4, l5, l6, l7, l8, l9], [.ref xk, .int i0], h) Q := t_aload_n k_216_165 rfl
theorem k_216_166 : lk 216 166 = some (.getfield 41, 169, 10, 18, .null) := by decide +kernel
theorem x_216_166 : Tr sc d 216 (166, [l0, l1, l2, l3, l4, l5, l6, l7, l8, l9], [.ref k1, .int i0], h) Q = (okp h k1 10 = true ∧ ∃ q, hR h k1 18 = some q ∧ Tr sc d 216 (169, [l0, l1, l2, l3, l4, l5, l6, l7, l8, l9], [.ref q, .int i0], h) Q) := t_getr k_216_166
theorem k_216_169 : lk 216 169 = some (.iload_n 1, 170, 1, 0, .null) := by decide +kernel
theorem x_216_169 : Tr sc d 216 (169, [l0, some (.int x), l2, l3, l4, l5, l6, l7, l8, l9], [.ref k1, .int i0], h) Q = Tr sc d 216 (170, [l0, some (.int x), l2, l3, l4, l5, l6, l7, l8, l9], [.int x, .ref k1, .int i0], h) Q := t_iload_n k_216_169 rfl
theorem k_216_170 : lk 216 170 = some (.iaload, 171, 0, 0, .null) := by decide +kernel
theorem x_216_170 : Tr sc d 216 (170, [l0, l1, l2, l3, l4, l5, l6, l7, l8, l9], [.int i2, .ref k1, .int i0], h) Q = (iOk sc h k1 i2 ∧ Tr sc d 216 (171, [l0, l1, l2, l3, l4, l5, l6, l7, l8, l9], [.int (iRd sc h k1 i2), .int i0], h) Q) := t_iald k_216_170
theorem k_216_171 : lk 216 171 = some (.aload_n 0, 172, 0, 0, .null) := by decide +kernel
theorem x_216_171 : Tr sc d 216 (171, [some (.ref xk), l1, l2, l3, l4, l5, l6, l7, l8, l9], [.int i1, .int i0], h) Q = Tr sc d 216 (172, [some (.ref xk), l1, l2, l3, l4, l5, l6, l7, l8, l9], [.ref xk, .int i1, .int i0], h) Q := t_aload_n k_216_171 rfl
theorem k_216_172 : lk 216 172 = some (.getfield 41, 175, 10, 18, .null) := by decide +kernel
theorem x_216_172 : Tr sc d 216 (172, [l0, l1, l2, l3, l4, l5, l6, l7, l8, l9], [.ref k2, .int i1, .int i0], h) Q = (okp h k2 10 = true ∧ ∃ q, hR h k2 18 = some q ∧ Tr sc d 216 (175, [l0, l1, l2, l3, l4, l5, l6, l7, l8, l9], [.ref q, .int i1, .int i0], h) Q) := t_getr k_216_172
theorem k_216_175 : lk 216 175 = some (.iload_n 1, 176, 1, 0, .null) := by decide +kernel
theorem x_216_175 : Tr sc d 216 (175, [l0, some (.int x), l2, l3, l4, l5, l6, l7, l8, l9], [.ref k2, .int i1, .int i0], h) Q = Tr sc d 216 (176, [l0, some (.int x), l2, l3, l4, l5, l6, l7, l8, l9], [.int x, .ref k2, .int i1, .int i0], h) Q := t_iload_n k_216_175 rfl
theorem k_216_176 : lk 216 176 = some (.iaload, 177, 0, 0, .null) := by decide +kernel
theorem x_216_176 : Tr sc d 216 (176, [l0, l1, l2, l3, l4, l5, l6, l7, l8, l9], [.int i3, .ref k2, .int i1, .int i0], h) Q = (iOk sc h k2 i3 ∧ Tr sc d 216 (177, [l0, l1, l2, l3, l4, l5, l6, l7, l8, l9], [.int (iRd sc h k2 i3), .int i1, .int i0], h) Q) := t_iald k_216_176
theorem k_216_177 : lk 216 177 = some (.imul, 178, 0, 0, .null) := by decide +kernel
theorem x_216_177 : Tr sc d 216 (177, [l0, l1, l2, l3, l4, l5, l6, l7, l8, l9], [.int i2, .int i1, .int i0], h) Q = Tr sc d 216 (178, [l0, l1, l2, l3, l4, l5, l6, l7, l8, l9], [.int (i1 * i2), .int i0], h) Q := t_go k_216_177 rfl
theorem k_216_178 : lk 216 178 = some (.if_icmp .ge 158, 181, 336, 0, .null) := by decide +kernel
theorem x_216_178 : Tr sc d 216 (178, [l0, l1, l2, l3, l4, l5, l6, l7, l8, l9], [.int i1, .int i0], h) Q = if i1 ≤ i0 then Tr sc d 216 (336, [l0, l1, l2, l3, l4, l5, l6, l7, l8, l9], [], h) Q else Tr sc d 216 (181, [l0, l1, l2, l3, l4, l5, l6, l7, l8, l9], [], h) Q := t_if k_216_178 rfl
theorem k_216_181 : lk 216 181 = some (.aload_n 0, 182, 0, 0, .null) := by decide +kernel
theorem x_216_181 : Tr sc d 216 (181, [some (.ref xk), l1, l2, l3, l4, l5, l6, l7, l8, l9], [], h) Q = Tr sc d 216 (182, [some (.ref xk), l1, l2, l3, l4, l5, l6, l7, l8, l9], [.ref xk], h) Q := t_aload_n k_216_181 rfl
theorem k_216_182 : lk 216 182 = some (.getfield 88, 185, 10, 46, .null) := by decide +kernel
theorem x_216_182 : Tr sc d 216 (182, [l0, l1, l2, l3, l4, l5, l6, l7, l8, l9], [.ref k0], h) Q = (okp h k0 10 = true ∧ ∃ q, hR h k0 46 = some q ∧ Tr sc d 216 (185, [l0, l1, l2, l3, l4, l5, l6, l7, l8, l9], [.ref q], h) Q) := t_getr k_216_182
theorem k_216_185 : lk 216 185 = some (.iload 4, 187, 4, 0, .null) := by decide +kernel
theorem x_216_185 : Tr sc d 216 (185, [l0, l1, l2, l3, some (.int x), l5, l6, l7, l8, l9], [.ref k0], h) Q = Tr sc d 216 (187, [l0, l1, l2, l3, some (.int x), l5, l6, l7, l8, l9], [.int x, .ref k0], h) Q := t_iload k_216_185 rfl
theorem k_216_187 : lk 216 187 = some (.baload, 188, 0, 0, .null) := by decide +kernel
theorem x_216_187 : Tr sc d 216 (187, [l0, l1, l2, l3, l4, l5, l6, l7, l8, l9], [.int i1, .ref k0], h) Q = ((okp h k0 13 && inb i1 (LN k0)) = true ∧ Tr sc d 216 (188, [l0, l1, l2, l3, l4, l5, l6, l7, l8, l9], [.int (hI h k0 i1.toNatClampNeg)], h) Q) := t_gd k_216_187 rfl
theorem k_216_188 : lk 216 188 = some (.ifCond .eq 148, 191, 336, 0, .null) := by decide +kernel
theorem x_216_188 : Tr sc d 216 (188, [l0, l1, l2, l3, l4, l5, l6, l7, l8, l9], [.int i0], h) Q = if i0 = 0 then Tr sc d 216 (336, [l0, l1, l2, l3, l4, l5, l6, l7, l8, l9], [], h) Q else Tr sc d 216 (191, [l0, l1, l2, l3, l4, l5, l6, l7, l8, l9], [], h) Q := t_if k_216_188 rfl
theorem k_216_191 : lk 216 191 = some (.bipush 6, 193, 0, 0, .int 6) := by decide +kernel
theorem x_216_191 : Tr sc d 216 (191, [l0, l1, l2, l3, l4, l5, l6, l7, l8, l9], [], h) Q = Tr sc d 216 (193, [l0, l1, l2, l3, l4, l5, l6, l7, l8, l9], [.int 6], h) Q := t_go k_216_191 rfl
theorem k_216_193 : lk 216 193 = some (.iload_n 1, 194, 1, 0, .null) := by decide +kernel
theorem x_216_193 : Tr sc d 216 (193, [l0, some (.int x), l2, l3, l4, l5, l6, l7, l8, l9], [.int i0], h) Q = Tr sc d 216 (194, [l0, some (.int x), l2, l3, l4, l5, l6, l7, l8, l9], [.int x, .int i0], h) Q := t_iload_n k_216_193 rfl
theorem k_216_194 : lk 216 194 = some (.imul, 195, 0, 0, .null) := by decide +kernel
theorem x_216_194 : Tr sc d 216 (194, [l0, l1, l2, l3, l4, l5, l6, l7, l8, l9], [.int i1, .int i0], h) Q = Tr sc d 216 (195, [l0, l1, l2, l3, l4, l5, l6, l7, l8, l9], [.int (i0 * i1)], h) Q := t_go k_216_194 rfl
theorem k_216_195 : lk 216 195 = some (.iload 5, 197, 5, 0, .null) := by decide +kernel
theorem x_216_195 : Tr sc d 216 (195, [l0, l1, l2, l3, l4, some (.int x), l6, l7, l8, l9], [.int i0], h) Q = Tr sc d 216 (197, [l0, l1, l2, l3, l4, some (.int x), l6, l7, l8, l9], [.int x, .int i0], h) Q := t_iload k_216_195 rfl
theorem k_216_197 : lk 216 197 = some (.aload_n 0, 198, 0, 0, .null) := by decide +kernel
theorem x_216_197 : Tr sc d 216 (197, [some (.ref xk), l1, l2, l3, l4, l5, l6, l7, l8, l9], [.int i1, .int i0], h) Q = Tr sc d 216 (198, [some (.ref xk), l1, l2, l3, l4, l5, l6, l7, l8, l9], [.ref xk, .int i1, .int i0], h) Q := t_aload_n k_216_197 rfl
theorem k_216_198 : lk 216 198 = some (.getfield 41, 201, 10, 18, .null) := by decide +kernel
theorem x_216_198 : Tr sc d 216 (198, [l0, l1, l2, l3, l4, l5, l6, l7, l8, l9], [.ref k2, .int i1, .int i0], h) Q = (okp h k2 10 = true ∧ ∃ q, hR h k2 18 = some q ∧ Tr sc d 216 (201, [l0, l1, l2, l3, l4, l5, l6, l7, l8, l9], [.ref q, .int i1, .int i0], h) Q) := t_getr k_216_198
theorem k_216_201 : lk 216 201 = some (.iload_n 1, 202, 1, 0, .null) := by decide +kernel
theorem x_216_201 : Tr sc d 216 (201, [l0, some (.int x), l2, l3, l4, l5, l6, l7, l8, l9], [.ref k2, .int i1, .int i0], h) Q = Tr sc d 216 (202, [l0, some (.int x), l2, l3, l4, l5, l6, l7, l8, l9], [.int x, .ref k2, .int i1, .int i0], h) Q := t_iload_n k_216_201 rfl
theorem k_216_202 : lk 216 202 = some (.iaload, 203, 0, 0, .null) := by decide +kernel
theorem x_216_202 : Tr sc d 216 (202, [l0, l1, l2, l3, l4, l5, l6, l7, l8, l9], [.int i3, .ref k2, .int i1, .int i0], h) Q = (iOk sc h k2 i3 ∧ Tr sc d 216 (203, [l0, l1, l2, l3, l4, l5, l6, l7, l8, l9], [.int (iRd sc h k2 i3), .int i1, .int i0], h) Q) := t_iald k_216_202
theorem k_216_203 : lk 216 203 = some (.idiv, 204, 0, 0, .null) := by decide +kernel
theorem x_216_203 : Tr sc d 216 (203, [l0, l1, l2, l3, l4, l5, l6, l7, l8, l9], [.int i2, .int i1, .int i0], h) Q = (¬ i2 = 0 ∧ Tr sc d 216 (204, [l0, l1, l2, l3, l4, l5, l6, l7, l8, l9], [.int (i1 / i2), .int i0], h) Q) := t_ng k_216_203 rfl
theorem k_216_204 : lk 216 204 = some (.iadd, 205, 0, 0, .null) := by decide +kernel
theorem x_216_204 : Tr sc d 216 (204, [l0, l1, l2, l3, l4, l5, l6, l7, l8, l9], [.int i1, .int i0], h) Q = Tr sc d 216 (205, [l0, l1, l2, l3, l4, l5, l6, l7, l8, l9], [.int (i0 + i1)], h) Q := t_go k_216_204 rfl
theorem k_216_205 : lk 216 205 = some (.istore 6, 207, 6, 0, .null) := by decide +kernel
theorem x_216_205 : Tr sc d 216 (205, [l0, l1, l2, l3, l4, l5, l6, l7, l8, l9], [.int i0], h) Q = Tr sc d 216 (207, [l0, l1, l2, l3, l4, cl2 l5, some (.int i0), l7, l8, l9], [], h) Q := t_istore k_216_205 (Nat.le_of_ble_eq_true rfl)
theorem k_216_207 : lk 216 207 = some (.bipush 6, 209, 0, 0, .int 6) := by decide +kernel
theorem x_216_207 : Tr sc d 216 (207, [l0, l1, l2, l3, l4, l5, l6, l7, l8, l9], [], h) Q = Tr sc d 216 (209, [l0, l1, l2, l3, l4, l5, l6, l7, l8, l9], [.int 6], h) Q := t_go k_216_207 rfl
theorem k_216_209 : lk 216 209 = some (.iload_n 1, 210, 1, 0, .null) := by decide +kernel
theorem x_216_209 : Tr sc d 216 (209, [l0, some (.int x), l2, l3, l4, l5, l6, l7, l8, l9], [.int i0], h) Q = Tr sc d 216 (210, [l0, some (.int x), l2, l3, l4, l5, l6, l7, l8, l9], [.int x, .int i0], h) Q := t_iload_n k_216_209 rfl
theorem k_216_210 : lk 216 210 = some (.imul, 211, 0, 0, .null) := by decide +kernel
theorem x_216_210 : Tr sc d 216 (210, [l0, l1, l2, l3, l4, l5, l6, l7, l8, l9], [.int i1, .int i0], h) Q = Tr sc d 216 (211, [l0, l1, l2, l3, l4, l5, l6, l7, l8, l9], [.int (i0 * i1)], h) Q := t_go k_216_210 rfl
theorem k_216_211 : lk 216 211 = some (.iload 5, 213, 5, 0, .null) := by decide +kernel
theorem x_216_211 : Tr sc d 216 (211, [l0, l1, l2, l3, l4, some (.int x), l6, l7, l8, l9], [.int i0], h) Q = Tr sc d 216 (213, [l0, l1, l2, l3, l4, some (.int x), l6, l7, l8, l9], [.int x, .int i0], h) Q := t_iload k_216_211 rfl
theorem k_216_213 : lk 216 213 = some (.aload_n 0, 214, 0, 0, .null) := by decide +kernel
theorem x_216_213 : Tr sc d 216 (213, [some (.ref xk), l1, l2, l3, l4, l5, l6, l7, l8, l9], [.int i1, .int i0], h) Q = Tr sc d 216 (214, [some (.ref xk), l1, l2, l3, l4, l5, l6, l7, l8, l9], [.ref xk, .int i1, .int i0], h) Q := t_aload_n k_216_213 rfl
theorem k_216_214 : lk 216 214 = some (.getfield 41, 217, 10, 18, .null) := by decide +kernel
theorem x_216_214 : Tr sc d 216 (214, [l0, l1, l2, l3, l4, l5, l6, l7, l8, l9], [.ref k2, .int i1, .int i0], h) Q = (okp h k2 10 = true ∧ ∃ q, hR h k2 18 = some q ∧ Tr sc d 216 (217, [l0, l1, l2, l3, l4, l5, l6, l7, l8, l9], [.ref q, .int i1, .int i0], h) Q) := t_getr k_216_214
theorem k_216_217 : lk 216 217 = some (.iload_n 1, 218, 1, 0, .null) := by decide +kernel
theorem x_216_217 : Tr sc d 216 (217, [l0, some (.int x), l2, l3, l4, l5, l6, l7, l8, l9], [.ref k2, .int i1, .int i0], h) Q = Tr sc d 216 (218, [l0, some (.int x), l2, l3, l4, l5, l6, l7, l8, l9], [.int x, .ref k2, .int i1, .int i0], h) Q := t_iload_n k_216_217 rfl
theorem k_216_218 : lk 216 218 = some (.iaload, 219, 0, 0, .null) := by decide +kernel
theorem x_216_218 : Tr sc d 216 (218, [l0, l1, l2, l3, l4, l5, l6, l7, l8, l9], [.int i3, .ref k2, .int i1, .int i0], h) Q = (iOk sc h k2 i3 ∧ Tr sc d 216 (219, [l0, l1, l2, l3, l4, l5, l6, l7, l8, l9], [.int (iRd sc h k2 i3), .int i1, .int i0], h) Q) := t_iald k_216_218
theorem k_216_219 : lk 216 219 = some (.irem, 220, 0, 0, .null) := by decide +kernel
theorem x_216_219 : Tr sc d 216 (219, [l0, l1, l2, l3, l4, l5, l6, l7, l8, l9], [.int i2, .int i1, .int i0], h) Q = (¬ i2 = 0 ∧ Tr sc d 216 (220, [l0, l1, l2, l3, l4, l5, l6, l7, l8, l9], [.int (i1 - i1 / i2 * i2), .int i0], h) Q) := t_ng k_216_219 rfl
theorem k_216_220 : lk 216 220 = some (.iadd, 221, 0, 0, .null) := by decide +kernel
theorem x_216_220 : Tr sc d 216 (220, [l0, l1, l2, l3, l4, l5, l6, l7, l8, l9], [.int i1, .int i0], h) Q = Tr sc d 216 (221, [l0, l1, l2, l3, l4, l5, l6, l7, l8, l9], [.int (i0 + i1)], h) Q := t_go k_216_220 rfl
theorem k_216_221 : lk 216 221 = some (.istore 7, 223, 7, 0, .null) := by decide +kernel
theorem x_216_221 : Tr sc d 216 (221, [l0, l1, l2, l3, l4, l5, l6, l7, l8, l9], [.int i0], h) Q = Tr sc d 216 (223, [l0, l1, l2, l3, l4, l5, cl2 l6, some (.int i0), l8, l9], [], h) Q := t_istore k_216_221 (Nat.le_of_ble_eq_true rfl)
theorem k_216_223 : lk 216 223 = some (.aload_n 0, 224, 0, 0, .null) := by decide +kernel
theorem x_216_223 : Tr sc d 216 (223, [some (.ref xk), l1, l2, l3, l4, l5, l6, l7, l8, l9], [], h) Q = Tr sc d 216 (224, [some (.ref xk), l1, l2, l3, l4, l5, l6, l7, l8, l9], [.ref xk], h) Q := t_aload_n k_216_223 rfl
theorem k_216_224 : lk 216 224 = some (.getfield 38, 227, 10, 17, .null) := by decide +kernel
theorem x_216_224 : Tr sc d 216 (224, [l0, l1, l2, l3, l4, l5, l6, l7, l8, l9], [.ref k0], h) Q = (okp h k0 10 = true ∧ ∃ q, hR h k0 17 = some q ∧ Tr sc d 216 (227, [l0, l1, l2, l3, l4, l5, l6, l7, l8, l9], [.ref q], h) Q) := t_getr k_216_224
theorem k_216_227 : lk 216 227 = some (.iload_n 1, 228, 1, 0, .null) := by decide +kernel
theorem x_216_227 : Tr sc d 216 (227, [l0, some (.int x), l2, l3, l4, l5, l6, l7, l8, l9], [.ref k0], h) Q = Tr sc d 216 (228, [l0, some (.int x), l2, l3, l4, l5, l6, l7, l8, l9], [.int x, .ref k0], h) Q := t_iload_n k_216_227 rfl
theorem k_216_228 : lk 216 228 = some (.iaload, 229, 0, 0, .null) := by decide +kernel
theorem x_216_228 : Tr sc d 216 (228, [l0, l1, l2, l3, l4, l5, l6, l7, l8, l9], [.int i1, .ref k0], h) Q = (iOk sc h k0 i1 ∧ Tr sc d 216 (229, [l0, l1, l2, l3, l4, l5, l6, l7, l8, l9], [.int (iRd sc h k0 i1)], h) Q) := t_iald k_216_228
theorem k_216_229 : lk 216 229 = some (.iload 4, 231, 4, 0, .null) := by decide +kernel
theorem x_216_229 : Tr sc d 216 (229, [l0, l1, l2, l3, some (.int x), l5, l6, l7, l8, l9], [.int i0], h) Q = Tr sc d 216 (231, [l0, l1, l2, l3, some (.int x), l5, l6, l7, l8, l9], [.int x, .int i0], h) Q := t_iload k_216_229 rfl
theorem k_216_231 : lk 216 231 = some (.bipush 37, 233, 0, 0, .int 37) := by decide +kernel
theorem x_216_231 : Tr sc d 216 (231, [l0, l1, l2, l3, l4, l5, l6, l7, l8, l9], [.int i1, .int i0], h) Q = Tr sc d 216 (233, [l0, l1, l2, l3, l4, l5, l6, l7, l8, l9], [.int 37, .int i1, .int i0], h) Q := t_go k_216_231 rfl
theorem k_216_233 : lk 216 233 = some (.irem, 234, 0, 0, .null) := by decide +kernel
theorem x_216_233 : Tr sc d 216 (233, [l0, l1, l2, l3, l4, l5, l6, l7, l8, l9], [.int i2, .int i1, .int i0], h) Q = (¬ i2 = 0 ∧ Tr sc d 216 (234, [l0, l1, l2, l3, l4, l5, l6, l7, l8, l9], [.int (i1 - i1 / i2 * i2), .int i0], h) Q) := t_ng k_216_233 rfl
theorem k_216_234 : lk 216 234 = some (.bipush 18, 236, 0, 0, .int 18) := by decide +kernel
theorem x_216_234 : Tr sc d 216 (234, [l0, l1, l2, l3, l4, l5, l6, l7, l8, l9], [.int i1, .int i0], h) Q = Tr sc d 216 (236, [l0, l1, l2, l3, l4, l5, l6, l7, l8, l9], [.int 18, .int i1, .int i0], h) Q := t_go k_216_234 rfl
theorem k_216_236 : lk 216 236 = some (.isub, 237, 0, 0, .null) := by decide +kernel
theorem x_216_236 : Tr sc d 216 (236, [l0, l1, l2, l3, l4, l5, l6, l7, l8, l9], [.int i2, .int i1, .int i0], h) Q = Tr sc d 216 (237, [l0, l1, l2, l3, l4, l5, l6, l7, l8, l9], [.int (i1 - i2), .int i0], h) Q := t_go k_216_236 rfl
theorem k_216_237 : lk 216 237 = some (.imul, 238, 0, 0, .null) := by decide +kernel
theorem x_216_237 : Tr sc d 216 (237, [l0, l1, l2, l3, l4, l5, l6, l7, l8, l9], [.int i1, .int i0], h) Q = Tr sc d 216 (238, [l0, l1, l2, l3, l4, l5, l6, l7, l8, l9], [.int (i0 * i1)], h) Q := t_go k_216_237 rfl
theorem k_216_238 : lk 216 238 = some (.aload_n 0, 239, 0, 0, .null) := by decide +kernel
theorem x_216_238 : Tr sc d 216 (238, [some (.ref xk), l1, l2, l3, l4, l5, l6, l7, l8, l9], [.int i0], h) Q = Tr sc d 216 (239, [some (.ref xk), l1, l2, l3, l4, l5, l6, l7, l8, l9], [.ref xk, .int i0], h) Q := t_aload_n k_216_238 rfl
theorem k_216_239 : lk 216 239 = some (.getfield 47, 242, 10, 20, .null) := by decide +kernel
theorem x_216_239 : Tr sc d 216 (239, [l0, l1, l2, l3, l4, l5, l6, l7, l8, l9], [.ref k1, .int i0], h) Q = (okp h k1 10 = true ∧ ∃ q, hR h k1 20 = some q ∧ Tr sc d 216 (242, [l0, l1, l2, l3, l4, l5, l6, l7, l8, l9], [.ref q, .int i0], h) Q) := t_getr k_216_239
theorem k_216_242 : lk 216 242 = some (.iload 7, 244, 7, 0, .null) := by decide +kernel
theorem x_216_242 : Tr sc d 216 (242, [l0, l1, l2, l3, l4, l5, l6, some (.int x), l8, l9], [.ref k1, .int i0], h) Q = Tr sc d 216 (244, [l0, l1, l2, l3, l4, l5, l6, some (.int x), l8, l9], [.int x, .ref k1, .int i0], h) Q := t_iload k_216_242 rfl
theorem k_216_244 : lk 216 244 = some (.iaload, 245, 0, 0, .null) := by decide +kernel
theorem x_216_244 : Tr sc d 216 (244, [l0, l1, l2, l3, l4, l5, l6, l7, l8, l9], [.int i2, .ref k1, .int i0], h) Q = (iOk sc h k1 i2 ∧ Tr sc d 216 (245, [l0, l1, l2, l3, l4, l5, l6, l7, l8, l9], [.int (iRd sc h k1 i2), .int i0], h) Q) := t_iald k_216_244
theorem k_216_245 : lk 216 245 = some (.iadd, 246, 0, 0, .null) := by decide +kernel
theorem x_216_245 : Tr sc d 216 (245, [l0, l1, l2, l3, l4, l5, l6, l7, l8, l9], [.int i1, .int i0], h) Q = Tr sc d 216 (246, [l0, l1, l2, l3, l4, l5, l6, l7, l8, l9], [.int (i0 + i1)], h) Q := t_go k_216_245 rfl
theorem k_216_246 : lk 216 246 = some (.aload_n 0, 247, 0, 0, .null) := by decide +kernel
theorem x_216_246 : Tr sc d 216 (246, [some (.ref xk), l1, l2, l3, l4, l5, l6, l7, l8, l9], [.int i0], h) Q = Tr sc d 216 (247, [some (.ref xk), l1, l2, l3, l4, l5, l6, l7, l8, l9], [.ref xk, .int i0], h) Q := t_aload_n k_216_246 rfl
theorem k_216_247 : lk 216 247 = some (.getfield 47, 250, 10, 20, .null) := by decide +kernel
theorem x_216_247 : Tr sc d 216 (247, [l0, l1, l2, l3, l4, l5, l6, l7, l8, l9], [.ref k1, .int i0], h) Q = (okp h k1 10 = true ∧ ∃ q, hR h k1 20 = some q ∧ Tr sc d 216 (250, [l0, l1, l2, l3, l4, l5, l6, l7, l8, l9], [.ref q, .int i0], h) Q) := t_getr k_216_247
theorem k_216_250 : lk 216 250 = some (.iload 6, 252, 6, 0, .null) := by decide +kernel
theorem x_216_250 : Tr sc d 216 (250, [l0, l1, l2, l3, l4, l5, some (.int x), l7, l8, l9], [.ref k1, .int i0], h) Q = Tr sc d 216 (252, [l0, l1, l2, l3, l4, l5, some (.int x), l7, l8, l9], [.int x, .ref k1, .int i0], h) Q := t_iload k_216_250 rfl
theorem k_216_252 : lk 216 252 = some (.iaload, 253, 0, 0, .null) := by decide +kernel
theorem x_216_252 : Tr sc d 216 (252, [l0, l1, l2, l3, l4, l5, l6, l7, l8, l9], [.int i2, .ref k1, .int i0], h) Q = (iOk sc h k1 i2 ∧ Tr sc d 216 (253, [l0, l1, l2, l3, l4, l5, l6, l7, l8, l9], [.int (iRd sc h k1 i2), .int i0], h) Q) := t_iald k_216_252
theorem k_216_253 : lk 216 253 = some (.isub, 254, 0, 0, .null) := by decide +kernel
theorem x_216_253 : Tr sc d 216 (253, [l0, l1, l2, l3, l4, l5, l6, l7, l8, l9], [.int i1, .int i0], h) Q = Tr sc d 216 (254, [l0, l1, l2, l3, l4, l5, l6, l7, l8, l9], [.int (i0 - i1)], h) Q := t_go k_216_253 rfl
theorem k_216_254 : lk 216 254 = some (.istore 8, 256, 8, 0, .null) := by decide +kernel
theorem x_216_254 : Tr sc d 216 (254, [l0, l1, l2, l3, l4, l5, l6, l7, l8, l9], [.int i0], h) Q = Tr sc d 216 (256, [l0, l1, l2, l3, l4, l5, l6, cl2 l7, some (.int i0), l9], [], h) Q := t_istore k_216_254 (Nat.le_of_ble_eq_true rfl)
theorem k_216_256 : lk 216 256 = some (.aload_n 0, 257, 0, 0, .null) := by decide +kernel
theorem x_216_256 : Tr sc d 216 (256, [some (.ref xk), l1, l2, l3, l4, l5, l6, l7, l8, l9], [], h) Q = Tr sc d 216 (257, [some (.ref xk), l1, l2, l3, l4, l5, l6, l7, l8, l9], [.ref xk], h) Q := t_aload_n k_216_256 rfl
theorem k_216_257 : lk 216 257 = some (.getfield 38, 260, 10, 17, .null) := by decide +kernel
theorem x_216_257 : Tr sc d 216 (257, [l0, l1, l2, l3, l4, l5, l6, l7, l8, l9], [.ref k0], h) Q = (okp h k0 10 = true ∧ ∃ q, hR h k0 17 = some q ∧ Tr sc d 216 (260, [l0, l1, l2, l3, l4, l5, l6, l7, l8, l9], [.ref q], h) Q) := t_getr k_216_257
theorem k_216_260 : lk 216 260 = some (.iload_n 1, 261, 1, 0, .null) := by decide +kernel
theorem x_216_260 : Tr sc d 216 (260, [l0, some (.int x), l2, l3, l4, l5, l6, l7, l8, l9], [.ref k0], h) Q = Tr sc d 216 (261, [l0, some (.int x), l2, l3, l4, l5, l6, l7, l8, l9], [.int x, .ref k0], h) Q := t_iload_n k_216_260 rfl
theorem k_216_261 : lk 216 261 = some (.iaload, 262, 0, 0, .null) := by decide +kernel
theorem x_216_261 : Tr sc d 216 (261, [l0, l1, l2, l3, l4, l5, l6, l7, l8, l9], [.int i1, .ref k0], h) Q = (iOk sc h k0 i1 ∧ Tr sc d 216 (262, [l0, l1, l2, l3, l4, l5, l6, l7, l8, l9], [.int (iRd sc h k0 i1)], h) Q) := t_iald k_216_261
theorem k_216_262 : lk 216 262 = some (.iload 4, 264, 4, 0, .null) := by decide +kernel
theorem x_216_262 : Tr sc d 216 (262, [l0, l1, l2, l3, some (.int x), l5, l6, l7, l8, l9], [.int i0], h) Q = Tr sc d 216 (264, [l0, l1, l2, l3, some (.int x), l5, l6, l7, l8, l9], [.int x, .int i0], h) Q := t_iload k_216_262 rfl
theorem k_216_264 : lk 216 264 = some (.bipush 37, 266, 0, 0, .int 37) := by decide +kernel
theorem x_216_264 : Tr sc d 216 (264, [l0, l1, l2, l3, l4, l5, l6, l7, l8, l9], [.int i1, .int i0], h) Q = Tr sc d 216 (266, [l0, l1, l2, l3, l4, l5, l6, l7, l8, l9], [.int 37, .int i1, .int i0], h) Q := t_go k_216_264 rfl
theorem k_216_266 : lk 216 266 = some (.idiv, 267, 0, 0, .null) := by decide +kernel
theorem x_216_266 : Tr sc d 216 (266, [l0, l1, l2, l3, l4, l5, l6, l7, l8, l9], [.int i2, .int i1, .int i0], h) Q = (¬ i2 = 0 ∧ Tr sc d 216 (267, [l0, l1, l2, l3, l4, l5, l6, l7, l8, l9], [.int (i1 / i2), .int i0], h) Q) := t_ng k_216_266 rfl
theorem k_216_267 : lk 216 267 = some (.bipush 18, 269, 0, 0, .int 18) := by decide +kernel
theorem x_216_267 : Tr sc d 216 (267, [l0, l1, l2, l3, l4, l5, l6, l7, l8, l9], [.int i1, .int i0], h) Q = Tr sc d 216 (269, [l0, l1, l2, l3, l4, l5, l6, l7, l8, l9], [.int 18, .int i1, .int i0], h) Q := t_go k_216_267 rfl
theorem k_216_269 : lk 216 269 = some (.isub, 270, 0, 0, .null) := by decide +kernel
theorem x_216_269 : Tr sc d 216 (269, [l0, l1, l2, l3, l4, l5, l6, l7, l8, l9], [.int i2, .int i1, .int i0], h) Q = Tr sc d 216 (270, [l0, l1, l2, l3, l4, l5, l6, l7, l8, l9], [.int (i1 - i2), .int i0], h) Q := t_go k_216_269 rfl
theorem k_216_270 : lk 216 270 = some (.imul, 271, 0, 0, .null) := by decide +kernel
theorem x_216_270 : Tr sc d 216 (270, [l0, l1, l2, l3, l4, l5, l6, l7, l8, l9], [.int i1, .int i0], h) Q = Tr sc d 216 (271, [l0, l1, l2, l3, l4, l5, l6, l7, l8, l9], [.int (i0 * i1)], h) Q := t_go k_216_270 rfl
theorem k_216_271 : lk 216 271 = some (.aload_n 0, 272, 0, 0, .null) := by decide +kernel
theorem x_216_271 : Tr sc d 216 (271, [some (.ref xk), l1, l2, l3, l4, l5, l6, l7, l8, l9], [.int i0], h) Q = Tr sc d 216 (272, [some (.ref xk), l1, l2, l3, l4, l5, l6, l7, l8, l9], [.ref xk, .int i0], h) Q := t_aload_n k_216_271 rfl
theorem k_216_272 : lk 216 272 = some (.getfield 50, 275, 10, 21, .null) := by decide +kernel
theorem x_216_272 : Tr sc d 216 (272, [l0, l1, l2, l3, l4, l5, l6, l7, l8, l9], [.ref k1, .int i0], h) Q = (okp h k1 10 = true ∧ ∃ q, hR h k1 21 = some q ∧ Tr sc d 216 (275, [l0, l1, l2, l3, l4, l5, l6, l7, l8, l9], [.ref q, .int i0], h) Q) := t_getr k_216_272
theorem k_216_275 : lk 216 275 = some (.iload 7, 277, 7, 0, .null) := by decide +kernel
theorem x_216_275 : Tr sc d 216 (275, [l0, l1, l2, l3, l4, l5, l6, some (.int x), l8, l9], [.ref k1, .int i0], h) Q = Tr sc d 216 (277, [l0, l1, l2, l3, l4, l5, l6, some (.int x), l8, l9], [.int x, .ref k1, .int i0], h) Q := t_iload k_216_275 rfl
theorem k_216_277 : lk 216 277 = some (.iaload, 278, 0, 0, .null) := by decide +kernel
theorem x_216_277 : Tr sc d 216 (277, [l0, l1, l2, l3, l4, l5, l6, l7, l8, l9], [.int i2, .ref k1, .int i0], h) Q = (iOk sc h k1 i2 ∧ Tr sc d 216 (278, [l0, l1, l2, l3, l4, l5, l6, l7, l8, l9], [.int (iRd sc h k1 i2), .int i0], h) Q) := t_iald k_216_277
theorem k_216_278 : lk 216 278 = some (.iadd, 279, 0, 0, .null) := by decide +kernel
theorem x_216_278 : Tr sc d 216 (278, [l0, l1, l2, l3, l4, l5, l6, l7, l8, l9], [.int i1, .int i0], h) Q = Tr sc d 216 (279, [l0, l1, l2, l3, l4, l5, l6, l7, l8, l9], [.int (i0 + i1)], h) Q := t_go k_216_278 rfl
theorem k_216_279 : lk 216 279 = some (.aload_n 0, 280, 0, 0, .null) := by decide +kernel
theorem x_216_279 : Tr sc d 216 (279, [some (.ref xk), l1, l2, l3, l4, l5, l6, l7, l8, l9], [.int i0], h) Q = Tr sc d 216 (280, [some (.ref xk), l1, l2, l3, l4, l5, l6, l7, l8, l9], [.ref xk, .int i0], h) Q := t_aload_n k_216_279 rfl
theorem k_216_280 : lk 216 280 = some (.getfield 50, 283, 10, 21, .null) := by decide +kernel
theorem x_216_280 : Tr sc d 216 (280, [l0, l1, l2, l3, l4, l5, l6, l7, l8, l9], [.ref k1, .int i0], h) Q = (okp h k1 10 = true ∧ ∃ q, hR h k1 21 = some q ∧ Tr sc d 216 (283, [l0, l1, l2, l3, l4, l5, l6, l7, l8, l9], [.ref q, .int i0], h) Q) := t_getr k_216_280
theorem k_216_283 : lk 216 283 = some (.iload 6, 285, 6, 0, .null) := by decide +kernel
theorem x_216_283 : Tr sc d 216 (283, [l0, l1, l2, l3, l4, l5, some (.int x), l7, l8, l9], [.ref k1, .int i0], h) Q = Tr sc d 216 (285, [l0, l1, l2, l3, l4, l5, some (.int x), l7, l8, l9], [.int x, .ref k1, .int i0], h) Q := t_iload k_216_283 rfl
theorem k_216_285 : lk 216 285 = some (.iaload, 286, 0, 0, .null) := by decide +kernel
theorem x_216_285 : Tr sc d 216 (285, [l0, l1, l2, l3, l4, l5, l6, l7, l8, l9], [.int i2, .ref k1, .int i0], h) Q = (iOk sc h k1 i2 ∧ Tr sc d 216 (286, [l0, l1, l2, l3, l4, l5, l6, l7, l8, l9], [.int (iRd sc h k1 i2), .int i0], h) Q) := t_iald k_216_285
theorem k_216_286 : lk 216 286 = some (.isub, 287, 0, 0, .null) := by decide +kernel
theorem x_216_286 : Tr sc d 216 (286, [l0, l1, l2, l3, l4, l5, l6, l7, l8, l9], [.int i1, .int i0], h) Q = Tr sc d 216 (287, [l0, l1, l2, l3, l4, l5, l6, l7, l8, l9], [.int (i0 - i1)], h) Q := t_go k_216_286 rfl
theorem k_216_287 : lk 216 287 = some (.istore 9, 289, 9, 0, .null) := by decide +kernel
theorem x_216_287 : Tr sc d 216 (287, [l0, l1, l2, l3, l4, l5, l6, l7, l8, l9], [.int i0], h) Q = Tr sc d 216 (289, [l0, l1, l2, l3, l4, l5, l6, l7, cl2 l8, some (.int i0)], [], h) Q := t_istore k_216_287 (Nat.le_of_ble_eq_true rfl)
theorem k_216_289 : lk 216 289 = some (.aload_n 0, 290, 0, 0, .null) := by decide +kernel
theorem x_216_289 : Tr sc d 216 (289, [some (.ref xk), l1, l2, l3, l4, l5, l6, l7, l8, l9], [], h) Q = Tr sc d 216 (290, [some (.ref xk), l1, l2, l3, l4, l5, l6, l7, l8, l9], [.ref xk], h) Q := t_aload_n k_216_289 rfl
theorem k_216_290 : lk 216 290 = some (.iload 8, 292, 8, 0, .null) := by decide +kernel
theorem x_216_290 : Tr sc d 216 (290, [l0, l1, l2, l3, l4, l5, l6, l7, some (.int x), l9], [.ref k0], h) Q = Tr sc d 216 (292, [l0, l1, l2, l3, l4, l5, l6, l7, some (.int x), l9], [.int x, .ref k0], h) Q := t_iload k_216_290 rfl
theorem k_216_292 : lk 216 292 = some (.iload 9, 294, 9, 0, .null) := by decide +kernel
theorem x_216_292 : Tr sc d 216 (292, [l0, l1, l2, l3, l4, l5, l6, l7, l8, some (.int x)], [.int i1, .ref k0], h) Q = Tr sc d 216 (294, [l0, l1, l2, l3, l4, l5, l6, l7, l8, some (.int x)], [.int x, .int i1, .ref k0], h) Q := t_iload k_216_292 rfl
theorem k_216_294 : lk 216 294 = some (.invokevirtual 313, 297, 212, 2, .null) := by decide +kernel
theorem x_216_294 : Tr sc (d + 1) 216 (294, [l0, l1, l2, l3, l4, l5, l6, l7, l8, l9], [.int i2, .int i1, .ref k0], h) Q = (okp h k0 10 = true ∧ Tr sc d 212 (ent0 212 [.ref k0, .int i1, .int i2] h) (fun z => Tr sc (d + 1) 216 (297, [l0, l1, l2, l3, l4, l5, l6, l7, l8, l9], z.1.toList ++ [], z.2) Q)) := t_cv (as := [.int i1, .int i2]) (r := []) k_216_294 rfl rfl (Nat.le_of_ble_eq_true rfl) (Nat.le_of_ble_eq_true rfl) (Nat.le_of_ble_eq_true rfl)
theorem k_216_297 : lk 216 297 = some (.ifCond .eq 33, 300, 330, 0, .null) := by decide +kernel
theorem x_216_297 : Tr sc d 216 (297, [l0, l1, l2, l3, l4, l5, l6, l7, l8, l9], [.int i0], h) Q = if i0 = 0 then Tr sc d 216 (330, [l0, l1, l2, l3, l4, l5, l6, l7, l8, l9], [], h) Q else Tr sc d 216 (300, [l0, l1, l2, l3, l4, l5, l6, l7, l8, l9], [], h) Q := t_if k_216_297 rfl
theorem k_216_300 : lk 216 300 = some (.aload_n 0, 301, 0, 0, .null) := by decide +kernel
theorem x_216_300 : Tr sc d 216 (300, [some (.ref xk), l1, l2, l3, l4, l5, l6, l7, l8, l9], [], h) Q = Tr sc d 216 (301, [some (.ref xk), l1, l2, l3, l4, l5, l6, l7, l8, l9], [.ref xk], h) Q := t_aload_n k_216_300 rfl
theorem k_216_301 : lk 216 301 = some (.getfield 88, 304, 10, 46, .null) := by decide +kernel
theorem x_216_301 : Tr sc d 216 (301, [l0, l1, l2, l3, l4, l5, l6, l7, l8, l9], [.ref k0], h) Q = (okp h k0 10 = true ∧ ∃ q, hR h k0 46 = some q ∧ Tr sc d 216 (304, [l0, l1, l2, l3, l4, l5, l6, l7, l8, l9], [.ref q], h) Q) := t_getr k_216_301
theorem k_216_304 : lk 216 304 = some (.iload 8, 306, 8, 0, .null) := by decide +kernel
theorem x_216_304 : Tr sc d 216 (304, [l0, l1, l2, l3, l4, l5, l6, l7, some (.int x), l9], [.ref k0], h) Q = Tr sc d 216 (306, [l0, l1, l2, l3, l4, l5, l6, l7, some (.int x), l9], [.int x, .ref k0], h) Q := t_iload k_216_304 rfl
theorem k_216_306 : lk 216 306 = some (.iload 9, 308, 9, 0, .null) := by decide +kernel
theorem x_216_306 : Tr sc d 216 (306, [l0, l1, l2, l3, l4, l5, l6, l7, l8, some (.int x)], [.int i1, .ref k0], h) Q = Tr sc d 216 (308, [l0, l1, l2, l3, l4, l5, l6, l7, l8, some (.int x)], [.int x, .int i1, .ref k0], h) Q := t_iload k_216_306 rfl
theorem k_216_308 : lk 216 308 = some (.invokestatic 310, 311, 211, 2, .null) := by decide +kernel
theorem x_216_308 : Tr sc (d + 1) 216 (308, [l0, l1, l2, l3, l4, l5, l6, l7, l8, l9], [.int i2, .int i1, .ref k0], h) Q = Tr sc d 211 (ent0 211 [.int i1, .int i2] h) (fun z => Tr sc (d + 1) 216 (311, [l0, l1, l2, l3, l4, l5, l6, l7, l8, l9], z.1.toList ++ [.ref k0], z.2) Q) := t_cs (as := [.int i1, .int i2]) (r := [.ref k0]) k_216_308 (by decide) rfl rfl (Nat.le_of_ble_eq_true rfl) (Nat.le_of_ble_eq_true rfl)
theorem k_216_311 : lk 216 311 = some (.baload, 312, 0, 0, .null) := by decide +kernel
theorem x_216_311 : Tr sc d 216 (311, [l0, l1, l2, l3, l4, l5, l6, l7, l8, l9], [.int i1, .ref k0], h) Q = ((okp h k0 13 && inb i1 (LN k0)) = true ∧ Tr sc d 216 (312, [l0, l1, l2, l3, l4, l5, l6, l7, l8, l9], [.int (hI h k0 i1.toNatClampNeg)], h) Q) := t_gd k_216_311 rfl
theorem k_216_312 : lk 216 312 = some (.ifCond .ne 18, 315, 330, 0, .null) := by decide +kernel
theorem x_216_312 : Tr sc d 216 (312, [l0, l1, l2, l3, l4, l5, l6, l7, l8, l9], [.int i0], h) Q = if i0 = 0 then Tr sc d 216 (315, [l0, l1, l2, l3, l4, l5, l6, l7, l8, l9], [], h) Q else Tr sc d 216 (330, [l0, l1, l2, l3, l4, l5, l6, l7, l8, l9], [], h) Q := t_if k_216_312 rfl
theorem k_216_315 : lk 216 315 = some (.aload_n 0, 316, 0, 0, .null) := by decide +kernel
theorem x_216_315 : Tr sc d 216 (315, [some (.ref xk), l1, l2, l3, l4, l5, l6, l7, l8, l9], [], h) Q = Tr sc d 216 (316, [some (.ref xk), l1, l2, l3, l4, l5, l6, l7, l8, l9], [.ref xk], h) Q := t_aload_n k_216_315 rfl
theorem k_216_316 : lk 216 316 = some (.getfield 88, 319, 10, 46, .null) := by decide +kernel
theorem x_216_316 : Tr sc d 216 (316, [l0, l1, l2, l3, l4, l5, l6, l7, l8, l9], [.ref k0], h) Q = (okp h k0 10 = true ∧ ∃ q, hR h k0 46 = some q ∧ Tr sc d 216 (319, [l0, l1, l2, l3, l4, l5, l6, l7, l8, l9], [.ref q], h) Q) := t_getr k_216_316
theorem k_216_319 : lk 216 319 = some (.iload 8, 321, 8, 0, .null) := by decide +kernel
theorem x_216_319 : Tr sc d 216 (319, [l0, l1, l2, l3, l4, l5, l6, l7, some (.int x), l9], [.ref k0], h) Q = Tr sc d 216 (321, [l0, l1, l2, l3, l4, l5, l6, l7, some (.int x), l9], [.int x, .ref k0], h) Q := t_iload k_216_319 rfl
theorem k_216_321 : lk 216 321 = some (.iload 9, 323, 9, 0, .null) := by decide +kernel
theorem x_216_321 : Tr sc d 216 (321, [l0, l1, l2, l3, l4, l5, l6, l7, l8, some (.int x)], [.int i1, .ref k0], h) Q = Tr sc d 216 (323, [l0, l1, l2, l3, l4, l5, l6, l7, l8, some (.int x)], [.int x, .int i1, .ref k0], h) Q := t_iload k_216_321 rfl
theorem k_216_323 : lk 216 323 = some (.invokestatic 310, 326, 211, 2, .null) := by decide +kernel
theorem x_216_323 : Tr sc (d + 1) 216 (323, [l0, l1, l2, l3, l4, l5, l6, l7, l8, l9], [.int i2, .int i1, .ref k0], h) Q = Tr sc d 211 (ent0 211 [.int i1, .int i2] h) (fun z => Tr sc (d + 1) 216 (326, [l0, l1, l2, l3, l4, l5, l6, l7, l8, l9], z.1.toList ++ [.ref k0], z.2) Q) := t_cs (as := [.int i1, .int i2]) (r := [.ref k0]) k_216_323 (by decide) rfl rfl (Nat.le_of_ble_eq_true rfl) (Nat.le_of_ble_eq_true rfl)
theorem k_216_326 : lk 216 326 = some (.iconst 1, 327, 0, 0, .int 1) := by decide +kernel
theorem x_216_326 : Tr sc d 216 (326, [l0, l1, l2, l3, l4, l5, l6, l7, l8, l9], [.int i1, .ref k0], h) Q = Tr sc d 216 (327, [l0, l1, l2, l3, l4, l5, l6, l7, l8, l9], [.int 1, .int i1, .ref k0], h) Q := t_go k_216_326 rfl
theorem k_216_327 : lk 216 327 = some (.bastore, 328, 0, 0, .null) := by decide +kernel
theorem x_216_327 : Tr sc d 216 (327, [l0, l1, l2, l3, l4, l5, l6, l7, l8, l9], [.int i2, .int i1, .ref k0], h) Q = ((okp h k0 13 && inb i1 (LN k0)) = true ∧ Tr sc d 216 (328, [l0, l1, l2, l3, l4, l5, l6, l7, l8, l9], [], (sI h k0 i1.toNatClampNeg (vp_nar .boolean i2))) Q) := t_gd k_216_327 rfl
theorem k_216_328 : lk 216 328 = some (.iconst 1, 329, 0, 0, .int 1) := by decide +kernel
theorem x_216_328 : Tr sc d 216 (328, [l0, l1, l2, l3, l4, l5, l6, l7, l8, l9], [], h) Q = Tr sc d 216 (329, [l0, l1, l2, l3, l4, l5, l6, l7, l8, l9], [.int 1], h) Q := t_go k_216_328 rfl
theorem k_216_329 : lk 216 329 = some (.istore_n 3, 330, 3, 0, .null) := by decide +kernel
theorem x_216_329 : Tr sc d 216 (329, [l0, l1, l2, l3, l4, l5, l6, l7, l8, l9], [.int i0], h) Q = Tr sc d 216 (330, [l0, l1, cl2 l2, some (.int i0), l4, l5, l6, l7, l8, l9], [], h) Q := t_istore_n k_216_329 (Nat.le_of_ble_eq_true rfl)
theorem k_216_330 : lk 216 330 = some (.iinc 5 1, 333, 5, 0, .int 1) := by decide +kernel
theorem x_216_330 : Tr sc d 216 (330, [l0, l1, l2, l3, l4, some (.int x), l6, l7, l8, l9], [], h) Q = Tr sc d 216 (333, [l0, l1, l2, l3, cl2 l4, some (.int (x + 1)), l6, l7, l8, l9], [], h) Q := t_inc k_216_330 rfl (Nat.le_of_ble_eq_true rfl)
theorem k_216_333 : lk 216 333 = some (.goto (-170), 336, 163, 0, .null) := by decide +kernel
theorem x_216_333 : Tr sc d 216 (333, [l0, l1, l2, l3, l4, l5, l6, l7, l8, l9], [], h) Q = Tr sc d 216 (163, [l0, l1, l2, l3, l4, l5, l6, l7, l8, l9], [], h) Q := t_go k_216_333 rfl
theorem k_216_336 : lk 216 336 = some (.iinc 4 1, 339, 4, 0, .int 1) := by decide +kernel
theorem x_216_336 : Tr sc d 216 (336, [l0, l1, l2, l3, some (.int x), l5, l6, l7, l8, l9], [], h) Q = Tr sc d 216 (339, [l0, l1, l2, cl2 l3, some (.int (x + 1)), l5, l6, l7, l8, l9], [], h) Q := t_inc k_216_336 rfl (Nat.le_of_ble_eq_true rfl)
theorem k_216_339 : lk 216 339 = some (.goto (-187), 342, 152, 0, .null) := by decide +kernel
theorem x_216_339 : Tr sc d 216 (339, [l0, l1, l2, l3, l4, l5, l6, l7, l8, l9], [], h) Q = Tr sc d 216 (152, [l0, l1, l2, l3, l4, l5, l6, l7, l8, l9], [], h) Q := t_go k_216_339 rfl
theorem k_216_342 : lk 216 342 = some (.goto (-199), 345, 143, 0, .null) := by decide +kernel
theorem x_216_342 : Tr sc d 216 (342, [l0, l1, l2, l3, l4, l5, l6, l7, l8, l9], [], h) Q = Tr sc d 216 (143, [l0, l1, l2, l3, l4, l5, l6, l7, l8, l9], [], h) Q := t_go k_216_342 rfl
theorem k_216_345 : lk 216 345 = some (.aload_n 0, 346, 0, 0, .null) := by decide +kernel
theorem x_216_345 : Tr sc d 216 (345, [some (.ref xk), l1, l2, l3, l4, l5, l6, l7, l8, l9], [], h) Q = Tr sc d 216 (346, [some (.ref xk), l1, l2, l3, l4, l5, l6, l7, l8, l9], [.ref xk], h) Q := t_aload_n k_216_345 rfl
theorem k_216_346 : lk 216 346 = some (.getfield 88, 349, 10, 46, .null) := by decide +kernel
theorem x_216_346 : Tr sc d 216 (346, [l0, l1, l2, l3, l4, l5, l6, l7, l8, l9], [.ref k0], h) Q = (okp h k0 10 = true ∧ ∃ q, hR h k0 46 = some q ∧ Tr sc d 216 (349, [l0, l1, l2, l3, l4, l5, l6, l7, l8, l9], [.ref q], h) Q) := t_getr k_216_346
theorem k_216_349 : lk 216 349 = some (.iconst 0, 350, 0, 0, .int 0) := by decide +kernel
theorem x_216_349 : Tr sc d 216 (349, [l0, l1, l2, l3, l4, l5, l6, l7, l8, l9], [.ref k0], h) Q = Tr sc d 216 (350, [l0, l1, l2, l3, l4, l5, l6, l7, l8, l9], [.int 0, .ref k0], h) Q := t_go k_216_349 rfl
theorem k_216_350 : lk 216 350 = some (.iconst 0, 351, 0, 0, .int 0) := by decide +kernel
theorem x_216_350 : Tr sc d 216 (350, [l0, l1, l2, l3, l4, l5, l6, l7, l8, l9], [.int i1, .ref k0], h) Q = Tr sc d 216 (351, [l0, l1, l2, l3, l4, l5, l6, l7, l8, l9], [.int 0, .int i1, .ref k0], h) Q := t_go k_216_350 rfl
theorem k_216_351 : lk 216 351 = some (.invokestatic 310, 354, 211, 2, .null) := by decide +kernel
theorem x_216_351 : Tr sc (d + 1) 216 (351, [l0, l1, l2, l3, l4, l5, l6, l7, l8, l9], [.int i2, .int i1, .ref k0], h) Q = Tr sc d 211 (ent0 211 [.int i1, .int i2] h) (fun z => Tr sc (d + 1) 216 (354, [l0, l1, l2, l3, l4, l5, l6, l7, l8, l9], z.1.toList ++ [.ref k0], z.2) Q) := t_cs (as := [.int i1, .int i2]) (r := [.ref k0]) k_216_351 (by decide) rfl rfl (Nat.le_of_ble_eq_true rfl) (Nat.le_of_ble_eq_true rfl)
theorem k_216_354 : lk 216 354 = some (.baload, 355, 0, 0, .null) := by decide +kernel
theorem x_216_354 : Tr sc d 216 (354, [l0, l1, l2, l3, l4, l5, l6, l7, l8, l9], [.int i1, .ref k0], h) Q = ((okp h k0 13 && inb i1 (LN k0)) = true ∧ Tr sc d 216 (355, [l0, l1, l2, l3, l4, l5, l6, l7, l8, l9], [.int (hI h k0 i1.toNatClampNeg)], h) Q) := t_gd k_216_354 rfl
theorem k_216_355 : lk 216 355 = some (.ifCond .ne 7, 358, 362, 0, .null) := by decide +kernel
theorem x_216_355 : Tr sc d 216 (355, [l0, l1, l2, l3, l4, l5, l6, l7, l8, l9], [.int i0], h) Q = if i0 = 0 then Tr sc d 216 (358, [l0, l1, l2, l3, l4, l5, l6, l7, l8, l9], [], h) Q else Tr sc d 216 (362, [l0, l1, l2, l3, l4, l5, l6, l7, l8, l9], [], h) Q := t_if k_216_355 rfl
theorem k_216_358 : lk 216 358 = some (.iconst 1, 359, 0, 0, .int 1) := by decide +kernel
theorem x_216_358 : Tr sc d 216 (358, [l0, l1, l2, l3, l4, l5, l6, l7, l8, l9], [], h) Q = Tr sc d 216 (359, [l0, l1, l2, l3, l4, l5, l6, l7, l8, l9], [.int 1], h) Q := t_go k_216_358 rfl
theorem k_216_359 : lk 216 359 = some (.goto 4, 362, 363, 0, .null) := by decide +kernel
theorem x_216_359 : Tr sc d 216 (359, [l0, l1, l2, l3, l4, l5, l6, l7, l8, l9], [.int i0], h) Q = Tr sc d 216 (363, [l0, l1, l2, l3, l4, l5, l6, l7, l8, l9], [.int i0], h) Q := t_go k_216_359 rfl
theorem k_216_362 : lk 216 362 = some (.iconst 0, 363, 0, 0, .int 0) := by decide +kernel
theorem x_216_362 : Tr sc d 216 (362, [l0, l1, l2, l3, l4, l5, l6, l7, l8, l9], [], h) Q = Tr sc d 216 (363, [l0, l1, l2, l3, l4, l5, l6, l7, l8, l9], [.int 0], h) Q := t_go k_216_362 rfl
theorem k_216_363 : lk 216 363 = some (.ireturn, 364, 0, 0, .null) := by decide +kernel
theorem x_216_363 : Tr sc d 216 (363, [l0, l1, l2, l3, l4, l5, l6, l7, l8, l9], [.int i0], h) Q = (vp_nar .boolean i0 = i0 ∧ Q (some (.int i0), h)) := t_zret k_216_363 r_216
theorem e_216 : Tr sc d 216 (ent0 216 [.ref k0, .int i1] h) Q = Tr sc d 216 (0, [some (.ref k0), some (.int i1), none, none, none, none, none, none, none, none], [], h) Q := by
  have e : mL 216 = 10 := by decide +kernel
  unfold ent0
  rw [e]
  rfl
theorem r_217 : mR 217 = some .int := by decide +kernel
theorem k_217_0 : lk 217 0 = some (.aload_n 0, 1, 0, 0, .null) := by decide +kernel
theorem x_217_0 : Tr sc d 217 (0, [some (.ref xk), l1, l2], [], h) Q = Tr sc d 217 (1, [some (.ref xk), l1, l2], [.ref xk], h) Q := t_aload_n k_217_0 rfl
theorem k_217_1 : lk 217 1 = some (.iload_n 1, 2, 1, 0, .null) := by decide +kernel
theorem x_217_1 : Tr sc d 217 (1, [l0, some (.int x), l2], [.ref k0], h) Q = Tr sc d 217 (2, [l0, some (.int x), l2], [.int x, .ref k0], h) Q := t_iload_n k_217_1 rfl
theorem k_217_2 : lk 217 2 = some (.invokevirtual 220, 5, 176, 1, .null) := by decide +kernel
theorem x_217_2 : Tr sc (d + 1) 217 (2, [l0, l1, l2], [.int i1, .ref k0], h) Q = (okp h k0 10 = true ∧ Tr sc d 176 (ent0 176 [.ref k0, .int i1] h) (fun z => Tr sc (d + 1) 217 (5, [l0, l1, l2], z.1.toList ++ [], z.2) Q)) := t_cv (as := [.int i1]) (r := []) k_217_2 rfl rfl (Nat.le_of_ble_eq_true rfl) (Nat.le_of_ble_eq_true rfl) (Nat.le_of_ble_eq_true rfl)
theorem k_217_5 : lk 217 5 = some (.istore_n 2, 6, 2, 0, .null) := by decide +kernel
theorem x_217_5 : Tr sc d 217 (5, [l0, l1, l2], [.int i0], h) Q = Tr sc d 217 (6, [l0, cl2 l1, some (.int i0)], [], h) Q := t_istore_n k_217_5 (Nat.le_of_ble_eq_true rfl)
theorem k_217_6 : lk 217 6 = some (.iload_n 2, 7, 2, 0, .null) := by decide +kernel
theorem x_217_6 : Tr sc d 217 (6, [l0, l1, some (.int x)], [], h) Q = Tr sc d 217 (7, [l0, l1, some (.int x)], [.int x], h) Q := t_iload_n k_217_6 rfl
theorem k_217_7 : lk 217 7 = some (.ifCond .ge 5, 10, 12, 0, .null) := by decide +kernel
theorem x_217_7 : Tr sc d 217 (7, [l0, l1, l2], [.int i0], h) Q = if 0 ≤ i0 then Tr sc d 217 (12, [l0, l1, l2], [], h) Q else Tr sc d 217 (10, [l0, l1, l2], [], h) Q := t_if k_217_7 rfl
theorem k_217_10 : lk 217 10 = some (.iload_n 2, 11, 2, 0, .null) := by decide +kernel
theorem x_217_10 : Tr sc d 217 (10, [l0, l1, some (.int x)], [], h) Q = Tr sc d 217 (11, [l0, l1, some (.int x)], [.int x], h) Q := t_iload_n k_217_10 rfl
theorem k_217_11 : lk 217 11 = some (.ireturn, 12, 0, 0, .null) := by decide +kernel
theorem x_217_11 : Tr sc d 217 (11, [l0, l1, l2], [.int i0], h) Q = Q (some (.int i0), h) := t_ret k_217_11 (by rw [r_217]; rfl)
theorem k_217_12 : lk 217 12 = some (.aload_n 0, 13, 0, 0, .null) := by decide +kernel
theorem x_217_12 : Tr sc d 217 (12, [some (.ref xk), l1, l2], [], h) Q = Tr sc d 217 (13, [some (.ref xk), l1, l2], [.ref xk], h) Q := t_aload_n k_217_12 rfl
theorem k_217_13 : lk 217 13 = some (.iload_n 1, 14, 1, 0, .null) := by decide +kernel
theorem x_217_13 : Tr sc d 217 (13, [l0, some (.int x), l2], [.ref k0], h) Q = Tr sc d 217 (14, [l0, some (.int x), l2], [.int x, .ref k0], h) Q := t_iload_n k_217_13 rfl
theorem k_217_14 : lk 217 14 = some (.invokevirtual 223, 17, 193, 1, .null) := by decide +kernel
theorem x_217_14 : Tr sc (d + 1) 217 (14, [l0, l1, l2], [.int i1, .ref k0], h) Q = (okp h k0 10 = true ∧ Tr sc d 193 (ent0 193 [.ref k0, .int i1] h) (fun z => Tr sc (d + 1) 217 (17, [l0, l1, l2], z.1.toList ++ [], z.2) Q)) := t_cv (as := [.int i1]) (r := []) k_217_14 rfl rfl (Nat.le_of_ble_eq_true rfl) (Nat.le_of_ble_eq_true rfl) (Nat.le_of_ble_eq_true rfl)
theorem k_217_17 : lk 217 17 = some (.ifCond .ne 9, 20, 26, 0, .null) := by decide +kernel
theorem x_217_17 : Tr sc d 217 (17, [l0, l1, l2], [.int i0], h) Q = if i0 = 0 then Tr sc d 217 (20, [l0, l1, l2], [], h) Q else Tr sc d 217 (26, [l0, l1, l2], [], h) Q := t_if k_217_17 rfl
theorem k_217_20 : lk 217 20 = some (.aload_n 0, 21, 0, 0, .null) := by decide +kernel
theorem x_217_20 : Tr sc d 217 (20, [some (.ref xk), l1, l2], [], h) Q = Tr sc d 217 (21, [some (.ref xk), l1, l2], [.ref xk], h) Q := t_aload_n k_217_20 rfl
theorem k_217_21 : lk 217 21 = some (.iconst 3, 22, 0, 0, .int 3) := by decide +kernel
theorem x_217_21 : Tr sc d 217 (21, [l0, l1, l2], [.ref k0], h) Q = Tr sc d 217 (22, [l0, l1, l2], [.int 3, .ref k0], h) Q := t_go k_217_21 rfl
theorem k_217_22 : lk 217 22 = some (.invokevirtual 152, 25, 157, 1, .null) := by decide +kernel
theorem x_217_22 : Tr sc (d + 1) 217 (22, [l0, l1, l2], [.int i1, .ref k0], h) Q = (okp h k0 10 = true ∧ Tr sc d 157 (ent0 157 [.ref k0, .int i1] h) (fun z => Tr sc (d + 1) 217 (25, [l0, l1, l2], z.1.toList ++ [], z.2) Q)) := t_cv (as := [.int i1]) (r := []) k_217_22 rfl rfl (Nat.le_of_ble_eq_true rfl) (Nat.le_of_ble_eq_true rfl) (Nat.le_of_ble_eq_true rfl)
theorem k_217_25 : lk 217 25 = some (.ireturn, 26, 0, 0, .null) := by decide +kernel
theorem x_217_25 : Tr sc d 217 (25, [l0, l1, l2], [.int i0], h) Q = Q (some (.int i0), h) := t_ret k_217_25 (by rw [r_217]; rfl)
theorem k_217_26 : lk 217 26 = some (.aload_n 0, 27, 0, 0, .null) := by decide +kernel
theorem x_217_26 : Tr sc d 217 (26, [some (.ref xk), l1, l2], [], h) Q = Tr sc d 217 (27, [some (.ref xk), l1, l2], [.ref xk], h) Q := t_aload_n k_217_26 rfl
theorem k_217_27 : lk 217 27 = some (.iload_n 1, 28, 1, 0, .null) := by decide +kernel
theorem x_217_27 : Tr sc d 217 (27, [l0, some (.int x), l2], [.ref k0], h) Q = Tr sc d 217 (28, [l0, some (.int x), l2], [.int x, .ref k0], h) Q := t_iload_n k_217_27 rfl
theorem k_217_28 : lk 217 28 = some (.invokevirtual 320, 31, 214, 1, .null) := by decide +kernel
theorem x_217_28 : Tr sc (d + 1) 217 (28, [l0, l1, l2], [.int i1, .ref k0], h) Q = (okp h k0 10 = true ∧ Tr sc d 214 (ent0 214 [.ref k0, .int i1] h) (fun z => Tr sc (d + 1) 217 (31, [l0, l1, l2], z.1.toList ++ [], z.2) Q)) := t_cv (as := [.int i1]) (r := []) k_217_28 rfl rfl (Nat.le_of_ble_eq_true rfl) (Nat.le_of_ble_eq_true rfl) (Nat.le_of_ble_eq_true rfl)
theorem k_217_31 : lk 217 31 = some (.iconst 0, 32, 0, 0, .int 0) := by decide +kernel
theorem x_217_31 : Tr sc d 217 (31, [l0, l1, l2], [], h) Q = Tr sc d 217 (32, [l0, l1, l2], [.int 0], h) Q := t_go k_217_31 rfl
theorem k_217_32 : lk 217 32 = some (.ireturn, 33, 0, 0, .null) := by decide +kernel
theorem x_217_32 : Tr sc d 217 (32, [l0, l1, l2], [.int i0], h) Q = Q (some (.int i0), h) := t_ret k_217_32 (by rw [r_217]; rfl)
theorem e_217 : Tr sc d 217 (ent0 217 [.ref k0, .int i1] h) Q = Tr sc d 217 (0, [some (.ref k0), some (.int i1), none], [], h) Q := by
  have e : mL 217 = 3 := by decide +kernel
  unfold ent0
  rw [e]
  rfl
theorem r_218 : mR 218 = some .int := by decide +kernel
theorem k_218_0 : lk 218 0 = some (.aload_n 0, 1, 0, 0, .null) := by decide +kernel
theorem x_218_0 : Tr sc d 218 (0, [some (.ref xk), l1, l2, l3, l4], [], h) Q = Tr sc d 218 (1, [some (.ref xk), l1, l2, l3, l4], [.ref xk], h) Q := t_aload_n k_218_0 rfl
theorem k_218_1 : lk 218 1 = some (.iload_n 1, 2, 1, 0, .null) := by decide +kernel
theorem x_218_1 : Tr sc d 218 (1, [l0, some (.int x), l2, l3, l4], [.ref k0], h) Q = Tr sc d 218 (2, [l0, some (.int x), l2, l3, l4], [.int x, .ref k0], h) Q := t_iload_n k_218_1 rfl
theorem k_218_2 : lk 218 2 = some (.invokevirtual 327, 5, 217, 1, .null) := by decide +kernel
theorem x_218_2 : Tr sc (d + 1) 218 (2, [l0, l1, l2, l3, l4], [.int i1, .ref k0], h) Q = (okp h k0 10 = true ∧ Tr sc d 217 (ent0 217 [.ref k0, .int i1] h) (fun z => Tr sc (d + 1) 218 (5, [l0, l1, l2, l3, l4], z.1.toList ++ [], z.2) Q)) := t_cv (as := [.int i1]) (r := []) k_218_2 rfl rfl (Nat.le_of_ble_eq_true rfl) (Nat.le_of_ble_eq_true rfl) (Nat.le_of_ble_eq_true rfl)
theorem k_218_5 : lk 218 5 = some (.istore_n 2, 6, 2, 0, .null) := by decide +kernel
theorem x_218_5 : Tr sc d 218 (5, [l0, l1, l2, l3, l4], [.int i0], h) Q = Tr sc d 218 (6, [l0, cl2 l1, some (.int i0), l3, l4], [], h) Q := t_istore_n k_218_5 (Nat.le_of_ble_eq_true rfl)
theorem k_218_6 : lk 218 6 = some (.iload_n 2, 7, 2, 0, .null) := by decide +kernel
theorem x_218_6 : Tr sc d 218 (6, [l0, l1, some (.int x), l3, l4], [], h) Q = Tr sc d 218 (7, [l0, l1, some (.int x), l3, l4], [.int x], h) Q := t_iload_n k_218_6 rfl
theorem k_218_7 : lk 218 7 = some (.ifCond .ge 5, 10, 12, 0, .null) := by decide +kernel
theorem x_218_7 : Tr sc d 218 (7, [l0, l1, l2, l3, l4], [.int i0], h) Q = if 0 ≤ i0 then Tr sc d 218 (12, [l0, l1, l2, l3, l4], [], h) Q else Tr sc d 218 (10, [l0, l1, l2, l3, l4], [], h) Q := t_if k_218_7 rfl
theorem k_218_10 : lk 218 10 = some (.iload_n 2, 11, 2, 0, .null) := by decide +kernel
theorem x_218_10 : Tr sc d 218 (10, [l0, l1, some (.int x), l3, l4], [], h) Q = Tr sc d 218 (11, [l0, l1, some (.int x), l3, l4], [.int x], h) Q := t_iload_n k_218_10 rfl
theorem k_218_11 : lk 218 11 = some (.ireturn, 12, 0, 0, .null) := by decide +kernel
theorem x_218_11 : Tr sc d 218 (11, [l0, l1, l2, l3, l4], [.int i0], h) Q = Q (some (.int i0), h) := t_ret k_218_11 (by rw [r_218]; rfl)
theorem k_218_12 : lk 218 12 = some (.iconst 0, 13, 0, 0, .int 0) := by decide +kernel
theorem x_218_12 : Tr sc d 218 (12, [l0, l1, l2, l3, l4], [], h) Q = Tr sc d 218 (13, [l0, l1, l2, l3, l4], [.int 0], h) Q := t_go k_218_12 rfl
theorem k_218_13 : lk 218 13 = some (.istore_n 3, 14, 3, 0, .null) := by decide +kernel
theorem x_218_13 : Tr sc d 218 (13, [l0, l1, l2, l3, l4], [.int i0], h) Q = Tr sc d 218 (14, [l0, l1, cl2 l2, some (.int i0), l4], [], h) Q := t_istore_n k_218_13 (Nat.le_of_ble_eq_true rfl)
theorem k_218_14 : lk 218 14 = some (.iconst 0, 15, 0, 0, .int 0) := by decide +kernel
theorem x_218_14 : Tr sc d 218 (14, [l0, l1, l2, l3, l4], [], h) Q = Tr sc d 218 (15, [l0, l1, l2, l3, l4], [.int 0], h) Q := t_go k_218_14 rfl
theorem k_218_15 : lk 218 15 = some (.istore 4, 17, 4, 0, .null) := by decide +kernel
theorem x_218_15 : Tr sc d 218 (15, [l0, l1, l2, l3, l4], [.int i0], h) Q = Tr sc d 218 (17, [l0, l1, l2, cl2 l3, some (.int i0)], [], h) Q := t_istore k_218_15 (Nat.le_of_ble_eq_true rfl)
theorem k_218_17 : lk 218 17 = some (.iload 4, 19, 4, 0, .null) := by decide +kernel
theorem x_218_17 : Tr sc d 218 (17, [l0, l1, l2, l3, some (.int x)], [], h) Q = Tr sc d 218 (19, [l0, l1, l2, l3, some (.int x)], [.int x], h) Q := t_iload k_218_17 rfl
theorem k_218_19 : lk 218 19 = some (.sipush 1369, 22, 0, 0, .int 1369) := by decide +kernel
theorem x_218_19 : Tr sc d 218 (19, [l0, l1, l2, l3, l4], [.int i0], h) Q = Tr sc d 218 (22, [l0, l1, l2, l3, l4], [.int 1369, .int i0], h) Q := t_go k_218_19 rfl
theorem k_218_22 : lk 218 22 = some (.if_icmp .ge 27, 25, 49, 0, .null) := by decide +kernel
theorem x_218_22 : Tr sc d 218 (22, [l0, l1, l2, l3, l4], [.int i1, .int i0], h) Q = if i1 ≤ i0 then Tr sc d 218 (49, [l0, l1, l2, l3, l4], [], h) Q else Tr sc d 218 (25, [l0, l1, l2, l3, l4], [], h) Q := t_if k_218_22 rfl
theorem k_218_25 : lk 218 25 = some (.iload_n 3, 26, 3, 0, .null) := by decide +kernel
theorem x_218_25 : Tr sc d 218 (25, [l0, l1, l2, some (.int x), l4], [], h) Q = Tr sc d 218 (26, [l0, l1, l2, some (.int x), l4], [.int x], h) Q := t_iload_n k_218_25 rfl
theorem k_218_26 : lk 218 26 = some (.aload_n 0, 27, 0, 0, .null) := by decide +kernel
theorem x_218_26 : Tr sc d 218 (26, [some (.ref xk), l1, l2, l3, l4], [.int i0], h) Q = Tr sc d 218 (27, [some (.ref xk), l1, l2, l3, l4], [.ref xk, .int i0], h) Q := t_aload_n k_218_26 rfl
theorem k_218_27 : lk 218 27 = some (.getfield 84, 30, 10, 45, .null) := by decide +kernel
theorem x_218_27 : Tr sc d 218 (27, [l0, l1, l2, l3, l4], [.ref k1, .int i0], h) Q = (okp h k1 10 = true ∧ ∃ q, hR h k1 45 = some q ∧ Tr sc d 218 (30, [l0, l1, l2, l3, l4], [.ref q, .int i0], h) Q) := t_getr k_218_27
theorem k_218_30 : lk 218 30 = some (.iload 4, 32, 4, 0, .null) := by decide +kernel
theorem x_218_30 : Tr sc d 218 (30, [l0, l1, l2, l3, some (.int x)], [.ref k1, .int i0], h) Q = Tr sc d 218 (32, [l0, l1, l2, l3, some (.int x)], [.int x, .ref k1, .int i0], h) Q := t_iload k_218_30 rfl
theorem k_218_32 : lk 218 32 = some (.baload, 33, 0, 0, .null) := by decide +kernel
theorem x_218_32 : Tr sc d 218 (32, [l0, l1, l2, l3, l4], [.int i2, .ref k1, .int i0], h) Q = ((okp h k1 13 && inb i2 (LN k1)) = true ∧ Tr sc d 218 (33, [l0, l1, l2, l3, l4], [.int (hI h k1 i2.toNatClampNeg), .int i0], h) Q) := t_gd k_218_32 rfl
theorem k_218_33 : lk 218 33 = some (.ifCond .eq 7, 36, 40, 0, .null) := by decide +kernel
theorem x_218_33 : Tr sc d 218 (33, [l0, l1, l2, l3, l4], [.int i1, .int i0], h) Q = if i1 = 0 then Tr sc d 218 (40, [l0, l1, l2, l3, l4], [.int i0], h) Q else Tr sc d 218 (36, [l0, l1, l2, l3, l4], [.int i0], h) Q := t_if k_218_33 rfl
theorem k_218_36 : lk 218 36 = some (.iconst 1, 37, 0, 0, .int 1) := by decide +kernel
theorem x_218_36 : Tr sc d 218 (36, [l0, l1, l2, l3, l4], [.int i0], h) Q = Tr sc d 218 (37, [l0, l1, l2, l3, l4], [.int 1, .int i0], h) Q := t_go k_218_36 rfl
theorem k_218_37 : lk 218 37 = some (.goto 4, 40, 41, 0, .null) := by decide +kernel
theorem x_218_37 : Tr sc d 218 (37, [l0, l1, l2, l3, l4], [.int i1, .int i0], h) Q = Tr sc d 218 (41, [l0, l1, l2, l3, l4], [.int i1, .int i0], h) Q := t_go k_218_37 rfl
theorem k_218_40 : lk 218 40 = some (.iconst 0, 41, 0, 0, .int 0) := by decide +kernel
theorem x_218_40 : Tr sc d 218 (40, [l0, l1, l2, l3, l4], [.int i0], h) Q = Tr sc d 218 (41, [l0, l1, l2, l3, l4], [.int 0, .int i0], h) Q := t_go k_218_40 rfl
theorem k_218_41 : lk 218 41 = some (.iadd, 42, 0, 0, .null) := by decide +kernel
theorem x_218_41 : Tr sc d 218 (41, [l0, l1, l2, l3, l4], [.int i1, .int i0], h) Q = Tr sc d 218 (42, [l0, l1, l2, l3, l4], [.int (i0 + i1)], h) Q := t_go k_218_41 rfl
theorem k_218_42 : lk 218 42 = some (.istore_n 3, 43, 3, 0, .null) := by decide +kernel
theorem x_218_42 : Tr sc d 218 (42, [l0, l1, l2, l3, l4], [.int i0], h) Q = Tr sc d 218 (43, [l0, l1, cl2 l2, some (.int i0), l4], [], h) Q := t_istore_n k_218_42 (Nat.le_of_ble_eq_true rfl)
theorem k_218_43 : lk 218 43 = some (.iinc 4 1, 46, 4, 0, .int 1) := by decide +kernel
theorem x_218_43 : Tr sc d 218 (43, [l0, l1, l2, l3, some (.int x)], [], h) Q = Tr sc d 218 (46, [l0, l1, l2, cl2 l3, some (.int (x + 1))], [], h) Q := t_inc k_218_43 rfl (Nat.le_of_ble_eq_true rfl)
theorem k_218_46 : lk 218 46 = some (.goto (-29), 49, 17, 0, .null) := by decide +kernel
theorem x_218_46 : Tr sc d 218 (46, [l0, l1, l2, l3, l4], [], h) Q = Tr sc d 218 (17, [l0, l1, l2, l3, l4], [], h) Q := t_go k_218_46 rfl
theorem k_218_49 : lk 218 49 = some (.iload_n 3, 50, 3, 0, .null) := by decide +kernel
theorem x_218_49 : Tr sc d 218 (49, [l0, l1, l2, some (.int x), l4], [], h) Q = Tr sc d 218 (50, [l0, l1, l2, some (.int x), l4], [.int x], h) Q := t_iload_n k_218_49 rfl
theorem k_218_50 : lk 218 50 = some (.ireturn, 51, 0, 0, .null) := by decide +kernel
theorem x_218_50 : Tr sc d 218 (50, [l0, l1, l2, l3, l4], [.int i0], h) Q = Q (some (.int i0), h) := t_ret k_218_50 (by rw [r_218]; rfl)
theorem e_218 : Tr sc d 218 (ent0 218 [.ref k0, .int i1] h) Q = Tr sc d 218 (0, [some (.ref k0), some (.int i1), none, none, none], [], h) Q := by
  have e : mL 218 = 5 := by decide +kernel
  unfold ent0
  rw [e]
  rfl
theorem r_219 : mR 219 = some .int := by decide +kernel
theorem k_219_0 : lk 219 0 = some (.aload_n 0, 1, 0, 0, .null) := by decide +kernel
theorem x_219_0 : Tr sc d 219 (0, [some (.ref xk), l1, l2, l3, l4], [], h) Q = Tr sc d 219 (1, [some (.ref xk), l1, l2, l3, l4], [.ref xk], h) Q := t_aload_n k_219_0 rfl
theorem k_219_1 : lk 219 1 = some (.iload_n 1, 2, 1, 0, .null) := by decide +kernel
theorem x_219_1 : Tr sc d 219 (1, [l0, some (.int x), l2, l3, l4], [.ref k0], h) Q = Tr sc d 219 (2, [l0, some (.int x), l2, l3, l4], [.int x, .ref k0], h) Q := t_iload_n k_219_1 rfl
theorem k_219_2 : lk 219 2 = some (.invokevirtual 327, 5, 217, 1, .null) := by decide +kernel
theorem x_219_2 : Tr sc (d + 1) 219 (2, [l0, l1, l2, l3, l4], [.int i1, .ref k0], h) Q = (okp h k0 10 = true ∧ Tr sc d 217 (ent0 217 [.ref k0, .int i1] h) (fun z => Tr sc (d + 1) 219 (5, [l0, l1, l2, l3, l4], z.1.toList ++ [], z.2) Q)) := t_cv (as := [.int i1]) (r := []) k_219_2 rfl rfl (Nat.le_of_ble_eq_true rfl) (Nat.le_of_ble_eq_true rfl) (Nat.le_of_ble_eq_true rfl)
theorem k_219_5 : lk 219 5 = some (.istore 4, 7, 4, 0, .null) := by decide +kernel
theorem x_219_5 : Tr sc d 219 (5, [l0, l1, l2, l3, l4], [.int i0], h) Q = Tr sc d 219 (7, [l0, l1, l2, cl2 l3, some (.int i0)], [], h) Q := t_istore k_219_5 (Nat.le_of_ble_eq_true rfl)
theorem k_219_7 : lk 219 7 = some (.iload 4, 9, 4, 0, .null) := by decide +kernel
theorem x_219_7 : Tr sc d 219 (7, [l0, l1, l2, l3, some (.int x)], [], h) Q = Tr sc d 219 (9, [l0, l1, l2, l3, some (.int x)], [.int x], h) Q := t_iload k_219_7 rfl
theorem k_219_9 : lk 219 9 = some (.ifCond .ge 8, 12, 17, 0, .null) := by decide +kernel
theorem x_219_9 : Tr sc d 219 (9, [l0, l1, l2, l3, l4], [.int i0], h) Q = if 0 ≤ i0 then Tr sc d 219 (17, [l0, l1, l2, l3, l4], [], h) Q else Tr sc d 219 (12, [l0, l1, l2, l3, l4], [], h) Q := t_if k_219_9 rfl
theorem k_219_12 : lk 219 12 = some (.iload 4, 14, 4, 0, .null) := by decide +kernel
theorem x_219_12 : Tr sc d 219 (12, [l0, l1, l2, l3, some (.int x)], [], h) Q = Tr sc d 219 (14, [l0, l1, l2, l3, some (.int x)], [.int x], h) Q := t_iload k_219_12 rfl
theorem k_219_14 : lk 219 14 = some (.goto 17, 17, 31, 0, .null) := by decide +kernel
theorem x_219_14 : Tr sc d 219 (14, [l0, l1, l2, l3, l4], [.int i0], h) Q = Tr sc d 219 (31, [l0, l1, l2, l3, l4], [.int i0], h) Q := t_go k_219_14 rfl
theorem k_219_17 : lk 219 17 = some (.aload_n 0, 18, 0, 0, .null) := by decide +kernel
theorem x_219_17 : Tr sc d 219 (17, [some (.ref xk), l1, l2, l3, l4], [], h) Q = Tr sc d 219 (18, [some (.ref xk), l1, l2, l3, l4], [.ref xk], h) Q := t_aload_n k_219_17 rfl
theorem k_219_18 : lk 219 18 = some (.iload_n 2, 19, 2, 0, .null) := by decide +kernel
theorem x_219_18 : Tr sc d 219 (18, [l0, l1, some (.int x), l3, l4], [.ref k0], h) Q = Tr sc d 219 (19, [l0, l1, some (.int x), l3, l4], [.int x, .ref k0], h) Q := t_iload_n k_219_18 rfl
theorem k_219_19 : lk 219 19 = some (.iload_n 3, 20, 3, 0, .null) := by decide +kernel
theorem x_219_19 : Tr sc d 219 (19, [l0, l1, l2, some (.int x), l4], [.int i1, .ref k0], h) Q = Tr sc d 219 (20, [l0, l1, l2, some (.int x), l4], [.int x, .int i1, .ref k0], h) Q := t_iload_n k_219_19 rfl
theorem k_219_20 : lk 219 20 = some (.invokevirtual 313, 23, 212, 2, .null) := by decide +kernel
theorem x_219_20 : Tr sc (d + 1) 219 (20, [l0, l1, l2, l3, l4], [.int i2, .int i1, .ref k0], h) Q = (okp h k0 10 = true ∧ Tr sc d 212 (ent0 212 [.ref k0, .int i1, .int i2] h) (fun z => Tr sc (d + 1) 219 (23, [l0, l1, l2, l3, l4], z.1.toList ++ [], z.2) Q)) := t_cv (as := [.int i1, .int i2]) (r := []) k_219_20 rfl rfl (Nat.le_of_ble_eq_true rfl) (Nat.le_of_ble_eq_true rfl) (Nat.le_of_ble_eq_true rfl)
theorem k_219_23 : lk 219 23 = some (.ifCond .eq 7, 26, 30, 0, .null) := by decide +kernel
theorem x_219_23 : Tr sc d 219 (23, [l0, l1, l2, l3, l4], [.int i0], h) Q = if i0 = 0 then Tr sc d 219 (30, [l0, l1, l2, l3, l4], [], h) Q else Tr sc d 219 (26, [l0, l1, l2, l3, l4], [], h) Q := t_if k_219_23 rfl
theorem k_219_26 : lk 219 26 = some (.iconst 1, 27, 0, 0, .int 1) := by decide +kernel
theorem x_219_26 : Tr sc d 219 (26, [l0, l1, l2, l3, l4], [], h) Q = Tr sc d 219 (27, [l0, l1, l2, l3, l4], [.int 1], h) Q := t_go k_219_26 rfl
theorem k_219_27 : lk 219 27 = some (.goto 4, 30, 31, 0, .null) := by decide +kernel
theorem x_219_27 : Tr sc d 219 (27, [l0, l1, l2, l3, l4], [.int i0], h) Q = Tr sc d 219 (31, [l0, l1, l2, l3, l4], [.int i0], h) Q := t_go k_219_27 rfl
theorem k_219_30 : lk 219 30 = some (.iconst 0, 31, 0, 0, .int 0) := by decide +kernel
theorem x_219_30 : Tr sc d 219 (30, [l0, l1, l2, l3, l4], [], h) Q = Tr sc d 219 (31, [l0, l1, l2, l3, l4], [.int 0], h) Q := t_go k_219_30 rfl
theorem k_219_31 : lk 219 31 = some (.ireturn, 32, 0, 0, .null) := by decide +kernel
theorem x_219_31 : Tr sc d 219 (31, [l0, l1, l2, l3, l4], [.int i0], h) Q = Q (some (.int i0), h) := t_ret k_219_31 (by rw [r_219]; rfl)
theorem e_219 : Tr sc d 219 (ent0 219 [.ref k0, .int i1, .int i2, .int i3] h) Q = Tr sc d 219 (0, [some (.ref k0), some (.int i1), some (.int i2), some (.int i3), none], [], h) Q := by
  have e : mL 219 = 5 := by decide +kernel
  unfold ent0
  rw [e]
  rfl
theorem r_220 : mR 220 = some .int := by decide +kernel
theorem k_220_0 : lk 220 0 = some (.iconst 0, 1, 0, 0, .int 0) := by decide +kernel
theorem x_220_0 : Tr sc d 220 (0, [l0, l1, l2, l3, l4], [], h) Q = Tr sc d 220 (1, [l0, l1, l2, l3, l4], [.int 0], h) Q := t_go k_220_0 rfl
theorem k_220_1 : lk 220 1 = some (.istore_n 3, 2, 3, 0, .null) := by decide +kernel
theorem x_220_1 : Tr sc d 220 (1, [l0, l1, l2, l3, l4], [.int i0], h) Q = Tr sc d 220 (2, [l0, l1, cl2 l2, some (.int i0), l4], [], h) Q := t_istore_n k_220_1 (Nat.le_of_ble_eq_true rfl)
theorem k_220_2 : lk 220 2 = some (.iconst 0, 3, 0, 0, .int 0) := by decide +kernel
theorem x_220_2 : Tr sc d 220 (2, [l0, l1, l2, l3, l4], [], h) Q = Tr sc d 220 (3, [l0, l1, l2, l3, l4], [.int 0], h) Q := t_go k_220_2 rfl
theorem k_220_3 : lk 220 3 = some (.istore 4, 5, 4, 0, .null) := by decide +kernel
theorem x_220_3 : Tr sc d 220 (3, [l0, l1, l2, l3, l4], [.int i0], h) Q = Tr sc d 220 (5, [l0, l1, l2, cl2 l3, some (.int i0)], [], h) Q := t_istore k_220_3 (Nat.le_of_ble_eq_true rfl)
theorem k_220_5 : lk 220 5 = some (.iload 4, 7, 4, 0, .null) := by decide +kernel
theorem x_220_5 : Tr sc d 220 (5, [l0, l1, l2, l3, some (.int x)], [], h) Q = Tr sc d 220 (7, [l0, l1, l2, l3, some (.int x)], [.int x], h) Q := t_iload k_220_5 rfl
theorem k_220_7 : lk 220 7 = some (.aload_n 0, 8, 0, 0, .null) := by decide +kernel
theorem x_220_7 : Tr sc d 220 (7, [some (.ref xk), l1, l2, l3, l4], [.int i0], h) Q = Tr sc d 220 (8, [some (.ref xk), l1, l2, l3, l4], [.ref xk, .int i0], h) Q := t_aload_n k_220_7 rfl
theorem k_220_8 : lk 220 8 = some (.getfield 41, 11, 10, 18, .null) := by decide +kernel
theorem x_220_8 : Tr sc d 220 (8, [l0, l1, l2, l3, l4], [.ref k1, .int i0], h) Q = (okp h k1 10 = true ∧ ∃ q, hR h k1 18 = some q ∧ Tr sc d 220 (11, [l0, l1, l2, l3, l4], [.ref q, .int i0], h) Q) := t_getr k_220_8
theorem k_220_11 : lk 220 11 = some (.iload_n 1, 12, 1, 0, .null) := by decide +kernel
theorem x_220_11 : Tr sc d 220 (11, [l0, some (.int x), l2, l3, l4], [.ref k1, .int i0], h) Q = Tr sc d 220 (12, [l0, some (.int x), l2, l3, l4], [.int x, .ref k1, .int i0], h) Q := t_iload_n k_220_11 rfl
theorem k_220_12 : lk 220 12 = some (.iaload, 13, 0, 0, .null) := by decide +kernel
theorem x_220_12 : Tr sc d 220 (12, [l0, l1, l2, l3, l4], [.int i2, .ref k1, .int i0], h) Q = (iOk sc h k1 i2 ∧ Tr sc d 220 (13, [l0, l1, l2, l3, l4], [.int (iRd sc h k1 i2), .int i0], h) Q) := t_iald k_220_12
theorem k_220_13 : lk 220 13 = some (.if_icmp .ge 37, 16, 50, 0, .null) := by decide +kernel
theorem x_220_13 : Tr sc d 220 (13, [l0, l1, l2, l3, l4], [.int i1, .int i0], h) Q = if i1 ≤ i0 then Tr sc d 220 (50, [l0, l1, l2, l3, l4], [], h) Q else Tr sc d 220 (16, [l0, l1, l2, l3, l4], [], h) Q := t_if k_220_13 rfl
theorem k_220_16 : lk 220 16 = some (.iload_n 3, 17, 3, 0, .null) := by decide +kernel
theorem x_220_16 : Tr sc d 220 (16, [l0, l1, l2, some (.int x), l4], [], h) Q = Tr sc d 220 (17, [l0, l1, l2, some (.int x), l4], [.int x], h) Q := t_iload_n k_220_16 rfl
theorem k_220_17 : lk 220 17 = some (.iload 4, 19, 4, 0, .null) := by decide +kernel
theorem x_220_17 : Tr sc d 220 (17, [l0, l1, l2, l3, some (.int x)], [.int i0], h) Q = Tr sc d 220 (19, [l0, l1, l2, l3, some (.int x)], [.int x, .int i0], h) Q := t_iload k_220_17 rfl
theorem k_220_19 : lk 220 19 = some (.iload_n 2, 20, 2, 0, .null) := by decide +kernel
theorem x_220_19 : Tr sc d 220 (19, [l0, l1, some (.int x), l3, l4], [.int i1, .int i0], h) Q = Tr sc d 220 (20, [l0, l1, some (.int x), l3, l4], [.int x, .int i1, .int i0], h) Q := t_iload_n k_220_19 rfl
theorem k_220_20 : lk 220 20 = some (.if_icmp .eq 21, 23, 41, 0, .null) := by decide +kernel
theorem x_220_20 : Tr sc d 220 (20, [l0, l1, l2, l3, l4], [.int i2, .int i1, .int i0], h) Q = if i1 = i2 then Tr sc d 220 (41, [l0, l1, l2, l3, l4], [.int i0], h) Q else Tr sc d 220 (23, [l0, l1, l2, l3, l4], [.int i0], h) Q := t_if k_220_20 rfl
theorem k_220_23 : lk 220 23 = some (.aload_n 0, 24, 0, 0, .null) := by decide +kernel
theorem x_220_23 : Tr sc d 220 (23, [some (.ref xk), l1, l2, l3, l4], [.int i0], h) Q = Tr sc d 220 (24, [some (.ref xk), l1, l2, l3, l4], [.ref xk, .int i0], h) Q := t_aload_n k_220_23 rfl
theorem k_220_24 : lk 220 24 = some (.iload_n 1, 25, 1, 0, .null) := by decide +kernel
theorem x_220_24 : Tr sc d 220 (24, [l0, some (.int x), l2, l3, l4], [.ref k1, .int i0], h) Q = Tr sc d 220 (25, [l0, some (.int x), l2, l3, l4], [.int x, .ref k1, .int i0], h) Q := t_iload_n k_220_24 rfl
theorem k_220_25 : lk 220 25 = some (.iload_n 2, 26, 2, 0, .null) := by decide +kernel
theorem x_220_25 : Tr sc d 220 (25, [l0, l1, some (.int x), l3, l4], [.int i2, .ref k1, .int i0], h) Q = Tr sc d 220 (26, [l0, l1, some (.int x), l3, l4], [.int x, .int i2, .ref k1, .int i0], h) Q := t_iload_n k_220_25 rfl
theorem k_220_26 : lk 220 26 = some (.iload 4, 28, 4, 0, .null) := by decide +kernel
theorem x_220_26 : Tr sc d 220 (26, [l0, l1, l2, l3, some (.int x)], [.int i3, .int i2, .ref k1, .int i0], h) Q = Tr sc d 220 (28, [l0, l1, l2, l3, some (.int x)], [.int x, .int i3, .int i2, .ref k1, .int i0], h) Q := t_iload k_220_26 rfl
theorem k_220_28 : lk 220 28 = some (.invokevirtual 324, 31, 215, 3, .null) := by decide +kernel
theorem x_220_28 : Tr sc (d + 1) 220 (28, [l0, l1, l2, l3, l4], [.int i4, .int i3, .int i2, .ref k1, .int i0], h) Q = (okp h k1 10 = true ∧ Tr sc d 215 (ent0 215 [.ref k1, .int i2, .int i3, .int i4] h) (fun z => Tr sc (d + 1) 220 (31, [l0, l1, l2, l3, l4], z.1.toList ++ [.int i0], z.2) Q)) := t_cv (as := [.int i2, .int i3, .int i4]) (r := [.int i0]) k_220_28 rfl rfl (Nat.le_of_ble_eq_true rfl) (Nat.le_of_ble_eq_true rfl) (Nat.le_of_ble_eq_true rfl)
theorem k_220_31 : lk 220 31 = some (.ifCond .eq 10, 34, 41, 0, .null) := by decide +kernel
theorem x_220_31 : Tr sc d 220 (31, [l0, l1, l2, l3, l4], [.int i1, .int i0], h) Q = if i1 = 0 then Tr sc d 220 (41, [l0, l1, l2, l3, l4], [.int i0], h) Q else Tr sc d 220 (34, [l0, l1, l2, l3, l4], [.int i0], h) Q := t_if k_220_31 rfl
theorem k_220_34 : lk 220 34 = some (.iconst 1, 35, 0, 0, .int 1) := by decide +kernel
theorem x_220_34 : Tr sc d 220 (34, [l0, l1, l2, l3, l4], [.int i0], h) Q = Tr sc d 220 (35, [l0, l1, l2, l3, l4], [.int 1, .int i0], h) Q := t_go k_220_34 rfl
theorem k_220_35 : lk 220 35 = some (.iload 4, 37, 4, 0, .null) := by decide +kernel
theorem x_220_35 : Tr sc d 220 (35, [l0, l1, l2, l3, some (.int x)], [.int i1, .int i0], h) Q = Tr sc d 220 (37, [l0, l1, l2, l3, some (.int x)], [.int x, .int i1, .int i0], h) Q := t_iload k_220_35 rfl
theorem k_220_37 : lk 220 37 = some (.ishl, 38, 0, 0, .null) := by decide +kernel
theorem x_220_37 : Tr sc d 220 (37, [l0, l1, l2, l3, l4], [.int i2, .int i1, .int i0], h) Q = Tr sc d 220 (38, [l0, l1, l2, l3, l4], [.int (i1 <<< (i2 &&& 31)), .int i0], h) Q := t_go k_220_37 rfl
theorem k_220_38 : lk 220 38 = some (.goto 4, 41, 42, 0, .null) := by decide +kernel
theorem x_220_38 : Tr sc d 220 (38, [l0, l1, l2, l3, l4], [.int i1, .int i0], h) Q = Tr sc d 220 (42, [l0, l1, l2, l3, l4], [.int i1, .int i0], h) Q := t_go k_220_38 rfl
theorem k_220_41 : lk 220 41 = some (.iconst 0, 42, 0, 0, .int 0) := by decide +kernel
theorem x_220_41 : Tr sc d 220 (41, [l0, l1, l2, l3, l4], [.int i0], h) Q = Tr sc d 220 (42, [l0, l1, l2, l3, l4], [.int 0, .int i0], h) Q := t_go k_220_41 rfl
theorem k_220_42 : lk 220 42 = some (.ior, 43, 0, 0, .null) := by decide +kernel
theorem x_220_42 : Tr sc d 220 (42, [l0, l1, l2, l3, l4], [.int i1, .int i0], h) Q = Tr sc d 220 (43, [l0, l1, l2, l3, l4], [.int (i0 ||| i1)], h) Q := t_go k_220_42 rfl
theorem k_220_43 : lk 220 43 = some (.istore_n 3, 44, 3, 0, .null) := by decide +kernel
theorem x_220_43 : Tr sc d 220 (43, [l0, l1, l2, l3, l4], [.int i0], h) Q = Tr sc d 220 (44, [l0, l1, cl2 l2, some (.int i0), l4], [], h) Q := t_istore_n k_220_43 (Nat.le_of_ble_eq_true rfl)
theorem k_220_44 : lk 220 44 = some (.iinc 4 1, 47, 4, 0, .int 1) := by decide +kernel
theorem x_220_44 : Tr sc d 220 (44, [l0, l1, l2, l3, some (.int x)], [], h) Q = Tr sc d 220 (47, [l0, l1, l2, cl2 l3, some (.int (x + 1))], [], h) Q := t_inc k_220_44 rfl (Nat.le_of_ble_eq_true rfl)
theorem k_220_47 : lk 220 47 = some (.goto (-42), 50, 5, 0, .null) := by decide +kernel
theorem x_220_47 : Tr sc d 220 (47, [l0, l1, l2, l3, l4], [], h) Q = Tr sc d 220 (5, [l0, l1, l2, l3, l4], [], h) Q := t_go k_220_47 rfl
theorem k_220_50 : lk 220 50 = some (.iload_n 3, 51, 3, 0, .null) := by decide +kernel
theorem x_220_50 : Tr sc d 220 (50, [l0, l1, l2, some (.int x), l4], [], h) Q = Tr sc d 220 (51, [l0, l1, l2, some (.int x), l4], [.int x], h) Q := t_iload_n k_220_50 rfl
theorem k_220_51 : lk 220 51 = some (.ireturn, 52, 0, 0, .null) := by decide +kernel
theorem x_220_51 : Tr sc d 220 (51, [l0, l1, l2, l3, l4], [.int i0], h) Q = Q (some (.int i0), h) := t_ret k_220_51 (by rw [r_220]; rfl)
theorem e_220 : Tr sc d 220 (ent0 220 [.ref k0, .int i1, .int i2] h) Q = Tr sc d 220 (0, [some (.ref k0), some (.int i1), some (.int i2), none, none], [], h) Q := by
  have e : mL 220 = 5 := by decide +kernel
  unfold ent0
  rw [e]
  rfl
theorem r_221 : mR 221 = some .int := by decide +kernel
theorem k_221_0 : lk 221 0 = some (.aload_n 0, 1, 0, 0, .null) := by decide +kernel
theorem x_221_0 : Tr sc d 221 (0, [some (.ref xk), l1, l2, l3], [], h) Q = Tr sc d 221 (1, [some (.ref xk), l1, l2, l3], [.ref xk], h) Q := t_aload_n k_221_0 rfl
theorem k_221_1 : lk 221 1 = some (.iload_n 1, 2, 1, 0, .null) := by decide +kernel
theorem x_221_1 : Tr sc d 221 (1, [l0, some (.int x), l2, l3], [.ref k0], h) Q = Tr sc d 221 (2, [l0, some (.int x), l2, l3], [.int x, .ref k0], h) Q := t_iload_n k_221_1 rfl
theorem k_221_2 : lk 221 2 = some (.invokevirtual 327, 5, 217, 1, .null) := by decide +kernel
theorem x_221_2 : Tr sc (d + 1) 221 (2, [l0, l1, l2, l3], [.int i1, .ref k0], h) Q = (okp h k0 10 = true ∧ Tr sc d 217 (ent0 217 [.ref k0, .int i1] h) (fun z => Tr sc (d + 1) 221 (5, [l0, l1, l2, l3], z.1.toList ++ [], z.2) Q)) := t_cv (as := [.int i1]) (r := []) k_221_2 rfl rfl (Nat.le_of_ble_eq_true rfl) (Nat.le_of_ble_eq_true rfl) (Nat.le_of_ble_eq_true rfl)
theorem k_221_5 : lk 221 5 = some (.istore_n 3, 6, 3, 0, .null) := by decide +kernel
theorem x_221_5 : Tr sc d 221 (5, [l0, l1, l2, l3], [.int i0], h) Q = Tr sc d 221 (6, [l0, l1, cl2 l2, some (.int i0)], [], h) Q := t_istore_n k_221_5 (Nat.le_of_ble_eq_true rfl)
theorem k_221_6 : lk 221 6 = some (.iload_n 3, 7, 3, 0, .null) := by decide +kernel
theorem x_221_6 : Tr sc d 221 (6, [l0, l1, l2, some (.int x)], [], h) Q = Tr sc d 221 (7, [l0, l1, l2, some (.int x)], [.int x], h) Q := t_iload_n k_221_6 rfl
theorem k_221_7 : lk 221 7 = some (.ifCond .ge 5, 10, 12, 0, .null) := by decide +kernel
theorem x_221_7 : Tr sc d 221 (7, [l0, l1, l2, l3], [.int i0], h) Q = if 0 ≤ i0 then Tr sc d 221 (12, [l0, l1, l2, l3], [], h) Q else Tr sc d 221 (10, [l0, l1, l2, l3], [], h) Q := t_if k_221_7 rfl
theorem k_221_10 : lk 221 10 = some (.iload_n 3, 11, 3, 0, .null) := by decide +kernel
theorem x_221_10 : Tr sc d 221 (10, [l0, l1, l2, some (.int x)], [], h) Q = Tr sc d 221 (11, [l0, l1, l2, some (.int x)], [.int x], h) Q := t_iload_n k_221_10 rfl
theorem k_221_11 : lk 221 11 = some (.ireturn, 12, 0, 0, .null) := by decide +kernel
theorem x_221_11 : Tr sc d 221 (11, [l0, l1, l2, l3], [.int i0], h) Q = Q (some (.int i0), h) := t_ret k_221_11 (by rw [r_221]; rfl)
theorem k_221_12 : lk 221 12 = some (.iload_n 2, 13, 2, 0, .null) := by decide +kernel
theorem x_221_12 : Tr sc d 221 (12, [l0, l1, some (.int x), l3], [], h) Q = Tr sc d 221 (13, [l0, l1, some (.int x), l3], [.int x], h) Q := t_iload_n k_221_12 rfl
theorem k_221_13 : lk 221 13 = some (.iconst 0, 14, 0, 0, .int 0) := by decide +kernel
theorem x_221_13 : Tr sc d 221 (13, [l0, l1, l2, l3], [.int i0], h) Q = Tr sc d 221 (14, [l0, l1, l2, l3], [.int 0, .int i0], h) Q := t_go k_221_13 rfl
theorem k_221_14 : lk 221 14 = some (.aload_n 0, 15, 0, 0, .null) := by decide +kernel
theorem x_221_14 : Tr sc d 221 (14, [some (.ref xk), l1, l2, l3], [.int i1, .int i0], h) Q = Tr sc d 221 (15, [some (.ref xk), l1, l2, l3], [.ref xk, .int i1, .int i0], h) Q := t_aload_n k_221_14 rfl
theorem k_221_15 : lk 221 15 = some (.getfield 41, 18, 10, 18, .null) := by decide +kernel
theorem x_221_15 : Tr sc d 221 (15, [l0, l1, l2, l3], [.ref k2, .int i1, .int i0], h) Q = (okp h k2 10 = true ∧ ∃ q, hR h k2 18 = some q ∧ Tr sc d 221 (18, [l0, l1, l2, l3], [.ref q, .int i1, .int i0], h) Q) := t_getr k_221_15
theorem k_221_18 : lk 221 18 = some (.iload_n 1, 19, 1, 0, .null) := by decide +kernel
theorem x_221_18 : Tr sc d 221 (18, [l0, some (.int x), l2, l3], [.ref k2, .int i1, .int i0], h) Q = Tr sc d 221 (19, [l0, some (.int x), l2, l3], [.int x, .ref k2, .int i1, .int i0], h) Q := t_iload_n k_221_18 rfl
theorem k_221_19 : lk 221 19 = some (.iaload, 20, 0, 0, .null) := by decide +kernel
theorem x_221_19 : Tr sc d 221 (19, [l0, l1, l2, l3], [.int i3, .ref k2, .int i1, .int i0], h) Q = (iOk sc h k2 i3 ∧ Tr sc d 221 (20, [l0, l1, l2, l3], [.int (iRd sc h k2 i3), .int i1, .int i0], h) Q) := t_iald k_221_19
theorem k_221_20 : lk 221 20 = some (.iconst 1, 21, 0, 0, .int 1) := by decide +kernel
theorem x_221_20 : Tr sc d 221 (20, [l0, l1, l2, l3], [.int i2, .int i1, .int i0], h) Q = Tr sc d 221 (21, [l0, l1, l2, l3], [.int 1, .int i2, .int i1, .int i0], h) Q := t_go k_221_20 rfl
theorem k_221_21 : lk 221 21 = some (.isub, 22, 0, 0, .null) := by decide +kernel
theorem x_221_21 : Tr sc d 221 (21, [l0, l1, l2, l3], [.int i3, .int i2, .int i1, .int i0], h) Q = Tr sc d 221 (22, [l0, l1, l2, l3], [.int (i2 - i3), .int i1, .int i0], h) Q := t_go k_221_21 rfl
theorem k_221_22 : lk 221 22 = some (.invokestatic 144, 25, 156, 3, .null) := by decide +kernel
theorem x_221_22 : Tr sc (d + 1) 221 (22, [l0, l1, l2, l3], [.int i2, .int i1, .int i0], h) Q = Tr sc d 156 (ent0 156 [.int i0, .int i1, .int i2] h) (fun z => Tr sc (d + 1) 221 (25, [l0, l1, l2, l3], z.1.toList ++ [], z.2) Q) := t_cs (as := [.int i0, .int i1, .int i2]) (r := []) k_221_22 (by decide) rfl rfl (Nat.le_of_ble_eq_true rfl) (Nat.le_of_ble_eq_true rfl)
theorem k_221_25 : lk 221 25 = some (.ifCond .eq 12, 28, 37, 0, .null) := by decide +kernel
theorem x_221_25 : Tr sc d 221 (25, [l0, l1, l2, l3], [.int i0], h) Q = if i0 = 0 then Tr sc d 221 (37, [l0, l1, l2, l3], [], h) Q else Tr sc d 221 (28, [l0, l1, l2, l3], [], h) Q := t_if k_221_25 rfl
theorem k_221_28 : lk 221 28 = some (.aload_n 0, 29, 0, 0, .null) := by decide +kernel
theorem x_221_28 : Tr sc d 221 (28, [some (.ref xk), l1, l2, l3], [], h) Q = Tr sc d 221 (29, [some (.ref xk), l1, l2, l3], [.ref xk], h) Q := t_aload_n k_221_28 rfl
theorem k_221_29 : lk 221 29 = some (.iload_n 1, 30, 1, 0, .null) := by decide +kernel
theorem x_221_29 : Tr sc d 221 (29, [l0, some (.int x), l2, l3], [.ref k0], h) Q = Tr sc d 221 (30, [l0, some (.int x), l2, l3], [.int x, .ref k0], h) Q := t_iload_n k_221_29 rfl
theorem k_221_30 : lk 221 30 = some (.iload_n 2, 31, 2, 0, .null) := by decide +kernel
theorem x_221_30 : Tr sc d 221 (30, [l0, l1, some (.int x), l3], [.int i1, .ref k0], h) Q = Tr sc d 221 (31, [l0, l1, some (.int x), l3], [.int x, .int i1, .ref k0], h) Q := t_iload_n k_221_30 rfl
theorem k_221_31 : lk 221 31 = some (.invokevirtual 330, 34, 220, 2, .null) := by decide +kernel
theorem x_221_31 : Tr sc (d + 1) 221 (31, [l0, l1, l2, l3], [.int i2, .int i1, .ref k0], h) Q = (okp h k0 10 = true ∧ Tr sc d 220 (ent0 220 [.ref k0, .int i1, .int i2] h) (fun z => Tr sc (d + 1) 221 (34, [l0, l1, l2, l3], z.1.toList ++ [], z.2) Q)) := t_cv (as := [.int i1, .int i2]) (r := []) k_221_31 rfl rfl (Nat.le_of_ble_eq_true rfl) (Nat.le_of_ble_eq_true rfl) (Nat.le_of_ble_eq_true rfl)
theorem k_221_34 : lk 221 34 = some (.goto 8, 37, 42, 0, .null) := by decide +kernel
theorem x_221_34 : Tr sc d 221 (34, [l0, l1, l2, l3], [.int i0], h) Q = Tr sc d 221 (42, [l0, l1, l2, l3], [.int i0], h) Q := t_go k_221_34 rfl
theorem k_221_37 : lk 221 37 = some (.aload_n 0, 38, 0, 0, .null) := by decide +kernel
theorem x_221_37 : Tr sc d 221 (37, [some (.ref xk), l1, l2, l3], [], h) Q = Tr sc d 221 (38, [some (.ref xk), l1, l2, l3], [.ref xk], h) Q := t_aload_n k_221_37 rfl
theorem k_221_38 : lk 221 38 = some (.iconst 2, 39, 0, 0, .int 2) := by decide +kernel
theorem x_221_38 : Tr sc d 221 (38, [l0, l1, l2, l3], [.ref k0], h) Q = Tr sc d 221 (39, [l0, l1, l2, l3], [.int 2, .ref k0], h) Q := t_go k_221_38 rfl
theorem k_221_39 : lk 221 39 = some (.invokevirtual 152, 42, 157, 1, .null) := by decide +kernel
theorem x_221_39 : Tr sc (d + 1) 221 (39, [l0, l1, l2, l3], [.int i1, .ref k0], h) Q = (okp h k0 10 = true ∧ Tr sc d 157 (ent0 157 [.ref k0, .int i1] h) (fun z => Tr sc (d + 1) 221 (42, [l0, l1, l2, l3], z.1.toList ++ [], z.2) Q)) := t_cv (as := [.int i1]) (r := []) k_221_39 rfl rfl (Nat.le_of_ble_eq_true rfl) (Nat.le_of_ble_eq_true rfl) (Nat.le_of_ble_eq_true rfl)
theorem k_221_42 : lk 221 42 = some (.ireturn, 43, 0, 0, .null) := by decide +kernel
theorem x_221_42 : Tr sc d 221 (42, [l0, l1, l2, l3], [.int i0], h) Q = Q (some (.int i0), h) := t_ret k_221_42 (by rw [r_221]; rfl)
theorem e_221 : Tr sc d 221 (ent0 221 [.ref k0, .int i1, .int i2] h) Q = Tr sc d 221 (0, [some (.ref k0), some (.int i1), some (.int i2), none], [], h) Q := by
  have e : mL 221 = 4 := by decide +kernel
  unfold ent0
  rw [e]
  rfl
theorem r_222 : mR 222 = some .int := by decide +kernel
theorem k_222_0 : lk 222 0 = some (.aload_n 0, 1, 0, 0, .null) := by decide +kernel
theorem x_222_0 : Tr sc d 222 (0, [some (.ref xk), l1, l2, l3, l4, l5], [], h) Q = Tr sc d 222 (1, [some (.ref xk), l1, l2, l3, l4, l5], [.ref xk], h) Q := t_aload_n k_222_0 rfl
theorem k_222_1 : lk 222 1 = some (.iload_n 1, 2, 1, 0, .null) := by decide +kernel
theorem x_222_1 : Tr sc d 222 (1, [l0, some (.int x), l2, l3, l4, l5], [.ref k0], h) Q = Tr sc d 222 (2, [l0, some (.int x), l2, l3, l4, l5], [.int x, .ref k0], h) Q := t_iload_n k_222_1 rfl
theorem k_222_2 : lk 222 2 = some (.invokevirtual 327, 5, 217, 1, .null) := by decide +kernel
theorem x_222_2 : Tr sc (d + 1) 222 (2, [l0, l1, l2, l3, l4, l5], [.int i1, .ref k0], h) Q = (okp h k0 10 = true ∧ Tr sc d 217 (ent0 217 [.ref k0, .int i1] h) (fun z => Tr sc (d + 1) 222 (5, [l0, l1, l2, l3, l4, l5], z.1.toList ++ [], z.2) Q)) := t_cv (as := [.int i1]) (r := []) k_222_2 rfl rfl (Nat.le_of_ble_eq_true rfl) (Nat.le_of_ble_eq_true rfl) (Nat.le_of_ble_eq_true rfl)
theorem k_222_5 : lk 222 5 = some (.istore_n 2, 6, 2, 0, .null) := by decide +kernel
theorem x_222_5 : Tr sc d 222 (5, [l0, l1, l2, l3, l4, l5], [.int i0], h) Q = Tr sc d 222 (6, [l0, cl2 l1, some (.int i0), l3, l4, l5], [], h) Q := t_istore_n k_222_5 (Nat.le_of_ble_eq_true rfl)
theorem k_222_6 : lk 222 6 = some (.iload_n 2, 7, 2, 0, .null) := by decide +kernel
theorem x_222_6 : Tr sc d 222 (6, [l0, l1, some (.int x), l3, l4, l5], [], h) Q = Tr sc d 222 (7, [l0, l1, some (.int x), l3, l4, l5], [.int x], h) Q := t_iload_n k_222_6 rfl
theorem k_222_7 : lk 222 7 = some (.ifCond .ge 5, 10, 12, 0, .null) := by decide +kernel
theorem x_222_7 : Tr sc d 222 (7, [l0, l1, l2, l3, l4, l5], [.int i0], h) Q = if 0 ≤ i0 then Tr sc d 222 (12, [l0, l1, l2, l3, l4, l5], [], h) Q else Tr sc d 222 (10, [l0, l1, l2, l3, l4, l5], [], h) Q := t_if k_222_7 rfl
theorem k_222_10 : lk 222 10 = some (.iload_n 2, 11, 2, 0, .null) := by decide +kernel
theorem x_222_10 : Tr sc d 222 (10, [l0, l1, some (.int x), l3, l4, l5], [], h) Q = Tr sc d 222 (11, [l0, l1, some (.int x), l3, l4, l5], [.int x], h) Q := t_iload_n k_222_10 rfl
theorem k_222_11 : lk 222 11 = some (.ireturn, 12, 0, 0, .null) := by decide +kernel
theorem x_222_11 : Tr sc d 222 (11, [l0, l1, l2, l3, l4, l5], [.int i0], h) Q = Q (some (.int i0), h) := t_ret k_222_11 (by rw [r_222]; rfl)
theorem k_222_12 : lk 222 12 = some (.iconst 1, 13, 0, 0, .int 1) := by decide +kernel
theorem x_222_12 : Tr sc d 222 (12, [l0, l1, l2, l3, l4, l5], [], h) Q = Tr sc d 222 (13, [l0, l1, l2, l3, l4, l5], [.int 1], h) Q := t_go k_222_12 rfl
theorem k_222_13 : lk 222 13 = some (.istore_n 3, 14, 3, 0, .null) := by decide +kernel
theorem x_222_13 : Tr sc d 222 (13, [l0, l1, l2, l3, l4, l5], [.int i0], h) Q = Tr sc d 222 (14, [l0, l1, cl2 l2, some (.int i0), l4, l5], [], h) Q := t_istore_n k_222_13 (Nat.le_of_ble_eq_true rfl)
theorem k_222_14 : lk 222 14 = some (.iconst 0, 15, 0, 0, .int 0) := by decide +kernel
theorem x_222_14 : Tr sc d 222 (14, [l0, l1, l2, l3, l4, l5], [], h) Q = Tr sc d 222 (15, [l0, l1, l2, l3, l4, l5], [.int 0], h) Q := t_go k_222_14 rfl
theorem k_222_15 : lk 222 15 = some (.istore 4, 17, 4, 0, .null) := by decide +kernel
theorem x_222_15 : Tr sc d 222 (15, [l0, l1, l2, l3, l4, l5], [.int i0], h) Q = Tr sc d 222 (17, [l0, l1, l2, cl2 l3, some (.int i0), l5], [], h) Q := t_istore k_222_15 (Nat.le_of_ble_eq_true rfl)
theorem k_222_17 : lk 222 17 = some (.iload 4, 19, 4, 0, .null) := by decide +kernel
theorem x_222_17 : Tr sc d 222 (17, [l0, l1, l2, l3, some (.int x), l5], [], h) Q = Tr sc d 222 (19, [l0, l1, l2, l3, some (.int x), l5], [.int x], h) Q := t_iload k_222_17 rfl
theorem k_222_19 : lk 222 19 = some (.aload_n 0, 20, 0, 0, .null) := by decide +kernel
theorem x_222_19 : Tr sc d 222 (19, [some (.ref xk), l1, l2, l3, l4, l5], [.int i0], h) Q = Tr sc d 222 (20, [some (.ref xk), l1, l2, l3, l4, l5], [.ref xk, .int i0], h) Q := t_aload_n k_222_19 rfl
theorem k_222_20 : lk 222 20 = some (.getfield 41, 23, 10, 18, .null) := by decide +kernel
theorem x_222_20 : Tr sc d 222 (20, [l0, l1, l2, l3, l4, l5], [.ref k1, .int i0], h) Q = (okp h k1 10 = true ∧ ∃ q, hR h k1 18 = some q ∧ Tr sc d 222 (23, [l0, l1, l2, l3, l4, l5], [.ref q, .int i0], h) Q) := t_getr k_222_20
theorem k_222_23 : lk 222 23 = some (.iload_n 1, 24, 1, 0, .null) := by decide +kernel
theorem x_222_23 : Tr sc d 222 (23, [l0, some (.int x), l2, l3, l4, l5], [.ref k1, .int i0], h) Q = Tr sc d 222 (24, [l0, some (.int x), l2, l3, l4, l5], [.int x, .ref k1, .int i0], h) Q := t_iload_n k_222_23 rfl
theorem k_222_24 : lk 222 24 = some (.iaload, 25, 0, 0, .null) := by decide +kernel
theorem x_222_24 : Tr sc d 222 (24, [l0, l1, l2, l3, l4, l5], [.int i2, .ref k1, .int i0], h) Q = (iOk sc h k1 i2 ∧ Tr sc d 222 (25, [l0, l1, l2, l3, l4, l5], [.int (iRd sc h k1 i2), .int i0], h) Q) := t_iald k_222_24
theorem k_222_25 : lk 222 25 = some (.if_icmp .ge 53, 28, 78, 0, .null) := by decide +kernel
theorem x_222_25 : Tr sc d 222 (25, [l0, l1, l2, l3, l4, l5], [.int i1, .int i0], h) Q = if i1 ≤ i0 then Tr sc d 222 (78, [l0, l1, l2, l3, l4, l5], [], h) Q else Tr sc d 222 (28, [l0, l1, l2, l3, l4, l5], [], h) Q := t_if k_222_25 rfl
theorem k_222_28 : lk 222 28 = some (.iconst 0, 29, 0, 0, .int 0) := by decide +kernel
theorem x_222_28 : Tr sc d 222 (28, [l0, l1, l2, l3, l4, l5], [], h) Q = Tr sc d 222 (29, [l0, l1, l2, l3, l4, l5], [.int 0], h) Q := t_go k_222_28 rfl
theorem k_222_29 : lk 222 29 = some (.istore 5, 31, 5, 0, .null) := by decide +kernel
theorem x_222_29 : Tr sc d 222 (29, [l0, l1, l2, l3, l4, l5], [.int i0], h) Q = Tr sc d 222 (31, [l0, l1, l2, l3, cl2 l4, some (.int i0)], [], h) Q := t_istore k_222_29 (Nat.le_of_ble_eq_true rfl)
theorem k_222_31 : lk 222 31 = some (.iload 5, 33, 5, 0, .null) := by decide +kernel
theorem x_222_31 : Tr sc d 222 (31, [l0, l1, l2, l3, l4, some (.int x)], [], h) Q = Tr sc d 222 (33, [l0, l1, l2, l3, l4, some (.int x)], [.int x], h) Q := t_iload k_222_31 rfl
theorem k_222_33 : lk 222 33 = some (.aload_n 0, 34, 0, 0, .null) := by decide +kernel
theorem x_222_33 : Tr sc d 222 (33, [some (.ref xk), l1, l2, l3, l4, l5], [.int i0], h) Q = Tr sc d 222 (34, [some (.ref xk), l1, l2, l3, l4, l5], [.ref xk, .int i0], h) Q := t_aload_n k_222_33 rfl
theorem k_222_34 : lk 222 34 = some (.getfield 41, 37, 10, 18, .null) := by decide +kernel
theorem x_222_34 : Tr sc d 222 (34, [l0, l1, l2, l3, l4, l5], [.ref k1, .int i0], h) Q = (okp h k1 10 = true ∧ ∃ q, hR h k1 18 = some q ∧ Tr sc d 222 (37, [l0, l1, l2, l3, l4, l5], [.ref q, .int i0], h) Q) := t_getr k_222_34
theorem k_222_37 : lk 222 37 = some (.iload_n 1, 38, 1, 0, .null) := by decide +kernel
theorem x_222_37 : Tr sc d 222 (37, [l0, some (.int x), l2, l3, l4, l5], [.ref k1, .int i0], h) Q = Tr sc d 222 (38, [l0, some (.int x), l2, l3, l4, l5], [.int x, .ref k1, .int i0], h) Q := t_iload_n k_222_37 rfl
theorem k_222_38 : lk 222 38 = some (.iaload, 39, 0, 0, .null) := by decide +kernel
theorem x_222_38 : Tr sc d 222 (38, [l0, l1, l2, l3, l4, l5], [.int i2, .ref k1, .int i0], h) Q = (iOk sc h k1 i2 ∧ Tr sc d 222 (39, [l0, l1, l2, l3, l4, l5], [.int (iRd sc h k1 i2), .int i0], h) Q) := t_iald k_222_38
theorem k_222_39 : lk 222 39 = some (.if_icmp .ge 33, 42, 72, 0, .null) := by decide +kernel
theorem x_222_39 : Tr sc d 222 (39, [l0, l1, l2, l3, l4, l5], [.int i1, .int i0], h) Q = if i1 ≤ i0 then Tr sc d 222 (72, [l0, l1, l2, l3, l4, l5], [], h) Q else Tr sc d 222 (42, [l0, l1, l2, l3, l4, l5], [], h) Q := t_if k_222_39 rfl
theorem k_222_42 : lk 222 42 = some (.iload_n 3, 43, 3, 0, .null) := by decide +kernel
theorem x_222_42 : Tr sc d 222 (42, [l0, l1, l2, some (.int x), l4, l5], [], h) Q = Tr sc d 222 (43, [l0, l1, l2, some (.int x), l4, l5], [.int x], h) Q := t_iload_n k_222_42 rfl
theorem k_222_43 : lk 222 43 = some (.iload_n 3, 44, 3, 0, .null) := by decide +kernel
theorem x_222_43 : Tr sc d 222 (43, [l0, l1, l2, some (.int x), l4, l5], [.int i0], h) Q = Tr sc d 222 (44, [l0, l1, l2, some (.int x), l4, l5], [.int x, .int i0], h) Q := t_iload_n k_222_43 rfl
theorem k_222_44 : lk 222 44 = some (.iload 5, 46, 5, 0, .null) := by decide +kernel
theorem x_222_44 : Tr sc d 222 (44, [l0, l1, l2, l3, l4, some (.int x)], [.int i1, .int i0], h) Q = Tr sc d 222 (46, [l0, l1, l2, l3, l4, some (.int x)], [.int x, .int i1, .int i0], h) Q := t_iload k_222_44 rfl
theorem k_222_46 : lk 222 46 = some (.ishr, 47, 0, 0, .null) := by decide +kernel
theorem x_222_46 : Tr sc d 222 (46, [l0, l1, l2, l3, l4, l5], [.int i2, .int i1, .int i0], h) Q = Tr sc d 222 (47, [l0, l1, l2, l3, l4, l5], [.int (i1 >>> (i2 &&& 31)), .int i0], h) Q := t_go k_222_46 rfl
theorem k_222_47 : lk 222 47 = some (.iconst 1, 48, 0, 0, .int 1) := by decide +kernel
theorem x_222_47 : Tr sc d 222 (47, [l0, l1, l2, l3, l4, l5], [.int i1, .int i0], h) Q = Tr sc d 222 (48, [l0, l1, l2, l3, l4, l5], [.int 1, .int i1, .int i0], h) Q := t_go k_222_47 rfl
theorem k_222_48 : lk 222 48 = some (.iand, 49, 0, 0, .null) := by decide +kernel
theorem x_222_48 : Tr sc d 222 (48, [l0, l1, l2, l3, l4, l5], [.int i2, .int i1, .int i0], h) Q = Tr sc d 222 (49, [l0, l1, l2, l3, l4, l5], [.int (i1 &&& i2), .int i0], h) Q := t_go k_222_48 rfl
theorem k_222_49 : lk 222 49 = some (.iconst 1, 50, 0, 0, .int 1) := by decide +kernel
theorem x_222_49 : Tr sc d 222 (49, [l0, l1, l2, l3, l4, l5], [.int i1, .int i0], h) Q = Tr sc d 222 (50, [l0, l1, l2, l3, l4, l5], [.int 1, .int i1, .int i0], h) Q := t_go k_222_49 rfl
theorem k_222_50 : lk 222 50 = some (.if_icmp .ne 13, 53, 63, 0, .null) := by decide +kernel
theorem x_222_50 : Tr sc d 222 (50, [l0, l1, l2, l3, l4, l5], [.int i2, .int i1, .int i0], h) Q = if i1 = i2 then Tr sc d 222 (53, [l0, l1, l2, l3, l4, l5], [.int i0], h) Q else Tr sc d 222 (63, [l0, l1, l2, l3, l4, l5], [.int i0], h) Q := t_if k_222_50 rfl
theorem k_222_53 : lk 222 53 = some (.aload_n 0, 54, 0, 0, .null) := by decide +kernel
theorem x_222_53 : Tr sc d 222 (53, [some (.ref xk), l1, l2, l3, l4, l5], [.int i0], h) Q = Tr sc d 222 (54, [some (.ref xk), l1, l2, l3, l4, l5], [.ref xk, .int i0], h) Q := t_aload_n k_222_53 rfl
theorem k_222_54 : lk 222 54 = some (.iload_n 1, 55, 1, 0, .null) := by decide +kernel
theorem x_222_54 : Tr sc d 222 (54, [l0, some (.int x), l2, l3, l4, l5], [.ref k1, .int i0], h) Q = Tr sc d 222 (55, [l0, some (.int x), l2, l3, l4, l5], [.int x, .ref k1, .int i0], h) Q := t_iload_n k_222_54 rfl
theorem k_222_55 : lk 222 55 = some (.iload 5, 57, 5, 0, .null) := by decide +kernel
theorem x_222_55 : Tr sc d 222 (55, [l0, l1, l2, l3, l4, some (.int x)], [.int i2, .ref k1, .int i0], h) Q = Tr sc d 222 (57, [l0, l1, l2, l3, l4, some (.int x)], [.int x, .int i2, .ref k1, .int i0], h) Q := t_iload k_222_55 rfl
theorem k_222_57 : lk 222 57 = some (.invokevirtual 330, 60, 220, 2, .null) := by decide +kernel
theorem x_222_57 : Tr sc (d + 1) 222 (57, [l0, l1, l2, l3, l4, l5], [.int i3, .int i2, .ref k1, .int i0], h) Q = (okp h k1 10 = true ∧ Tr sc d 220 (ent0 220 [.ref k1, .int i2, .int i3] h) (fun z => Tr sc (d + 1) 222 (60, [l0, l1, l2, l3, l4, l5], z.1.toList ++ [.int i0], z.2) Q)) := t_cv (as := [.int i2, .int i3]) (r := [.int i0]) k_222_57 rfl rfl (Nat.le_of_ble_eq_true rfl) (Nat.le_of_ble_eq_true rfl) (Nat.le_of_ble_eq_true rfl)
theorem k_222_60 : lk 222 60 = some (.goto 4, 63, 64, 0, .null) := by decide +kernel
theorem x_222_60 : Tr sc d 222 (60, [l0, l1, l2, l3, l4, l5], [.int i1, .int i0], h) Q = Tr sc d 222 (64, [l0, l1, l2, l3, l4, l5], [.int i1, .int i0], h) Q := t_go k_222_60 rfl
theorem k_222_63 : lk 222 63 = some (.iconst 0, 64, 0, 0, .int 0) := by decide +kernel
theorem x_222_63 : Tr sc d 222 (63, [l0, l1, l2, l3, l4, l5], [.int i0], h) Q = Tr sc d 222 (64, [l0, l1, l2, l3, l4, l5], [.int 0, .int i0], h) Q := t_go k_222_63 rfl
theorem k_222_64 : lk 222 64 = some (.ior, 65, 0, 0, .null) := by decide +kernel
theorem x_222_64 : Tr sc d 222 (64, [l0, l1, l2, l3, l4, l5], [.int i1, .int i0], h) Q = Tr sc d 222 (65, [l0, l1, l2, l3, l4, l5], [.int (i0 ||| i1)], h) Q := t_go k_222_64 rfl
theorem k_222_65 : lk 222 65 = some (.istore_n 3, 66, 3, 0, .null) := by decide +kernel
theorem x_222_65 : Tr sc d 222 (65, [l0, l1, l2, l3, l4, l5], [.int i0], h) Q = Tr sc d 222 (66, [l0, l1, cl2 l2, some (.int i0), l4, l5], [], h) Q := t_istore_n k_222_65 (Nat.le_of_ble_eq_true rfl)
theorem k_222_66 : lk 222 66 = some (.iinc 5 1, 69, 5, 0, .int 1) := by decide +kernel
theorem x_222_66 : Tr sc d 222 (66, [l0, l1, l2, l3, l4, some (.int x)], [], h) Q = Tr sc d 222 (69, [l0, l1, l2, l3, cl2 l4, some (.int (x + 1))], [], h) Q := t_inc k_222_66 rfl (Nat.le_of_ble_eq_true rfl)
theorem k_222_69 : lk 222 69 = some (.goto (-38), 72, 31, 0, .null) := by decide +kernel
theorem x_222_69 : Tr sc d 222 (69, [l0, l1, l2, l3, l4, l5], [], h) Q = Tr sc d 222 (31, [l0, l1, l2, l3, l4, l5], [], h) Q := t_go k_222_69 rfl
theorem k_222_72 : lk 222 72 = some (.iinc 4 1, 75, 4, 0, .int 1) := by decide +kernel
theorem x_222_72 : Tr sc d 222 (72, [l0, l1, l2, l3, some (.int x), l5], [], h) Q = Tr sc d 222 (75, [l0, l1, l2, cl2 l3, some (.int (x + 1)), l5], [], h) Q := t_inc k_222_72 rfl (Nat.le_of_ble_eq_true rfl)
theorem k_222_75 : lk 222 75 = some (.goto (-58), 78, 17, 0, .null) := by decide +kernel
theorem x_222_75 : Tr sc d 222 (75, [l0, l1, l2, l3, l4, l5], [], h) Q = Tr sc d 222 (17, [l0, l1, l2, l3, l4, l5], [], h) Q := t_go k_222_75 rfl
theorem k_222_78 : lk 222 78 = some (.iload_n 3, 79, 3, 0, .null) := by decide +kernel
theorem x_222_78 : Tr sc d 222 (78, [l0, l1, l2, some (.int x), l4, l5], [], h) Q = Tr sc d 222 (79, [l0, l1, l2, some (.int x), l4, l5], [.int x], h) Q := t_iload_n k_222_78 rfl
theorem k_222_79 : lk 222 79 = some (.iconst 1, 80, 0, 0, .int 1) := by decide +kernel
theorem x_222_79 : Tr sc d 222 (79, [l0, l1, l2, l3, l4, l5], [.int i0], h) Q = Tr sc d 222 (80, [l0, l1, l2, l3, l4, l5], [.int 1, .int i0], h) Q := t_go k_222_79 rfl
theorem k_222_80 : lk 222 80 = some (.aload_n 0, 81, 0, 0, .null) := by decide +kernel
theorem x_222_80 : Tr sc d 222 (80, [some (.ref xk), l1, l2, l3, l4, l5], [.int i1, .int i0], h) Q = Tr sc d 222 (81, [some (.ref xk), l1, l2, l3, l4, l5], [.ref xk, .int i1, .int i0], h) Q := t_aload_n k_222_80 rfl
theorem k_222_81 : lk 222 81 = some (.getfield 41, 84, 10, 18, .null) := by decide +kernel
theorem x_222_81 : Tr sc d 222 (81, [l0, l1, l2, l3, l4, l5], [.ref k2, .int i1, .int i0], h) Q = (okp h k2 10 = true ∧ ∃ q, hR h k2 18 = some q ∧ Tr sc d 222 (84, [l0, l1, l2, l3, l4, l5], [.ref q, .int i1, .int i0], h) Q) := t_getr k_222_81
theorem k_222_84 : lk 222 84 = some (.iload_n 1, 85, 1, 0, .null) := by decide +kernel
theorem x_222_84 : Tr sc d 222 (84, [l0, some (.int x), l2, l3, l4, l5], [.ref k2, .int i1, .int i0], h) Q = Tr sc d 222 (85, [l0, some (.int x), l2, l3, l4, l5], [.int x, .ref k2, .int i1, .int i0], h) Q := t_iload_n k_222_84 rfl
theorem k_222_85 : lk 222 85 = some (.iaload, 86, 0, 0, .null) := by decide +kernel
theorem x_222_85 : Tr sc d 222 (85, [l0, l1, l2, l3, l4, l5], [.int i3, .ref k2, .int i1, .int i0], h) Q = (iOk sc h k2 i3 ∧ Tr sc d 222 (86, [l0, l1, l2, l3, l4, l5], [.int (iRd sc h k2 i3), .int i1, .int i0], h) Q) := t_iald k_222_85
theorem k_222_86 : lk 222 86 = some (.ishl, 87, 0, 0, .null) := by decide +kernel
theorem x_222_86 : Tr sc d 222 (86, [l0, l1, l2, l3, l4, l5], [.int i2, .int i1, .int i0], h) Q = Tr sc d 222 (87, [l0, l1, l2, l3, l4, l5], [.int (i1 <<< (i2 &&& 31)), .int i0], h) Q := t_go k_222_86 rfl
theorem k_222_87 : lk 222 87 = some (.iconst 1, 88, 0, 0, .int 1) := by decide +kernel
theorem x_222_87 : Tr sc d 222 (87, [l0, l1, l2, l3, l4, l5], [.int i1, .int i0], h) Q = Tr sc d 222 (88, [l0, l1, l2, l3, l4, l5], [.int 1, .int i1, .int i0], h) Q := t_go k_222_87 rfl
theorem k_222_88 : lk 222 88 = some (.isub, 89, 0, 0, .null) := by decide +kernel
theorem x_222_88 : Tr sc d 222 (88, [l0, l1, l2, l3, l4, l5], [.int i2, .int i1, .int i0], h) Q = Tr sc d 222 (89, [l0, l1, l2, l3, l4, l5], [.int (i1 - i2), .int i0], h) Q := t_go k_222_88 rfl
theorem k_222_89 : lk 222 89 = some (.if_icmp .ne 7, 92, 96, 0, .null) := by decide +kernel
theorem x_222_89 : Tr sc d 222 (89, [l0, l1, l2, l3, l4, l5], [.int i1, .int i0], h) Q = if i0 = i1 then Tr sc d 222 (92, [l0, l1, l2, l3, l4, l5], [], h) Q else Tr sc d 222 (96, [l0, l1, l2, l3, l4, l5], [], h) Q := t_if k_222_89 rfl
theorem k_222_92 : lk 222 92 = some (.iconst 1, 93, 0, 0, .int 1) := by decide +kernel
theorem x_222_92 : Tr sc d 222 (92, [l0, l1, l2, l3, l4, l5], [], h) Q = Tr sc d 222 (93, [l0, l1, l2, l3, l4, l5], [.int 1], h) Q := t_go k_222_92 rfl
theorem k_222_93 : lk 222 93 = some (.goto 4, 96, 97, 0, .null) := by decide +kernel
theorem x_222_93 : Tr sc d 222 (93, [l0, l1, l2, l3, l4, l5], [.int i0], h) Q = Tr sc d 222 (97, [l0, l1, l2, l3, l4, l5], [.int i0], h) Q := t_go k_222_93 rfl
theorem k_222_96 : lk 222 96 = some (.iconst 0, 97, 0, 0, .int 0) := by decide +kernel
theorem x_222_96 : Tr sc d 222 (96, [l0, l1, l2, l3, l4, l5], [], h) Q = Tr sc d 222 (97, [l0, l1, l2, l3, l4, l5], [.int 0], h) Q := t_go k_222_96 rfl
theorem k_222_97 : lk 222 97 = some (.ireturn, 98, 0, 0, .null) := by decide +kernel
theorem x_222_97 : Tr sc d 222 (97, [l0, l1, l2, l3, l4, l5], [.int i0], h) Q = Q (some (.int i0), h) := t_ret k_222_97 (by rw [r_222]; rfl)
theorem e_222 : Tr sc d 222 (ent0 222 [.ref k0, .int i1] h) Q = Tr sc d 222 (0, [some (.ref k0), some (.int i1), none, none, none, none], [], h) Q := by
  have e : mL 222 = 6 := by decide +kernel
  unfold ent0
  rw [e]
  rfl
theorem r_223 : mR 223 = some .int := by decide +kernel
theorem k_223_0 : lk 223 0 = some (.iconst 0, 1, 0, 0, .int 0) := by decide +kernel
theorem x_223_0 : Tr sc d 223 (0, [l0, l1, l2, l3, l4], [], h) Q = Tr sc d 223 (1, [l0, l1, l2, l3, l4], [.int 0], h) Q := t_go k_223_0 rfl
theorem k_223_1 : lk 223 1 = some (.istore_n 1, 2, 1, 0, .null) := by decide +kernel
theorem x_223_1 : Tr sc d 223 (1, [l0, l1, l2, l3, l4], [.int i0], h) Q = Tr sc d 223 (2, [cl2 l0, some (.int i0), l2, l3, l4], [], h) Q := t_istore_n k_223_1 (Nat.le_of_ble_eq_true rfl)
theorem k_223_2 : lk 223 2 = some (.iconst 0, 3, 0, 0, .int 0) := by decide +kernel
theorem x_223_2 : Tr sc d 223 (2, [l0, l1, l2, l3, l4], [], h) Q = Tr sc d 223 (3, [l0, l1, l2, l3, l4], [.int 0], h) Q := t_go k_223_2 rfl
theorem k_223_3 : lk 223 3 = some (.istore_n 2, 4, 2, 0, .null) := by decide +kernel
theorem x_223_3 : Tr sc d 223 (3, [l0, l1, l2, l3, l4], [.int i0], h) Q = Tr sc d 223 (4, [l0, cl2 l1, some (.int i0), l3, l4], [], h) Q := t_istore_n k_223_3 (Nat.le_of_ble_eq_true rfl)
theorem k_223_4 : lk 223 4 = some (.iload_n 2, 5, 2, 0, .null) := by decide +kernel
theorem x_223_4 : Tr sc d 223 (4, [l0, l1, some (.int x), l3, l4], [], h) Q = Tr sc d 223 (5, [l0, l1, some (.int x), l3, l4], [.int x], h) Q := t_iload_n k_223_4 rfl
theorem k_223_5 : lk 223 5 = some (.aload_n 0, 6, 0, 0, .null) := by decide +kernel
theorem x_223_5 : Tr sc d 223 (5, [some (.ref xk), l1, l2, l3, l4], [.int i0], h) Q = Tr sc d 223 (6, [some (.ref xk), l1, l2, l3, l4], [.ref xk, .int i0], h) Q := t_aload_n k_223_5 rfl
theorem k_223_6 : lk 223 6 = some (.getfield 283, 9, 10, 36, .int 0) := by decide +kernel
theorem x_223_6 : Tr sc d 223 (6, [l0, l1, l2, l3, l4], [.ref k1, .int i0], h) Q = (okp h k1 10 = true ∧ Tr sc d 223 (9, [l0, l1, l2, l3, l4], [.int (hI h k1 36), .int i0], h) Q) := t_gd k_223_6 rfl
theorem k_223_9 : lk 223 9 = some (.if_icmp .ge 102, 12, 111, 0, .null) := by decide +kernel
theorem x_223_9 : Tr sc d 223 (9, [l0, l1, l2, l3, l4], [.int i1, .int i0], h) Q = if i1 ≤ i0 then Tr sc d 223 (111, [l0, l1, l2, l3, l4], [], h) Q else Tr sc d 223 (12, [l0, l1, l2, l3, l4], [], h) Q := t_if k_223_9 rfl
theorem k_223_12 : lk 223 12 = some (.iconst 0, 13, 0, 0, .int 0) := by decide +kernel
theorem x_223_12 : Tr sc d 223 (12, [l0, l1, l2, l3, l4], [], h) Q = Tr sc d 223 (13, [l0, l1, l2, l3, l4], [.int 0], h) Q := t_go k_223_12 rfl
theorem k_223_13 : lk 223 13 = some (.istore_n 3, 14, 3, 0, .null) := by decide +kernel
theorem x_223_13 : Tr sc d 223 (13, [l0, l1, l2, l3, l4], [.int i0], h) Q = Tr sc d 223 (14, [l0, l1, cl2 l2, some (.int i0), l4], [], h) Q := t_istore_n k_223_13 (Nat.le_of_ble_eq_true rfl)
theorem k_223_14 : lk 223 14 = some (.iload_n 3, 15, 3, 0, .null) := by decide +kernel
theorem x_223_14 : Tr sc d 223 (14, [l0, l1, l2, some (.int x), l4], [], h) Q = Tr sc d 223 (15, [l0, l1, l2, some (.int x), l4], [.int x], h) Q := t_iload_n k_223_14 rfl
theorem k_223_15 : lk 223 15 = some (.aload_n 0, 16, 0, 0, .null) := by decide +kernel
theorem x_223_15 : Tr sc d 223 (15, [some (.ref xk), l1, l2, l3, l4], [.int i0], h) Q = Tr sc d 223 (16, [some (.ref xk), l1, l2, l3, l4], [.ref xk, .int i0], h) Q := t_aload_n k_223_15 rfl
theorem k_223_16 : lk 223 16 = some (.getfield 283, 19, 10, 36, .int 0) := by decide +kernel
theorem x_223_16 : Tr sc d 223 (16, [l0, l1, l2, l3, l4], [.ref k1, .int i0], h) Q = (okp h k1 10 = true ∧ Tr sc d 223 (19, [l0, l1, l2, l3, l4], [.int (hI h k1 36), .int i0], h) Q) := t_gd k_223_16 rfl
theorem k_223_19 : lk 223 19 = some (.if_icmp .ge 86, 22, 105, 0, .null) := by decide +kernel
theorem x_223_19 : Tr sc d 223 (19, [l0, l1, l2, l3, l4], [.int i1, .int i0], h) Q = if i1 ≤ i0 then Tr sc d 223 (105, [l0, l1, l2, l3, l4], [], h) Q else Tr sc d 223 (22, [l0, l1, l2, l3, l4], [], h) Q := t_if k_223_19 rfl
theorem k_223_22 : lk 223 22 = some (.iload_n 2, 23, 2, 0, .null) := by decide +kernel
theorem x_223_22 : Tr sc d 223 (22, [l0, l1, some (.int x), l3, l4], [], h) Q = Tr sc d 223 (23, [l0, l1, some (.int x), l3, l4], [.int x], h) Q := t_iload_n k_223_22 rfl
theorem k_223_23 : lk 223 23 = some (.iload_n 3, 24, 3, 0, .null) := by decide +kernel
theorem x_223_23 : Tr sc d 223 (23, [l0, l1, l2, some (.int x), l4], [.int i0], h) Q = Tr sc d 223 (24, [l0, l1, l2, some (.int x), l4], [.int x, .int i0], h) Q := t_iload_n k_223_23 rfl
theorem k_223_24 : lk 223 24 = some (.if_icmp .eq 40, 27, 64, 0, .null) := by decide +kernel
theorem x_223_24 : Tr sc d 223 (24, [l0, l1, l2, l3, l4], [.int i1, .int i0], h) Q = if i0 = i1 then Tr sc d 223 (64, [l0, l1, l2, l3, l4], [], h) Q else Tr sc d 223 (27, [l0, l1, l2, l3, l4], [], h) Q := t_if k_223_24 rfl
theorem k_223_27 : lk 223 27 = some (.aload_n 0, 28, 0, 0, .null) := by decide +kernel
theorem x_223_27 : Tr sc d 223 (27, [some (.ref xk), l1, l2, l3, l4], [], h) Q = Tr sc d 223 (28, [some (.ref xk), l1, l2, l3, l4], [.ref xk], h) Q := t_aload_n k_223_27 rfl
theorem k_223_28 : lk 223 28 = some (.aload_n 0, 29, 0, 0, .null) := by decide +kernel
theorem x_223_28 : Tr sc d 223 (28, [some (.ref xk), l1, l2, l3, l4], [.ref k0], h) Q = Tr sc d 223 (29, [some (.ref xk), l1, l2, l3, l4], [.ref xk, .ref k0], h) Q := t_aload_n k_223_28 rfl
theorem k_223_29 : lk 223 29 = some (.getfield 78, 32, 10, 39, .null) := by decide +kernel
theorem x_223_29 : Tr sc d 223 (29, [l0, l1, l2, l3, l4], [.ref k1, .ref k0], h) Q = (okp h k1 10 = true ∧ ∃ q, hR h k1 39 = some q ∧ Tr sc d 223 (32, [l0, l1, l2, l3, l4], [.ref q, .ref k0], h) Q) := t_getr k_223_29
theorem k_223_32 : lk 223 32 = some (.iload_n 3, 33, 3, 0, .null) := by decide +kernel
theorem x_223_32 : Tr sc d 223 (32, [l0, l1, l2, some (.int x), l4], [.ref k1, .ref k0], h) Q = Tr sc d 223 (33, [l0, l1, l2, some (.int x), l4], [.int x, .ref k1, .ref k0], h) Q := t_iload_n k_223_32 rfl
theorem k_223_33 : lk 223 33 = some (.iaload, 34, 0, 0, .null) := by decide +kernel
theorem x_223_33 : Tr sc d 223 (33, [l0, l1, l2, l3, l4], [.int i2, .ref k1, .ref k0], h) Q = (iOk sc h k1 i2 ∧ Tr sc d 223 (34, [l0, l1, l2, l3, l4], [.int (iRd sc h k1 i2), .ref k0], h) Q) := t_iald k_223_33
theorem k_223_34 : lk 223 34 = some (.aload_n 0, 35, 0, 0, .null) := by decide +kernel
theorem x_223_34 : Tr sc d 223 (34, [some (.ref xk), l1, l2, l3, l4], [.int i1, .ref k0], h) Q = Tr sc d 223 (35, [some (.ref xk), l1, l2, l3, l4], [.ref xk, .int i1, .ref k0], h) Q := t_aload_n k_223_34 rfl
theorem k_223_35 : lk 223 35 = some (.getfield 78, 38, 10, 39, .null) := by decide +kernel
theorem x_223_35 : Tr sc d 223 (35, [l0, l1, l2, l3, l4], [.ref k2, .int i1, .ref k0], h) Q = (okp h k2 10 = true ∧ ∃ q, hR h k2 39 = some q ∧ Tr sc d 223 (38, [l0, l1, l2, l3, l4], [.ref q, .int i1, .ref k0], h) Q) := t_getr k_223_35
theorem k_223_38 : lk 223 38 = some (.iload_n 2, 39, 2, 0, .null) := by decide +kernel
theorem x_223_38 : Tr sc d 223 (38, [l0, l1, some (.int x), l3, l4], [.ref k2, .int i1, .ref k0], h) Q = Tr sc d 223 (39, [l0, l1, some (.int x), l3, l4], [.int x, .ref k2, .int i1, .ref k0], h) Q := t_iload_n k_223_38 rfl
theorem k_223_39 : lk 223 39 = some (.iaload, 40, 0, 0, .null) := by decide +kernel
theorem x_223_39 : Tr sc d 223 (39, [l0, l1, l2, l3, l4], [.int i3, .ref k2, .int i1, .ref k0], h) Q = (iOk sc h k2 i3 ∧ Tr sc d 223 (40, [l0, l1, l2, l3, l4], [.int (iRd sc h k2 i3), .int i1, .ref k0], h) Q) := t_iald k_223_39
theorem k_223_40 : lk 223 40 = some (.isub, 41, 0, 0, .null) := by decide +kernel
theorem x_223_40 : Tr sc d 223 (40, [l0, l1, l2, l3, l4], [.int i2, .int i1, .ref k0], h) Q = Tr sc d 223 (41, [l0, l1, l2, l3, l4], [.int (i1 - i2), .ref k0], h) Q := t_go k_223_40 rfl
theorem k_223_41 : lk 223 41 = some (.aload_n 0, 42, 0, 0, .null) := by decide +kernel
theorem x_223_41 : Tr sc d 223 (41, [some (.ref xk), l1, l2, l3, l4], [.int i1, .ref k0], h) Q = Tr sc d 223 (42, [some (.ref xk), l1, l2, l3, l4], [.ref xk, .int i1, .ref k0], h) Q := t_aload_n k_223_41 rfl
theorem k_223_42 : lk 223 42 = some (.getfield 81, 45, 10, 40, .null) := by decide +kernel
theorem x_223_42 : Tr sc d 223 (42, [l0, l1, l2, l3, l4], [.ref k2, .int i1, .ref k0], h) Q = (okp h k2 10 = true ∧ ∃ q, hR h k2 40 = some q ∧ Tr sc d 223 (45, [l0, l1, l2, l3, l4], [.ref q, .int i1, .ref k0], h) Q) := t_getr k_223_42
theorem k_223_45 : lk 223 45 = some (.iload_n 3, 46, 3, 0, .null) := by decide +kernel
theorem x_223_45 : Tr sc d 223 (45, [l0, l1, l2, some (.int x), l4], [.ref k2, .int i1, .ref k0], h) Q = Tr sc d 223 (46, [l0, l1, l2, some (.int x), l4], [.int x, .ref k2, .int i1, .ref k0], h) Q := t_iload_n k_223_45 rfl
theorem k_223_46 : lk 223 46 = some (.iaload, 47, 0, 0, .null) := by decide +kernel
theorem x_223_46 : Tr sc d 223 (46, [l0, l1, l2, l3, l4], [.int i3, .ref k2, .int i1, .ref k0], h) Q = (iOk sc h k2 i3 ∧ Tr sc d 223 (47, [l0, l1, l2, l3, l4], [.int (iRd sc h k2 i3), .int i1, .ref k0], h) Q) := t_iald k_223_46
theorem k_223_47 : lk 223 47 = some (.aload_n 0, 48, 0, 0, .null) := by decide +kernel
theorem x_223_47 : Tr sc d 223 (47, [some (.ref xk), l1, l2, l3, l4], [.int i2, .int i1, .ref k0], h) Q = Tr sc d 223 (48, [some (.ref xk), l1, l2, l3, l4], [.ref xk, .int i2, .int i1, .ref k0], h) Q := t_aload_n k_223_47 rfl
theorem k_223_48 : lk 223 48 = some (.getfield 81, 51, 10, 40, .null) := by decide +kernel
theorem x_223_48 : Tr sc d 223 (48, [l0, l1, l2, l3, l4], [.ref k3, .int i2, .int i1, .ref k0], h) Q = (okp h k3 10 = true ∧ ∃ q, hR h k3 40 = some q ∧ Tr sc d 223 (51, [l0, l1, l2, l3, l4], [.ref q, .int i2, .int i1, .ref k0], h) Q) := t_getr k_223_48
theorem k_223_51 : lk 223 51 = some (.iload_n 2, 52, 2, 0, .null) := by decide +kernel
theorem x_223_51 : Tr sc d 223 (51, [l0, l1, some (.int x), l3, l4], [.ref k3, .int i2, .int i1, .ref k0], h) Q = Tr sc d 223 (52, [l0, l1, some (.int x), l3, l4], [.int x, .ref k3, .int i2, .int i1, .ref k0], h) Q := t_iload_n k_223_51 rfl
theorem k_223_52 : lk 223 52 = some (.iaload, 53, 0, 0, .null) := by decide +kernel
theorem x_223_52 : Tr sc d 223 (52, [l0, l1, l2, l3, l4], [.int i4, .ref k3, .int i2, .int i1, .ref k0], h) Q = (iOk sc h k3 i4 ∧ Tr sc d 223 (53, [l0, l1, l2, l3, l4], [.int (iRd sc h k3 i4), .int i2, .int i1, .ref k0], h) Q) := t_iald k_223_52
theorem k_223_53 : lk 223 53 = some (.isub, 54, 0, 0, .null) := by decide +kernel
theorem x_223_53 : Tr sc d 223 (53, [l0, l1, l2, l3, l4], [.int i3, .int i2, .int i1, .ref k0], h) Q = Tr sc d 223 (54, [l0, l1, l2, l3, l4], [.int (i2 - i3), .int i1, .ref k0], h) Q := t_go k_223_53 rfl
theorem k_223_54 : lk 223 54 = some (.invokevirtual 313, 57, 212, 2, .null) := by decide +kernel
theorem x_223_54 : Tr sc (d + 1) 223 (54, [l0, l1, l2, l3, l4], [.int i2, .int i1, .ref k0], h) Q = (okp h k0 10 = true ∧ Tr sc d 212 (ent0 212 [.ref k0, .int i1, .int i2] h) (fun z => Tr sc (d + 1) 223 (57, [l0, l1, l2, l3, l4], z.1.toList ++ [], z.2) Q)) := t_cv (as := [.int i1, .int i2]) (r := []) k_223_54 rfl rfl (Nat.le_of_ble_eq_true rfl) (Nat.le_of_ble_eq_true rfl) (Nat.le_of_ble_eq_true rfl)
theorem k_223_57 : lk 223 57 = some (.ifCond .eq 7, 60, 64, 0, .null) := by decide +kernel
theorem x_223_57 : Tr sc d 223 (57, [l0, l1, l2, l3, l4], [.int i0], h) Q = if i0 = 0 then Tr sc d 223 (64, [l0, l1, l2, l3, l4], [], h) Q else Tr sc d 223 (60, [l0, l1, l2, l3, l4], [], h) Q := t_if k_223_57 rfl
theorem k_223_60 : lk 223 60 = some (.iconst 1, 61, 0, 0, .int 1) := by decide +kernel
theorem x_223_60 : Tr sc d 223 (60, [l0, l1, l2, l3, l4], [], h) Q = Tr sc d 223 (61, [l0, l1, l2, l3, l4], [.int 1], h) Q := t_go k_223_60 rfl
theorem k_223_61 : lk 223 61 = some (.goto 4, 64, 65, 0, .null) := by decide +kernel
theorem x_223_61 : Tr sc d 223 (61, [l0, l1, l2, l3, l4], [.int i0], h) Q = Tr sc d 223 (65, [l0, l1, l2, l3, l4], [.int i0], h) Q := t_go k_223_61 rfl
theorem k_223_64 : lk 223 64 = some (.iconst 0, 65, 0, 0, .int 0) := by decide +kernel
theorem x_223_64 : Tr sc d 223 (64, [l0, l1, l2, l3, l4], [], h) Q = Tr sc d 223 (65, [l0, l1, l2, l3, l4], [.int 0], h) Q := t_go k_223_64 rfl
theorem k_223_65 : lk 223 65 = some (.istore 4, 67, 4, 0, .null) := by decide +kernel
theorem x_223_65 : Tr sc d 223 (65, [l0, l1, l2, l3, l4], [.int i0], h) Q = Tr sc d 223 (67, [l0, l1, l2, cl2 l3, some (.int i0)], [], h) Q := t_istore k_223_65 (Nat.le_of_ble_eq_true rfl)
theorem k_223_67 : lk 223 67 = some (.aload_n 0, 68, 0, 0, .null) := by decide +kernel
theorem x_223_67 : Tr sc d 223 (67, [some (.ref xk), l1, l2, l3, l4], [], h) Q = Tr sc d 223 (68, [some (.ref xk), l1, l2, l3, l4], [.ref xk], h) Q := t_aload_n k_223_67 rfl
theorem k_223_68 : lk 223 68 = some (.getfield 92, 71, 10, 47, .null) := by decide +kernel
theorem x_223_68 : Tr sc d 223 (68, [l0, l1, l2, l3, l4], [.ref k0], h) Q = (okp h k0 10 = true ∧ ∃ q, hR h k0 47 = some q ∧ Tr sc d 223 (71, [l0, l1, l2, l3, l4], [.ref q], h) Q) := t_getr k_223_68
theorem k_223_71 : lk 223 71 = some (.sipush 216, 74, 0, 0, .int 216) := by decide +kernel
theorem x_223_71 : Tr sc d 223 (71, [l0, l1, l2, l3, l4], [.ref k0], h) Q = Tr sc d 223 (74, [l0, l1, l2, l3, l4], [.int 216, .ref k0], h) Q := t_go k_223_71 rfl
theorem k_223_74 : lk 223 74 = some (.iload_n 2, 75, 2, 0, .null) := by decide +kernel
theorem x_223_74 : Tr sc d 223 (74, [l0, l1, some (.int x), l3, l4], [.int i1, .ref k0], h) Q = Tr sc d 223 (75, [l0, l1, some (.int x), l3, l4], [.int x, .int i1, .ref k0], h) Q := t_iload_n k_223_74 rfl
theorem k_223_75 : lk 223 75 = some (.imul, 76, 0, 0, .null) := by decide +kernel
theorem x_223_75 : Tr sc d 223 (75, [l0, l1, l2, l3, l4], [.int i2, .int i1, .ref k0], h) Q = Tr sc d 223 (76, [l0, l1, l2, l3, l4], [.int (i1 * i2), .ref k0], h) Q := t_go k_223_75 rfl
theorem k_223_76 : lk 223 76 = some (.iload_n 3, 77, 3, 0, .null) := by decide +kernel
theorem x_223_76 : Tr sc d 223 (76, [l0, l1, l2, some (.int x), l4], [.int i1, .ref k0], h) Q = Tr sc d 223 (77, [l0, l1, l2, some (.int x), l4], [.int x, .int i1, .ref k0], h) Q := t_iload_n k_223_76 rfl
theorem k_223_77 : lk 223 77 = some (.iadd, 78, 0, 0, .null) := by decide +kernel
theorem x_223_77 : Tr sc d 223 (77, [l0, l1, l2, l3, l4], [.int i2, .int i1, .ref k0], h) Q = Tr sc d 223 (78, [l0, l1, l2, l3, l4], [.int (i1 + i2), .ref k0], h) Q := t_go k_223_77 rfl
theorem k_223_78 : lk 223 78 = some (.iload 4, 80, 4, 0, .null) := by decide +kernel
theorem x_223_78 : Tr sc d 223 (78, [l0, l1, l2, l3, some (.int x)], [.int i1, .ref k0], h) Q = Tr sc d 223 (80, [l0, l1, l2, l3, some (.int x)], [.int x, .int i1, .ref k0], h) Q := t_iload k_223_78 rfl
theorem k_223_80 : lk 223 80 = some (.bastore, 81, 0, 0, .null) := by decide +kernel
theorem x_223_80 : Tr sc d 223 (80, [l0, l1, l2, l3, l4], [.int i2, .int i1, .ref k0], h) Q = ((okp h k0 13 && inb i1 (LN k0)) = true ∧ Tr sc d 223 (81, [l0, l1, l2, l3, l4], [], (sI h k0 i1.toNatClampNeg (vp_nar .boolean i2))) Q) := t_gd k_223_80 rfl
theorem k_223_81 : lk 223 81 = some (.iload_n 1, 82, 1, 0, .null) := by decide +kernel
theorem x_223_81 : Tr sc d 223 (81, [l0, some (.int x), l2, l3, l4], [], h) Q = Tr sc d 223 (82, [l0, some (.int x), l2, l3, l4], [.int x], h) Q := t_iload_n k_223_81 rfl
theorem k_223_82 : lk 223 82 = some (.iload 4, 84, 4, 0, .null) := by decide +kernel
theorem x_223_82 : Tr sc d 223 (82, [l0, l1, l2, l3, some (.int x)], [.int i0], h) Q = Tr sc d 223 (84, [l0, l1, l2, l3, some (.int x)], [.int x, .int i0], h) Q := t_iload k_223_82 rfl
theorem k_223_84 : lk 223 84 = some (.ifCond .eq 12, 87, 96, 0, .null) := by decide +kernel
theorem x_223_84 : Tr sc d 223 (84, [l0, l1, l2, l3, l4], [.int i1, .int i0], h) Q = if i1 = 0 then Tr sc d 223 (96, [l0, l1, l2, l3, l4], [.int i0], h) Q else Tr sc d 223 (87, [l0, l1, l2, l3, l4], [.int i0], h) Q := t_if k_223_84 rfl
theorem k_223_87 : lk 223 87 = some (.iload_n 2, 88, 2, 0, .null) := by decide +kernel
theorem x_223_87 : Tr sc d 223 (87, [l0, l1, some (.int x), l3, l4], [.int i0], h) Q = Tr sc d 223 (88, [l0, l1, some (.int x), l3, l4], [.int x, .int i0], h) Q := t_iload_n k_223_87 rfl
theorem k_223_88 : lk 223 88 = some (.iload_n 3, 89, 3, 0, .null) := by decide +kernel
theorem x_223_88 : Tr sc d 223 (88, [l0, l1, l2, some (.int x), l4], [.int i1, .int i0], h) Q = Tr sc d 223 (89, [l0, l1, l2, some (.int x), l4], [.int x, .int i1, .int i0], h) Q := t_iload_n k_223_88 rfl
theorem k_223_89 : lk 223 89 = some (.if_icmp .ge 7, 92, 96, 0, .null) := by decide +kernel
theorem x_223_89 : Tr sc d 223 (89, [l0, l1, l2, l3, l4], [.int i2, .int i1, .int i0], h) Q = if i2 ≤ i1 then Tr sc d 223 (96, [l0, l1, l2, l3, l4], [.int i0], h) Q else Tr sc d 223 (92, [l0, l1, l2, l3, l4], [.int i0], h) Q := t_if k_223_89 rfl
theorem k_223_92 : lk 223 92 = some (.iconst 1, 93, 0, 0, .int 1) := by decide +kernel
theorem x_223_92 : Tr sc d 223 (92, [l0, l1, l2, l3, l4], [.int i0], h) Q = Tr sc d 223 (93, [l0, l1, l2, l3, l4], [.int 1, .int i0], h) Q := t_go k_223_92 rfl
theorem k_223_93 : lk 223 93 = some (.goto 4, 96, 97, 0, .null) := by decide +kernel
theorem x_223_93 : Tr sc d 223 (93, [l0, l1, l2, l3, l4], [.int i1, .int i0], h) Q = Tr sc d 223 (97, [l0, l1, l2, l3, l4], [.int i1, .int i0], h) Q := t_go k_223_93 rfl
theorem k_223_96 : lk 223 96 = some (.iconst 0, 97, 0, 0, .int 0) := by decide +kernel
theorem x_223_96 : Tr sc d 223 (96, [l0, l1, l2, l3, l4], [.int i0], h) Q = Tr sc d 223 (97, [l0, l1, l2, l3, l4], [.int 0, .int i0], h) Q := t_go k_223_96 rfl
theorem k_223_97 : lk 223 97 = some (.iadd, 98, 0, 0, .null) := by decide +kernel
theorem x_223_97 : Tr sc d 223 (97, [l0, l1, l2, l3, l4], [.int i1, .int i0], h) Q = Tr sc d 223 (98, [l0, l1, l2, l3, l4], [.int (i0 + i1)], h) Q := t_go k_223_97 rfl
theorem k_223_98 : lk 223 98 = some (.istore_n 1, 99, 1, 0, .null) := by decide +kernel
theorem x_223_98 : Tr sc d 223 (98, [l0, l1, l2, l3, l4], [.int i0], h) Q = Tr sc d 223 (99, [cl2 l0, some (.int i0), l2, l3, l4], [], h) Q := t_istore_n k_223_98 (Nat.le_of_ble_eq_true rfl)
theorem k_223_99 : lk 223 99 = some (.iinc 3 1, 102, 3, 0, .int 1) := by decide +kernel
theorem x_223_99 : Tr sc d 223 (99, [l0, l1, l2, some (.int x), l4], [], h) Q = Tr sc d 223 (102, [l0, l1, cl2 l2, some (.int (x + 1)), l4], [], h) Q := t_inc k_223_99 rfl (Nat.le_of_ble_eq_true rfl)
theorem k_223_102 : lk 223 102 = some (.goto (-88), 105, 14, 0, .null) := by decide +kernel
theorem x_223_102 : Tr sc d 223 (102, [l0, l1, l2, l3, l4], [], h) Q = Tr sc d 223 (14, [l0, l1, l2, l3, l4], [], h) Q := t_go k_223_102 rfl
theorem k_223_105 : lk 223 105 = some (.iinc 2 1, 108, 2, 0, .int 1) := by decide +kernel
theorem x_223_105 : Tr sc d 223 (105, [l0, l1, some (.int x), l3, l4], [], h) Q = Tr sc d 223 (108, [l0, cl2 l1, some (.int (x + 1)), l3, l4], [], h) Q := t_inc k_223_105 rfl (Nat.le_of_ble_eq_true rfl)
theorem k_223_108 : lk 223 108 = some (.goto (-104), 111, 4, 0, .null) := by decide +kernel
theorem x_223_108 : Tr sc d 223 (108, [l0, l1, l2, l3, l4], [], h) Q = Tr sc d 223 (4, [l0, l1, l2, l3, l4], [], h) Q := t_go k_223_108 rfl
theorem k_223_111 : lk 223 111 = some (.iload_n 1, 112, 1, 0, .null) := by decide +kernel
theorem x_223_111 : Tr sc d 223 (111, [l0, some (.int x), l2, l3, l4], [], h) Q = Tr sc d 223 (112, [l0, some (.int x), l2, l3, l4], [.int x], h) Q := t_iload_n k_223_111 rfl
theorem k_223_112 : lk 223 112 = some (.ireturn, 113, 0, 0, .null) := by decide +kernel
theorem x_223_112 : Tr sc d 223 (112, [l0, l1, l2, l3, l4], [.int i0], h) Q = Q (some (.int i0), h) := t_ret k_223_112 (by rw [r_223]; rfl)
theorem e_223 : Tr sc d 223 (ent0 223 [.ref k0] h) Q = Tr sc d 223 (0, [some (.ref k0), none, none, none, none], [], h) Q := by
  have e : mL 223 = 5 := by decide +kernel
  unfold ent0
  rw [e]
  rfl
theorem r_224 : mR 224 = some .int := by decide +kernel
theorem k_224_0 : lk 224 0 = some (.iconst 0, 1, 0, 0, .int 0) := by decide +kernel
theorem x_224_0 : Tr sc d 224 (0, [l0, l1, l2, l3], [], h) Q = Tr sc d 224 (1, [l0, l1, l2, l3], [.int 0], h) Q := t_go k_224_0 rfl
theorem k_224_1 : lk 224 1 = some (.istore_n 2, 2, 2, 0, .null) := by decide +kernel
theorem x_224_1 : Tr sc d 224 (1, [l0, l1, l2, l3], [.int i0], h) Q = Tr sc d 224 (2, [l0, cl2 l1, some (.int i0), l3], [], h) Q := t_istore_n k_224_1 (Nat.le_of_ble_eq_true rfl)
theorem k_224_2 : lk 224 2 = some (.iconst 0, 3, 0, 0, .int 0) := by decide +kernel
theorem x_224_2 : Tr sc d 224 (2, [l0, l1, l2, l3], [], h) Q = Tr sc d 224 (3, [l0, l1, l2, l3], [.int 0], h) Q := t_go k_224_2 rfl
theorem k_224_3 : lk 224 3 = some (.istore_n 3, 4, 3, 0, .null) := by decide +kernel
theorem x_224_3 : Tr sc d 224 (3, [l0, l1, l2, l3], [.int i0], h) Q = Tr sc d 224 (4, [l0, l1, cl2 l2, some (.int i0)], [], h) Q := t_istore_n k_224_3 (Nat.le_of_ble_eq_true rfl)
theorem k_224_4 : lk 224 4 = some (.iload_n 3, 5, 3, 0, .null) := by decide +kernel
theorem x_224_4 : Tr sc d 224 (4, [l0, l1, l2, some (.int x)], [], h) Q = Tr sc d 224 (5, [l0, l1, l2, some (.int x)], [.int x], h) Q := t_iload_n k_224_4 rfl
theorem k_224_5 : lk 224 5 = some (.aload_n 0, 6, 0, 0, .null) := by decide +kernel
theorem x_224_5 : Tr sc d 224 (5, [some (.ref xk), l1, l2, l3], [.int i0], h) Q = Tr sc d 224 (6, [some (.ref xk), l1, l2, l3], [.ref xk, .int i0], h) Q := t_aload_n k_224_5 rfl
theorem k_224_6 : lk 224 6 = some (.getfield 283, 9, 10, 36, .int 0) := by decide +kernel
theorem x_224_6 : Tr sc d 224 (6, [l0, l1, l2, l3], [.ref k1, .int i0], h) Q = (okp h k1 10 = true ∧ Tr sc d 224 (9, [l0, l1, l2, l3], [.int (hI h k1 36), .int i0], h) Q) := t_gd k_224_6 rfl
theorem k_224_9 : lk 224 9 = some (.if_icmp .ge 25, 12, 34, 0, .null) := by decide +kernel
theorem x_224_9 : Tr sc d 224 (9, [l0, l1, l2, l3], [.int i1, .int i0], h) Q = if i1 ≤ i0 then Tr sc d 224 (34, [l0, l1, l2, l3], [], h) Q else Tr sc d 224 (12, [l0, l1, l2, l3], [], h) Q := t_if k_224_9 rfl
theorem k_224_12 : lk 224 12 = some (.aload_n 0, 13, 0, 0, .null) := by decide +kernel
theorem x_224_12 : Tr sc d 224 (12, [some (.ref xk), l1, l2, l3], [], h) Q = Tr sc d 224 (13, [some (.ref xk), l1, l2, l3], [.ref xk], h) Q := t_aload_n k_224_12 rfl
theorem k_224_13 : lk 224 13 = some (.getfield 95, 16, 10, 48, .null) := by decide +kernel
theorem x_224_13 : Tr sc d 224 (13, [l0, l1, l2, l3], [.ref k0], h) Q = (okp h k0 10 = true ∧ ∃ q, hR h k0 48 = some q ∧ Tr sc d 224 (16, [l0, l1, l2, l3], [.ref q], h) Q) := t_getr k_224_13
theorem k_224_16 : lk 224 16 = some (.iload_n 3, 17, 3, 0, .null) := by decide +kernel
theorem x_224_16 : Tr sc d 224 (16, [l0, l1, l2, some (.int x)], [.ref k0], h) Q = Tr sc d 224 (17, [l0, l1, l2, some (.int x)], [.int x, .ref k0], h) Q := t_iload_n k_224_16 rfl
theorem k_224_17 : lk 224 17 = some (.iload_n 3, 18, 3, 0, .null) := by decide +kernel
theorem x_224_17 : Tr sc d 224 (17, [l0, l1, l2, some (.int x)], [.int i1, .ref k0], h) Q = Tr sc d 224 (18, [l0, l1, l2, some (.int x)], [.int x, .int i1, .ref k0], h) Q := t_iload_n k_224_17 rfl
theorem k_224_18 : lk 224 18 = some (.iload_n 1, 19, 1, 0, .null) := by decide +kernel
theorem x_224_18 : Tr sc d 224 (18, [l0, some (.int x), l2, l3], [.int i2, .int i1, .ref k0], h) Q = Tr sc d 224 (19, [l0, some (.int x), l2, l3], [.int x, .int i2, .int i1, .ref k0], h) Q := t_iload_n k_224_18 rfl
theorem k_224_19 : lk 224 19 = some (.if_icmp .ne 7, 22, 26, 0, .null) := by decide +kernel
theorem x_224_19 : Tr sc d 224 (19, [l0, l1, l2, l3], [.int i3, .int i2, .int i1, .ref k0], h) Q = if i2 = i3 then Tr sc d 224 (22, [l0, l1, l2, l3], [.int i1, .ref k0], h) Q else Tr sc d 224 (26, [l0, l1, l2, l3], [.int i1, .ref k0], h) Q := t_if k_224_19 rfl
theorem k_224_22 : lk 224 22 = some (.iconst 1, 23, 0, 0, .int 1) := by decide +kernel
theorem x_224_22 : Tr sc d 224 (22, [l0, l1, l2, l3], [.int i1, .ref k0], h) Q = Tr sc d 224 (23, [l0, l1, l2, l3], [.int 1, .int i1, .ref k0], h) Q := t_go k_224_22 rfl
theorem k_224_23 : lk 224 23 = some (.goto 4, 26, 27, 0, .null) := by decide +kernel
theorem x_224_23 : Tr sc d 224 (23, [l0, l1, l2, l3], [.int i2, .int i1, .ref k0], h) Q = Tr sc d 224 (27, [l0, l1, l2, l3], [.int i2, .int i1, .ref k0], h) Q := t_go k_224_23 rfl
theorem k_224_26 : lk 224 26 = some (.iconst 0, 27, 0, 0, .int 0) := by decide +kernel
theorem x_224_26 : Tr sc d 224 (26, [l0, l1, l2, l3], [.int i1, .ref k0], h) Q = Tr sc d 224 (27, [l0, l1, l2, l3], [.int 0, .int i1, .ref k0], h) Q := t_go k_224_26 rfl
theorem k_224_27 : lk 224 27 = some (.bastore, 28, 0, 0, .null) := by decide +kernel
theorem x_224_27 : Tr sc d 224 (27, [l0, l1, l2, l3], [.int i2, .int i1, .ref k0], h) Q = ((okp h k0 13 && inb i1 (LN k0)) = true ∧ Tr sc d 224 (28, [l0, l1, l2, l3], [], (sI h k0 i1.toNatClampNeg (vp_nar .boolean i2))) Q) := t_gd k_224_27 rfl
theorem k_224_28 : lk 224 28 = some (.iinc 3 1, 31, 3, 0, .int 1) := by decide +kernel
theorem x_224_28 : Tr sc d 224 (28, [l0, l1, l2, some (.int x)], [], h) Q = Tr sc d 224 (31, [l0, l1, cl2 l2, some (.int (x + 1))], [], h) Q := t_inc k_224_28 rfl (Nat.le_of_ble_eq_true rfl)
theorem k_224_31 : lk 224 31 = some (.goto (-27), 34, 4, 0, .null) := by decide +kernel
theorem x_224_31 : Tr sc d 224 (31, [l0, l1, l2, l3], [], h) Q = Tr sc d 224 (4, [l0, l1, l2, l3], [], h) Q := t_go k_224_31 rfl
theorem k_224_34 : lk 224 34 = some (.iconst 0, 35, 0, 0, .int 0) := by decide +kernel
theorem x_224_34 : Tr sc d 224 (34, [l0, l1, l2, l3], [], h) Q = Tr sc d 224 (35, [l0, l1, l2, l3], [.int 0], h) Q := t_go k_224_34 rfl
theorem k_224_35 : lk 224 35 = some (.istore_n 3, 36, 3, 0, .null) := by decide +kernel
theorem x_224_35 : Tr sc d 224 (35, [l0, l1, l2, l3], [.int i0], h) Q = Tr sc d 224 (36, [l0, l1, cl2 l2, some (.int i0)], [], h) Q := t_istore_n k_224_35 (Nat.le_of_ble_eq_true rfl)
theorem k_224_36 : lk 224 36 = some (.iload_n 3, 37, 3, 0, .null) := by decide +kernel
theorem x_224_36 : Tr sc d 224 (36, [l0, l1, l2, some (.int x)], [], h) Q = Tr sc d 224 (37, [l0, l1, l2, some (.int x)], [.int x], h) Q := t_iload_n k_224_36 rfl
theorem k_224_37 : lk 224 37 = some (.aload_n 0, 38, 0, 0, .null) := by decide +kernel
theorem x_224_37 : Tr sc d 224 (37, [some (.ref xk), l1, l2, l3], [.int i0], h) Q = Tr sc d 224 (38, [some (.ref xk), l1, l2, l3], [.ref xk, .int i0], h) Q := t_aload_n k_224_37 rfl
theorem k_224_38 : lk 224 38 = some (.getfield 283, 41, 10, 36, .int 0) := by decide +kernel
theorem x_224_38 : Tr sc d 224 (38, [l0, l1, l2, l3], [.ref k1, .int i0], h) Q = (okp h k1 10 = true ∧ Tr sc d 224 (41, [l0, l1, l2, l3], [.int (hI h k1 36), .int i0], h) Q) := t_gd k_224_38 rfl
theorem k_224_41 : lk 224 41 = some (.if_icmp .ge 26, 44, 67, 0, .null) := by decide +kernel
theorem x_224_41 : Tr sc d 224 (41, [l0, l1, l2, l3], [.int i1, .int i0], h) Q = if i1 ≤ i0 then Tr sc d 224 (67, [l0, l1, l2, l3], [], h) Q else Tr sc d 224 (44, [l0, l1, l2, l3], [], h) Q := t_if k_224_41 rfl
theorem k_224_44 : lk 224 44 = some (.aload_n 0, 45, 0, 0, .null) := by decide +kernel
theorem x_224_44 : Tr sc d 224 (44, [some (.ref xk), l1, l2, l3], [], h) Q = Tr sc d 224 (45, [some (.ref xk), l1, l2, l3], [.ref xk], h) Q := t_aload_n k_224_44 rfl
theorem k_224_45 : lk 224 45 = some (.getfield 95, 48, 10, 48, .null) := by decide +kernel
theorem x_224_45 : Tr sc d 224 (45, [l0, l1, l2, l3], [.ref k0], h) Q = (okp h k0 10 = true ∧ ∃ q, hR h k0 48 = some q ∧ Tr sc d 224 (48, [l0, l1, l2, l3], [.ref q], h) Q) := t_getr k_224_45
theorem k_224_48 : lk 224 48 = some (.iload_n 3, 49, 3, 0, .null) := by decide +kernel
theorem x_224_48 : Tr sc d 224 (48, [l0, l1, l2, some (.int x)], [.ref k0], h) Q = Tr sc d 224 (49, [l0, l1, l2, some (.int x)], [.int x, .ref k0], h) Q := t_iload_n k_224_48 rfl
theorem k_224_49 : lk 224 49 = some (.baload, 50, 0, 0, .null) := by decide +kernel
theorem x_224_49 : Tr sc d 224 (49, [l0, l1, l2, l3], [.int i1, .ref k0], h) Q = ((okp h k0 13 && inb i1 (LN k0)) = true ∧ Tr sc d 224 (50, [l0, l1, l2, l3], [.int (hI h k0 i1.toNatClampNeg)], h) Q) := t_gd k_224_49 rfl
theorem k_224_50 : lk 224 50 = some (.ifCond .ne 11, 53, 61, 0, .null) := by decide +kernel
theorem x_224_50 : Tr sc d 224 (50, [l0, l1, l2, l3], [.int i0], h) Q = if i0 = 0 then Tr sc d 224 (53, [l0, l1, l2, l3], [], h) Q else Tr sc d 224 (61, [l0, l1, l2, l3], [], h) Q := t_if k_224_50 rfl
theorem k_224_53 : lk 224 53 = some (.iinc 2 1, 56, 2, 0, .int 1) := by decide +kernel
theorem x_224_53 : Tr sc d 224 (53, [l0, l1, some (.int x), l3], [], h) Q = Tr sc d 224 (56, [l0, cl2 l1, some (.int (x + 1)), l3], [], h) Q := t_inc k_224_53 rfl (Nat.le_of_ble_eq_true rfl)
theorem k_224_56 : lk 224 56 = some (.aload_n 0, 57, 0, 0, .null) := by decide +kernel
theorem x_224_56 : Tr sc d 224 (56, [some (.ref xk), l1, l2, l3], [], h) Q = Tr sc d 224 (57, [some (.ref xk), l1, l2, l3], [.ref xk], h) Q := t_aload_n k_224_56 rfl
theorem k_224_57 : lk 224 57 = some (.iload_n 3, 58, 3, 0, .null) := by decide +kernel
theorem x_224_57 : Tr sc d 224 (57, [l0, l1, l2, some (.int x)], [.ref k0], h) Q = Tr sc d 224 (58, [l0, l1, l2, some (.int x)], [.int x, .ref k0], h) Q := t_iload_n k_224_57 rfl
theorem k_224_58 : lk 224 58 = some (.invokevirtual 333, 61, 225, 1, .null) := by decide +kernel
theorem x_224_58 : Tr sc (d + 1) 224 (58, [l0, l1, l2, l3], [.int i1, .ref k0], h) Q = (okp h k0 10 = true ∧ Tr sc d 225 (ent0 225 [.ref k0, .int i1] h) (fun z => Tr sc (d + 1) 224 (61, [l0, l1, l2, l3], z.1.toList ++ [], z.2) Q)) := t_cv (as := [.int i1]) (r := []) k_224_58 rfl rfl (Nat.le_of_ble_eq_true rfl) (Nat.le_of_ble_eq_true rfl) (Nat.le_of_ble_eq_true rfl)
theorem k_224_61 : lk 224 61 = some (.iinc 3 1, 64, 3, 0, .int 1) := by decide +kernel
theorem x_224_61 : Tr sc d 224 (61, [l0, l1, l2, some (.int x)], [], h) Q = Tr sc d 224 (64, [l0, l1, cl2 l2, some (.int (x + 1))], [], h) Q := t_inc k_224_61 rfl (Nat.le_of_ble_eq_true rfl)
theorem k_224_64 : lk 224 64 = some (.goto (-28), 67, 36, 0, .null) := by decide +kernel
theorem x_224_64 : Tr sc d 224 (64, [l0, l1, l2, l3], [], h) Q = Tr sc d 224 (36, [l0, l1, l2, l3], [], h) Q := t_go k_224_64 rfl
theorem k_224_67 : lk 224 67 = some (.iload_n 2, 68, 2, 0, .null) := by decide +kernel
theorem x_224_67 : Tr sc d 224 (67, [l0, l1, some (.int x), l3], [], h) Q = Tr sc d 224 (68, [l0, l1, some (.int x), l3], [.int x], h) Q := t_iload_n k_224_67 rfl
theorem k_224_68 : lk 224 68 = some (.ireturn, 69, 0, 0, .null) := by decide +kernel
theorem x_224_68 : Tr sc d 224 (68, [l0, l1, l2, l3], [.int i0], h) Q = Q (some (.int i0), h) := t_ret k_224_68 (by rw [r_224]; rfl)
theorem e_224 : Tr sc d 224 (ent0 224 [.ref k0, .int i1] h) Q = Tr sc d 224 (0, [some (.ref k0), some (.int i1), none, none], [], h) Q := by
  have e : mL 224 = 4 := by decide +kernel
  unfold ent0
  rw [e]
  rfl
theorem r_225 : mR 225 = none := by decide +kernel
theorem k_225_0 : lk 225 0 = some (.iconst 1, 1, 0, 0, .int 1) := by decide +kernel
theorem x_225_0 : Tr sc d 225 (0, [l0, l1, l2, l3, l4], [], h) Q = Tr sc d 225 (1, [l0, l1, l2, l3, l4], [.int 1], h) Q := t_go k_225_0 rfl
theorem k_225_1 : lk 225 1 = some (.istore_n 2, 2, 2, 0, .null) := by decide +kernel
theorem x_225_1 : Tr sc d 225 (1, [l0, l1, l2, l3, l4], [.int i0], h) Q = Tr sc d 225 (2, [l0, cl2 l1, some (.int i0), l3, l4], [], h) Q := t_istore_n k_225_1 (Nat.le_of_ble_eq_true rfl)
theorem k_225_2 : lk 225 2 = some (.aload_n 0, 3, 0, 0, .null) := by decide +kernel
theorem x_225_2 : Tr sc d 225 (2, [some (.ref xk), l1, l2, l3, l4], [], h) Q = Tr sc d 225 (3, [some (.ref xk), l1, l2, l3, l4], [.ref xk], h) Q := t_aload_n k_225_2 rfl
theorem k_225_3 : lk 225 3 = some (.getfield 98, 6, 10, 49, .null) := by decide +kernel
theorem x_225_3 : Tr sc d 225 (3, [l0, l1, l2, l3, l4], [.ref k0], h) Q = (okp h k0 10 = true ∧ ∃ q, hR h k0 49 = some q ∧ Tr sc d 225 (6, [l0, l1, l2, l3, l4], [.ref q], h) Q) := t_getr k_225_3
theorem k_225_6 : lk 225 6 = some (.iconst 0, 7, 0, 0, .int 0) := by decide +kernel
theorem x_225_6 : Tr sc d 225 (6, [l0, l1, l2, l3, l4], [.ref k0], h) Q = Tr sc d 225 (7, [l0, l1, l2, l3, l4], [.int 0, .ref k0], h) Q := t_go k_225_6 rfl
theorem k_225_7 : lk 225 7 = some (.iload_n 1, 8, 1, 0, .null) := by decide +kernel
theorem x_225_7 : Tr sc d 225 (7, [l0, some (.int x), l2, l3, l4], [.int i1, .ref k0], h) Q = Tr sc d 225 (8, [l0, some (.int x), l2, l3, l4], [.int x, .int i1, .ref k0], h) Q := t_iload_n k_225_7 rfl
theorem k_225_8 : lk 225 8 = some (.iastore, 9, 0, 0, .null) := by decide +kernel
theorem x_225_8 : Tr sc d 225 (8, [l0, l1, l2, l3, l4], [.int i2, .int i1, .ref k0], h) Q = ((okp h k0 11 && inb i1 (LN k0)) = true ∧ Tr sc d 225 (9, [l0, l1, l2, l3, l4], [], (sI h k0 i1.toNatClampNeg i2)) Q) := t_gd k_225_8 rfl
theorem k_225_9 : lk 225 9 = some (.aload_n 0, 10, 0, 0, .null) := by decide +kernel
theorem x_225_9 : Tr sc d 225 (9, [some (.ref xk), l1, l2, l3, l4], [], h) Q = Tr sc d 225 (10, [some (.ref xk), l1, l2, l3, l4], [.ref xk], h) Q := t_aload_n k_225_9 rfl
theorem k_225_10 : lk 225 10 = some (.getfield 95, 13, 10, 48, .null) := by decide +kernel
theorem x_225_10 : Tr sc d 225 (10, [l0, l1, l2, l3, l4], [.ref k0], h) Q = (okp h k0 10 = true ∧ ∃ q, hR h k0 48 = some q ∧ Tr sc d 225 (13, [l0, l1, l2, l3, l4], [.ref q], h) Q) := t_getr k_225_10
theorem k_225_13 : lk 225 13 = some (.iload_n 1, 14, 1, 0, .null) := by decide +kernel
theorem x_225_13 : Tr sc d 225 (13, [l0, some (.int x), l2, l3, l4], [.ref k0], h) Q = Tr sc d 225 (14, [l0, some (.int x), l2, l3, l4], [.int x, .ref k0], h) Q := t_iload_n k_225_13 rfl
theorem k_225_14 : lk 225 14 = some (.iconst 1, 15, 0, 0, .int 1) := by decide +kernel
theorem x_225_14 : Tr sc d 225 (14, [l0, l1, l2, l3, l4], [.int i1, .ref k0], h) Q = Tr sc d 225 (15, [l0, l1, l2, l3, l4], [.int 1, .int i1, .ref k0], h) Q := t_go k_225_14 rfl
theorem k_225_15 : lk 225 15 = some (.bastore, 16, 0, 0, .null) := by decide +kernel
theorem x_225_15 : Tr sc d 225 (15, [l0, l1, l2, l3, l4], [.int i2, .int i1, .ref k0], h) Q = ((okp h k0 13 && inb i1 (LN k0)) = true ∧ Tr sc d 225 (16, [l0, l1, l2, l3, l4], [], (sI h k0 i1.toNatClampNeg (vp_nar .boolean i2))) Q) := t_gd k_225_15 rfl
theorem k_225_16 : lk 225 16 = some (.iconst 0, 17, 0, 0, .int 0) := by decide +kernel
theorem x_225_16 : Tr sc d 225 (16, [l0, l1, l2, l3, l4], [], h) Q = Tr sc d 225 (17, [l0, l1, l2, l3, l4], [.int 0], h) Q := t_go k_225_16 rfl
theorem k_225_17 : lk 225 17 = some (.istore_n 3, 18, 3, 0, .null) := by decide +kernel
theorem x_225_17 : Tr sc d 225 (17, [l0, l1, l2, l3, l4], [.int i0], h) Q = Tr sc d 225 (18, [l0, l1, cl2 l2, some (.int i0), l4], [], h) Q := t_istore_n k_225_17 (Nat.le_of_ble_eq_true rfl)
theorem k_225_18 : lk 225 18 = some (.iload_n 3, 19, 3, 0, .null) := by decide +kernel
theorem x_225_18 : Tr sc d 225 (18, [l0, l1, l2, some (.int x), l4], [], h) Q = Tr sc d 225 (19, [l0, l1, l2, some (.int x), l4], [.int x], h) Q := t_iload_n k_225_18 rfl
theorem k_225_19 : lk 225 19 = some (.iload_n 2, 20, 2, 0, .null) := by decide +kernel
theorem x_225_19 : Tr sc d 225 (19, [l0, l1, some (.int x), l3, l4], [.int i0], h) Q = Tr sc d 225 (20, [l0, l1, some (.int x), l3, l4], [.int x, .int i0], h) Q := t_iload_n k_225_19 rfl
theorem k_225_20 : lk 225 20 = some (.if_icmp .ge 77, 23, 97, 0, .null) := by decide +kernel
theorem x_225_20 : Tr sc d 225 (20, [l0, l1, l2, l3, l4], [.int i1, .int i0], h) Q = if i1 ≤ i0 then Tr sc d 225 (97, [l0, l1, l2, l3, l4], [], h) Q else Tr sc d 225 (23, [l0, l1, l2, l3, l4], [], h) Q := t_if k_225_20 rfl
theorem k_225_23 : lk 225 23 = some (.iconst 0, 24, 0, 0, .int 0) := by decide +kernel
theorem x_225_23 : Tr sc d 225 (23, [l0, l1, l2, l3, l4], [], h) Q = Tr sc d 225 (24, [l0, l1, l2, l3, l4], [.int 0], h) Q := t_go k_225_23 rfl
theorem k_225_24 : lk 225 24 = some (.istore 4, 26, 4, 0, .null) := by decide +kernel
theorem x_225_24 : Tr sc d 225 (24, [l0, l1, l2, l3, l4], [.int i0], h) Q = Tr sc d 225 (26, [l0, l1, l2, cl2 l3, some (.int i0)], [], h) Q := t_istore k_225_24 (Nat.le_of_ble_eq_true rfl)
theorem k_225_26 : lk 225 26 = some (.iload 4, 28, 4, 0, .null) := by decide +kernel
theorem x_225_26 : Tr sc d 225 (26, [l0, l1, l2, l3, some (.int x)], [], h) Q = Tr sc d 225 (28, [l0, l1, l2, l3, some (.int x)], [.int x], h) Q := t_iload k_225_26 rfl
theorem k_225_28 : lk 225 28 = some (.aload_n 0, 29, 0, 0, .null) := by decide +kernel
theorem x_225_28 : Tr sc d 225 (28, [some (.ref xk), l1, l2, l3, l4], [.int i0], h) Q = Tr sc d 225 (29, [some (.ref xk), l1, l2, l3, l4], [.ref xk, .int i0], h) Q := t_aload_n k_225_28 rfl
theorem k_225_29 : lk 225 29 = some (.getfield 283, 32, 10, 36, .int 0) := by decide +kernel
theorem x_225_29 : Tr sc d 225 (29, [l0, l1, l2, l3, l4], [.ref k1, .int i0], h) Q = (okp h k1 10 = true ∧ Tr sc d 225 (32, [l0, l1, l2, l3, l4], [.int (hI h k1 36), .int i0], h) Q) := t_gd k_225_29 rfl
theorem k_225_32 : lk 225 32 = some (.if_icmp .ge 59, 35, 91, 0, .null) := by decide +kernel
theorem x_225_32 : Tr sc d 225 (32, [l0, l1, l2, l3, l4], [.int i1, .int i0], h) Q = if i1 ≤ i0 then Tr sc d 225 (91, [l0, l1, l2, l3, l4], [], h) Q else Tr sc d 225 (35, [l0, l1, l2, l3, l4], [], h) Q := t_if k_225_32 rfl
theorem k_225_35 : lk 225 35 = some (.aload_n 0, 36, 0, 0, .null) := by decide +kernel
theorem x_225_35 : Tr sc d 225 (35, [some (.ref xk), l1, l2, l3, l4], [], h) Q = Tr sc d 225 (36, [some (.ref xk), l1, l2, l3, l4], [.ref xk], h) Q := t_aload_n k_225_35 rfl
theorem k_225_36 : lk 225 36 = some (.getfield 92, 39, 10, 47, .null) := by decide +kernel
theorem x_225_36 : Tr sc d 225 (36, [l0, l1, l2, l3, l4], [.ref k0], h) Q = (okp h k0 10 = true ∧ ∃ q, hR h k0 47 = some q ∧ Tr sc d 225 (39, [l0, l1, l2, l3, l4], [.ref q], h) Q) := t_getr k_225_36
theorem k_225_39 : lk 225 39 = some (.sipush 216, 42, 0, 0, .int 216) := by decide +kernel
theorem x_225_39 : Tr sc d 225 (39, [l0, l1, l2, l3, l4], [.ref k0], h) Q = Tr sc d 225 (42, [l0, l1, l2, l3, l4], [.int 216, .ref k0], h) Q := t_go k_225_39 rfl
theorem k_225_42 : lk 225 42 = some (.aload_n 0, 43, 0, 0, .null) := by decide +kernel
theorem x_225_42 : Tr sc d 225 (42, [some (.ref xk), l1, l2, l3, l4], [.int i1, .ref k0], h) Q = Tr sc d 225 (43, [some (.ref xk), l1, l2, l3, l4], [.ref xk, .int i1, .ref k0], h) Q := t_aload_n k_225_42 rfl
theorem k_225_43 : lk 225 43 = some (.getfield 98, 46, 10, 49, .null) := by decide +kernel
theorem x_225_43 : Tr sc d 225 (43, [l0, l1, l2, l3, l4], [.ref k2, .int i1, .ref k0], h) Q = (okp h k2 10 = true ∧ ∃ q, hR h k2 49 = some q ∧ Tr sc d 225 (46, [l0, l1, l2, l3, l4], [.ref q, .int i1, .ref k0], h) Q) := t_getr k_225_43
theorem k_225_46 : lk 225 46 = some (.iload_n 3, 47, 3, 0, .null) := by decide +kernel
theorem x_225_46 : Tr sc d 225 (46, [l0, l1, l2, some (.int x), l4], [.ref k2, .int i1, .ref k0], h) Q = Tr sc d 225 (47, [l0, l1, l2, some (.int x), l4], [.int x, .ref k2, .int i1, .ref k0], h) Q := t_iload_n k_225_46 rfl
theorem k_225_47 : lk 225 47 = some (.iaload, 48, 0, 0, .null) := by decide +kernel
theorem x_225_47 : Tr sc d 225 (47, [l0, l1, l2, l3, l4], [.int i3, .ref k2, .int i1, .ref k0], h) Q = (iOk sc h k2 i3 ∧ Tr sc d 225 (48, [l0, l1, l2, l3, l4], [.int (iRd sc h k2 i3), .int i1, .ref k0], h) Q) := t_iald k_225_47
theorem k_225_48 : lk 225 48 = some (.imul, 49, 0, 0, .null) := by decide +kernel
theorem x_225_48 : Tr sc d 225 (48, [l0, l1, l2, l3, l4], [.int i2, .int i1, .ref k0], h) Q = Tr sc d 225 (49, [l0, l1, l2, l3, l4], [.int (i1 * i2), .ref k0], h) Q := t_go k_225_48 rfl
theorem k_225_49 : lk 225 49 = some (.iload 4, 51, 4, 0, .null) := by decide +kernel
theorem x_225_49 : Tr sc d 225 (49, [l0, l1, l2, l3, some (.int x)], [.int i1, .ref k0], h) Q = Tr sc d 225 (51, [l0, l1, l2, l3, some (.int x)], [.int x, .int i1, .ref k0], h) Q := t_iload k_225_49 rfl
theorem k_225_51 : lk 225 51 = some (.iadd, 52, 0, 0, .null) := by decide +kernel
theorem x_225_51 : Tr sc d 225 (51, [l0, l1, l2, l3, l4], [.int i2, .int i1, .ref k0], h) Q = Tr sc d 225 (52, [l0, l1, l2, l3, l4], [.int (i1 + i2), .ref k0], h) Q := t_go k_225_51 rfl
theorem k_225_52 : lk 225 52 = some (.baload, 53, 0, 0, .null) := by decide +kernel
theorem x_225_52 : Tr sc d 225 (52, [l0, l1, l2, l3, l4], [.int i1, .ref k0], h) Q = ((okp h k0 13 && inb i1 (LN k0)) = true ∧ Tr sc d 225 (53, [l0, l1, l2, l3, l4], [.int (hI h k0 i1.toNatClampNeg)], h) Q) := t_gd k_225_52 rfl
theorem k_225_53 : lk 225 53 = some (.ifCond .eq 32, 56, 85, 0, .null) := by decide +kernel
theorem x_225_53 : Tr sc d 225 (53, [l0, l1, l2, l3, l4], [.int i0], h) Q = if i0 = 0 then Tr sc d 225 (85, [l0, l1, l2, l3, l4], [], h) Q else Tr sc d 225 (56, [l0, l1, l2, l3, l4], [], h) Q := t_if k_225_53 rfl
theorem k_225_56 : lk 225 56 = some (.aload_n 0, 57, 0, 0, .null) := by decide +kernel
theorem x_225_56 : Tr sc d 225 (56, [some (.ref xk), l1, l2, l3, l4], [], h) Q = Tr sc d 225 (57, [some (.ref xk), l1, l2, l3, l4], [.ref xk], h) Q := t_aload_n k_225_56 rfl
theorem k_225_57 : lk 225 57 = some (.getfield 95, 60, 10, 48, .null) := by decide +kernel
theorem x_225_57 : Tr sc d 225 (57, [l0, l1, l2, l3, l4], [.ref k0], h) Q = (okp h k0 10 = true ∧ ∃ q, hR h k0 48 = some q ∧ Tr sc d 225 (60, [l0, l1, l2, l3, l4], [.ref q], h) Q) := t_getr k_225_57
theorem k_225_60 : lk 225 60 = some (.iload 4, 62, 4, 0, .null) := by decide +kernel
theorem x_225_60 : Tr sc d 225 (60, [l0, l1, l2, l3, some (.int x)], [.ref k0], h) Q = Tr sc d 225 (62, [l0, l1, l2, l3, some (.int x)], [.int x, .ref k0], h) Q := t_iload k_225_60 rfl
theorem k_225_62 : lk 225 62 = some (.baload, 63, 0, 0, .null) := by decide +kernel
theorem x_225_62 : Tr sc d 225 (62, [l0, l1, l2, l3, l4], [.int i1, .ref k0], h) Q = ((okp h k0 13 && inb i1 (LN k0)) = true ∧ Tr sc d 225 (63, [l0, l1, l2, l3, l4], [.int (hI h k0 i1.toNatClampNeg)], h) Q) := t_gd k_225_62 rfl
theorem k_225_63 : lk 225 63 = some (.ifCond .ne 22, 66, 85, 0, .null) := by decide +kernel
theorem x_225_63 : Tr sc d 225 (63, [l0, l1, l2, l3, l4], [.int i0], h) Q = if i0 = 0 then Tr sc d 225 (66, [l0, l1, l2, l3, l4], [], h) Q else Tr sc d 225 (85, [l0, l1, l2, l3, l4], [], h) Q := t_if k_225_63 rfl
theorem k_225_66 : lk 225 66 = some (.aload_n 0, 67, 0, 0, .null) := by decide +kernel
theorem x_225_66 : Tr sc d 225 (66, [some (.ref xk), l1, l2, l3, l4], [], h) Q = Tr sc d 225 (67, [some (.ref xk), l1, l2, l3, l4], [.ref xk], h) Q := t_aload_n k_225_66 rfl
theorem k_225_67 : lk 225 67 = some (.getfield 95, 70, 10, 48, .null) := by decide +kernel
theorem x_225_67 : Tr sc d 225 (67, [l0, l1, l2, l3, l4], [.ref k0], h) Q = (okp h k0 10 = true ∧ ∃ q, hR h k0 48 = some q ∧ Tr sc d 225 (70, [l0, l1, l2, l3, l4], [.ref q], h) Q) := t_getr k_225_67
theorem k_225_70 : lk 225 70 = some (.iload 4, 72, 4, 0, .null) := by decide +kernel
theorem x_225_70 : Tr sc d 225 (70, [l0, l1, l2, l3, some (.int x)], [.ref k0], h) Q = Tr sc d 225 (72, [l0, l1, l2, l3, some (.int x)], [.int x, .ref k0], h) Q := t_iload k_225_70 rfl
theorem k_225_72 : lk 225 72 = some (.iconst 1, 73, 0, 0, .int 1) := by decide +kernel
theorem x_225_72 : Tr sc d 225 (72, [l0, l1, l2, l3, l4], [.int i1, .ref k0], h) Q = Tr sc d 225 (73, [l0, l1, l2, l3, l4], [.int 1, .int i1, .ref k0], h) Q := t_go k_225_72 rfl
theorem k_225_73 : lk 225 73 = some (.bastore, 74, 0, 0, .null) := by decide +kernel
theorem x_225_73 : Tr sc d 225 (73, [l0, l1, l2, l3, l4], [.int i2, .int i1, .ref k0], h) Q = ((okp h k0 13 && inb i1 (LN k0)) = true ∧ Tr sc d 225 (74, [l0, l1, l2, l3, l4], [], (sI h k0 i1.toNatClampNeg (vp_nar .boolean i2))) Q) := t_gd k_225_73 rfl
theorem k_225_74 : lk 225 74 = some (.aload_n 0, 75, 0, 0, .null) := by decide +kernel
theorem x_225_74 : Tr sc d 225 (74, [some (.ref xk), l1, l2, l3, l4], [], h) Q = Tr sc d 225 (75, [some (.ref xk), l1, l2, l3, l4], [.ref xk], h) Q := t_aload_n k_225_74 rfl
theorem k_225_75 : lk 225 75 = some (.getfield 98, 78, 10, 49, .null) := by decide +kernel
theorem x_225_75 : Tr sc d 225 (75, [l0, l1, l2, l3, l4], [.ref k0], h) Q = (okp h k0 10 = true ∧ ∃ q, hR h k0 49 = some q ∧ Tr sc d 225 (78, [l0, l1, l2, l3, l4], [.ref q], h) Q) := t_getr k_225_75
theorem k_225_78 : lk 225 78 = some (.iload_n 2, 79, 2, 0, .null) := by decide +kernel
theorem x_225_78 : Tr sc d 225 (78, [l0, l1, some (.int x), l3, l4], [.ref k0], h) Q = Tr sc d 225 (79, [l0, l1, some (.int x), l3, l4], [.int x, .ref k0], h) Q := t_iload_n k_225_78 rfl
theorem k_225_79 : lk 225 79 = some (.iload 4, 81, 4, 0, .null) := by decide +kernel
theorem x_225_79 : Tr sc d 225 (79, [l0, l1, l2, l3, some (.int x)], [.int i1, .ref k0], h) Q = Tr sc d 225 (81, [l0, l1, l2, l3, some (.int x)], [.int x, .int i1, .ref k0], h) Q := t_iload k_225_79 rfl
theorem k_225_81 : lk 225 81 = some (.iastore, 82, 0, 0, .null) := by decide +kernel
theorem x_225_81 : Tr sc d 225 (81, [l0, l1, l2, l3, l4], [.int i2, .int i1, .ref k0], h) Q = ((okp h k0 11 && inb i1 (LN k0)) = true ∧ Tr sc d 225 (82, [l0, l1, l2, l3, l4], [], (sI h k0 i1.toNatClampNeg i2)) Q) := t_gd k_225_81 rfl
theorem k_225_82 : lk 225 82 = some (.iinc 2 1, 85, 2, 0, .int 1) := by decide +kernel
theorem x_225_82 : Tr sc d 225 (82, [l0, l1, some (.int x), l3, l4], [], h) Q = Tr sc d 225 (85, [l0, cl2 l1, some (.int (x + 1)), l3, l4], [], h) Q := t_inc k_225_82 rfl (Nat.le_of_ble_eq_true rfl)
theorem k_225_85 : lk 225 85 = some (.iinc 4 1, 88, 4, 0, .int 1) := by decide +kernel
theorem x_225_85 : Tr sc d 225 (85, [l0, l1, l2, l3, some (.int x)], [], h) Q = Tr sc d 225 (88, [l0, l1, l2, cl2 l3, some (.int (x + 1))], [], h) Q := t_inc k_225_85 rfl (Nat.le_of_ble_eq_true rfl)
theorem k_225_88 : lk 225 88 = some (.goto (-62), 91, 26, 0, .null) := by decide +kernel
theorem x_225_88 : Tr sc d 225 (88, [l0, l1, l2, l3, l4], [], h) Q = Tr sc d 225 (26, [l0, l1, l2, l3, l4], [], h) Q := t_go k_225_88 rfl
theorem k_225_91 : lk 225 91 = some (.iinc 3 1, 94, 3, 0, .int 1) := by decide +kernel
theorem x_225_91 : Tr sc d 225 (91, [l0, l1, l2, some (.int x), l4], [], h) Q = Tr sc d 225 (94, [l0, l1, cl2 l2, some (.int (x + 1)), l4], [], h) Q := t_inc k_225_91 rfl (Nat.le_of_ble_eq_true rfl)
theorem k_225_94 : lk 225 94 = some (.goto (-76), 97, 18, 0, .null) := by decide +kernel
theorem x_225_94 : Tr sc d 225 (94, [l0, l1, l2, l3, l4], [], h) Q = Tr sc d 225 (18, [l0, l1, l2, l3, l4], [], h) Q := t_go k_225_94 rfl
theorem k_225_97 : lk 225 97 = some (.return_, 98, 0, 0, .null) := by decide +kernel
theorem x_225_97 : Tr sc d 225 (97, [l0, l1, l2, l3, l4], [], h) Q = Q (none, h) := t_ret k_225_97 (by rw [r_225]; rfl)
theorem e_225 : Tr sc d 225 (ent0 225 [.ref k0, .int i1] h) Q = Tr sc d 225 (0, [some (.ref k0), some (.int i1), none, none, none], [], h) Q := by
  have e : mL 225 = 5 := by decide +kernel
  unfold ent0
  rw [e]
  rfl
theorem r_226 : mR 226 = some .int := by decide +kernel
theorem k_226_0 : lk 226 0 = some (.iload_n 2, 1, 2, 0, .null) := by decide +kernel
theorem x_226_0 : Tr sc d 226 (0, [l0, l1, some (.int x), l3], [], h) Q = Tr sc d 226 (1, [l0, l1, some (.int x), l3], [.int x], h) Q := t_iload_n k_226_0 rfl
theorem k_226_1 : lk 226 1 = some (.iconst 0, 2, 0, 0, .int 0) := by decide +kernel
theorem x_226_1 : Tr sc d 226 (1, [l0, l1, l2, l3], [.int i0], h) Q = Tr sc d 226 (2, [l0, l1, l2, l3], [.int 0, .int i0], h) Q := t_go k_226_1 rfl
theorem k_226_2 : lk 226 2 = some (.iconst 3, 3, 0, 0, .int 3) := by decide +kernel
theorem x_226_2 : Tr sc d 226 (2, [l0, l1, l2, l3], [.int i1, .int i0], h) Q = Tr sc d 226 (3, [l0, l1, l2, l3], [.int 3, .int i1, .int i0], h) Q := t_go k_226_2 rfl
theorem k_226_3 : lk 226 3 = some (.invokestatic 144, 6, 156, 3, .null) := by decide +kernel
theorem x_226_3 : Tr sc (d + 1) 226 (3, [l0, l1, l2, l3], [.int i2, .int i1, .int i0], h) Q = Tr sc d 156 (ent0 156 [.int i0, .int i1, .int i2] h) (fun z => Tr sc (d + 1) 226 (6, [l0, l1, l2, l3], z.1.toList ++ [], z.2) Q) := t_cs (as := [.int i0, .int i1, .int i2]) (r := []) k_226_3 (by decide) rfl rfl (Nat.le_of_ble_eq_true rfl) (Nat.le_of_ble_eq_true rfl)
theorem k_226_6 : lk 226 6 = some (.ifCond .ne 5, 9, 11, 0, .null) := by decide +kernel
theorem x_226_6 : Tr sc d 226 (6, [l0, l1, l2, l3], [.int i0], h) Q = if i0 = 0 then Tr sc d 226 (9, [l0, l1, l2, l3], [], h) Q else Tr sc d 226 (11, [l0, l1, l2, l3], [], h) Q := t_if k_226_6 rfl
theorem k_226_9 : lk 226 9 = some (.iconst (-1), 10, 0, 0, .int (-1)) := by decide +kernel
theorem x_226_9 : Tr sc d 226 (9, [l0, l1, l2, l3], [], h) Q = Tr sc d 226 (10, [l0, l1, l2, l3], [.int (-1)], h) Q := t_go k_226_9 rfl
theorem k_226_10 : lk 226 10 = some (.ireturn, 11, 0, 0, .null) := by decide +kernel
theorem x_226_10 : Tr sc d 226 (10, [l0, l1, l2, l3], [.int i0], h) Q = Q (some (.int i0), h) := t_ret k_226_10 (by rw [r_226]; rfl)
theorem k_226_11 : lk 226 11 = some (.aload_n 0, 12, 0, 0, .null) := by decide +kernel
theorem x_226_11 : Tr sc d 226 (11, [some (.ref xk), l1, l2, l3], [], h) Q = Tr sc d 226 (12, [some (.ref xk), l1, l2, l3], [.ref xk], h) Q := t_aload_n k_226_11 rfl
theorem k_226_12 : lk 226 12 = some (.iload_n 1, 13, 1, 0, .null) := by decide +kernel
theorem x_226_12 : Tr sc d 226 (12, [l0, some (.int x), l2, l3], [.ref k0], h) Q = Tr sc d 226 (13, [l0, some (.int x), l2, l3], [.int x, .ref k0], h) Q := t_iload_n k_226_12 rfl
theorem k_226_13 : lk 226 13 = some (.invokevirtual 327, 16, 217, 1, .null) := by decide +kernel
theorem x_226_13 : Tr sc (d + 1) 226 (13, [l0, l1, l2, l3], [.int i1, .ref k0], h) Q = (okp h k0 10 = true ∧ Tr sc d 217 (ent0 217 [.ref k0, .int i1] h) (fun z => Tr sc (d + 1) 226 (16, [l0, l1, l2, l3], z.1.toList ++ [], z.2) Q)) := t_cv (as := [.int i1]) (r := []) k_226_13 rfl rfl (Nat.le_of_ble_eq_true rfl) (Nat.le_of_ble_eq_true rfl) (Nat.le_of_ble_eq_true rfl)
theorem k_226_16 : lk 226 16 = some (.istore_n 3, 17, 3, 0, .null) := by decide +kernel
theorem x_226_16 : Tr sc d 226 (16, [l0, l1, l2, l3], [.int i0], h) Q = Tr sc d 226 (17, [l0, l1, cl2 l2, some (.int i0)], [], h) Q := t_istore_n k_226_16 (Nat.le_of_ble_eq_true rfl)
theorem k_226_17 : lk 226 17 = some (.iload_n 3, 18, 3, 0, .null) := by decide +kernel
theorem x_226_17 : Tr sc d 226 (17, [l0, l1, l2, some (.int x)], [], h) Q = Tr sc d 226 (18, [l0, l1, l2, some (.int x)], [.int x], h) Q := t_iload_n k_226_17 rfl
theorem k_226_18 : lk 226 18 = some (.ifCond .ne 9, 21, 27, 0, .null) := by decide +kernel
theorem x_226_18 : Tr sc d 226 (18, [l0, l1, l2, l3], [.int i0], h) Q = if i0 = 0 then Tr sc d 226 (21, [l0, l1, l2, l3], [], h) Q else Tr sc d 226 (27, [l0, l1, l2, l3], [], h) Q := t_if k_226_18 rfl
theorem k_226_21 : lk 226 21 = some (.aload_n 0, 22, 0, 0, .null) := by decide +kernel
theorem x_226_21 : Tr sc d 226 (21, [some (.ref xk), l1, l2, l3], [], h) Q = Tr sc d 226 (22, [some (.ref xk), l1, l2, l3], [.ref xk], h) Q := t_aload_n k_226_21 rfl
theorem k_226_22 : lk 226 22 = some (.iload_n 1, 23, 1, 0, .null) := by decide +kernel
theorem x_226_22 : Tr sc d 226 (22, [l0, some (.int x), l2, l3], [.ref k0], h) Q = Tr sc d 226 (23, [l0, some (.int x), l2, l3], [.int x, .ref k0], h) Q := t_iload_n k_226_22 rfl
theorem k_226_23 : lk 226 23 = some (.iload_n 2, 24, 2, 0, .null) := by decide +kernel
theorem x_226_23 : Tr sc d 226 (23, [l0, l1, some (.int x), l3], [.int i1, .ref k0], h) Q = Tr sc d 226 (24, [l0, l1, some (.int x), l3], [.int x, .int i1, .ref k0], h) Q := t_iload_n k_226_23 rfl
theorem k_226_24 : lk 226 24 = some (.invokevirtual 307, 27, 203, 2, .null) := by decide +kernel
theorem x_226_24 : Tr sc (d + 1) 226 (24, [l0, l1, l2, l3], [.int i2, .int i1, .ref k0], h) Q = (okp h k0 10 = true ∧ Tr sc d 203 (ent0 203 [.ref k0, .int i1, .int i2] h) (fun z => Tr sc (d + 1) 226 (27, [l0, l1, l2, l3], z.1.toList ++ [], z.2) Q)) := t_cv (as := [.int i1, .int i2]) (r := []) k_226_24 rfl rfl (Nat.le_of_ble_eq_true rfl) (Nat.le_of_ble_eq_true rfl) (Nat.le_of_ble_eq_true rfl)
theorem k_226_27 : lk 226 27 = some (.iload_n 3, 28, 3, 0, .null) := by decide +kernel
theorem x_226_27 : Tr sc d 226 (27, [l0, l1, l2, some (.int x)], [], h) Q = Tr sc d 226 (28, [l0, l1, l2, some (.int x)], [.int x], h) Q := t_iload_n k_226_27 rfl
theorem k_226_28 : lk 226 28 = some (.ireturn, 29, 0, 0, .null) := by decide +kernel
theorem x_226_28 : Tr sc d 226 (28, [l0, l1, l2, l3], [.int i0], h) Q = Q (some (.int i0), h) := t_ret k_226_28 (by rw [r_226]; rfl)
theorem e_226 : Tr sc d 226 (ent0 226 [.ref k0, .int i1, .int i2] h) Q = Tr sc d 226 (0, [some (.ref k0), some (.int i1), some (.int i2), none], [], h) Q := by
  have e : mL 226 = 4 := by decide +kernel
  unfold ent0
  rw [e]
  rfl
theorem r_227 : mR 227 = some .int := by decide +kernel
theorem k_227_0 : lk 227 0 = some (.aload_n 0, 1, 0, 0, .null) := by decide +kernel
theorem x_227_0 : Tr sc d 227 (0, [some (.ref xk), l1, l2, l3, l4], [], h) Q = Tr sc d 227 (1, [some (.ref xk), l1, l2, l3, l4], [.ref xk], h) Q := t_aload_n k_227_0 rfl
theorem k_227_1 : lk 227 1 = some (.iload_n 1, 2, 1, 0, .null) := by decide +kernel
theorem x_227_1 : Tr sc d 227 (1, [l0, some (.int x), l2, l3, l4], [.ref k0], h) Q = Tr sc d 227 (2, [l0, some (.int x), l2, l3, l4], [.int x, .ref k0], h) Q := t_iload_n k_227_1 rfl
theorem k_227_2 : lk 227 2 = some (.iload_n 2, 3, 2, 0, .null) := by decide +kernel
theorem x_227_2 : Tr sc d 227 (2, [l0, l1, some (.int x), l3, l4], [.int i1, .ref k0], h) Q = Tr sc d 227 (3, [l0, l1, some (.int x), l3, l4], [.int x, .int i1, .ref k0], h) Q := t_iload_n k_227_2 rfl
theorem k_227_3 : lk 227 3 = some (.invokevirtual 336, 6, 226, 2, .null) := by decide +kernel
theorem x_227_3 : Tr sc (d + 1) 227 (3, [l0, l1, l2, l3, l4], [.int i2, .int i1, .ref k0], h) Q = (okp h k0 10 = true ∧ Tr sc d 226 (ent0 226 [.ref k0, .int i1, .int i2] h) (fun z => Tr sc (d + 1) 227 (6, [l0, l1, l2, l3, l4], z.1.toList ++ [], z.2) Q)) := t_cv (as := [.int i1, .int i2]) (r := []) k_227_3 rfl rfl (Nat.le_of_ble_eq_true rfl) (Nat.le_of_ble_eq_true rfl) (Nat.le_of_ble_eq_true rfl)
theorem k_227_6 : lk 227 6 = some (.istore_n 3, 7, 3, 0, .null) := by decide +kernel
theorem x_227_6 : Tr sc d 227 (6, [l0, l1, l2, l3, l4], [.int i0], h) Q = Tr sc d 227 (7, [l0, l1, cl2 l2, some (.int i0), l4], [], h) Q := t_istore_n k_227_6 (Nat.le_of_ble_eq_true rfl)
theorem k_227_7 : lk 227 7 = some (.iload_n 3, 8, 3, 0, .null) := by decide +kernel
theorem x_227_7 : Tr sc d 227 (7, [l0, l1, l2, some (.int x), l4], [], h) Q = Tr sc d 227 (8, [l0, l1, l2, some (.int x), l4], [.int x], h) Q := t_iload_n k_227_7 rfl
theorem k_227_8 : lk 227 8 = some (.ifCond .ge 5, 11, 13, 0, .null) := by decide +kernel
theorem x_227_8 : Tr sc d 227 (8, [l0, l1, l2, l3, l4], [.int i0], h) Q = if 0 ≤ i0 then Tr sc d 227 (13, [l0, l1, l2, l3, l4], [], h) Q else Tr sc d 227 (11, [l0, l1, l2, l3, l4], [], h) Q := t_if k_227_8 rfl
theorem k_227_11 : lk 227 11 = some (.iload_n 3, 12, 3, 0, .null) := by decide +kernel
theorem x_227_11 : Tr sc d 227 (11, [l0, l1, l2, some (.int x), l4], [], h) Q = Tr sc d 227 (12, [l0, l1, l2, some (.int x), l4], [.int x], h) Q := t_iload_n k_227_11 rfl
theorem k_227_12 : lk 227 12 = some (.ireturn, 13, 0, 0, .null) := by decide +kernel
theorem x_227_12 : Tr sc d 227 (12, [l0, l1, l2, l3, l4], [.int i0], h) Q = Q (some (.int i0), h) := t_ret k_227_12 (by rw [r_227]; rfl)
theorem k_227_13 : lk 227 13 = some (.aload_n 0, 14, 0, 0, .null) := by decide +kernel
theorem x_227_13 : Tr sc d 227 (13, [some (.ref xk), l1, l2, l3, l4], [], h) Q = Tr sc d 227 (14, [some (.ref xk), l1, l2, l3, l4], [.ref xk], h) Q := t_aload_n k_227_13 rfl
theorem k_227_14 : lk 227 14 = some (.invokevirtual 339, 17, 223, 0, .null) := by decide +kernel
theorem x_227_14 : Tr sc (d + 1) 227 (14, [l0, l1, l2, l3, l4], [.ref k0], h) Q = (okp h k0 10 = true ∧ Tr sc d 223 (ent0 223 [.ref k0] h) (fun z => Tr sc (d + 1) 227 (17, [l0, l1, l2, l3, l4], z.1.toList ++ [], z.2) Q)) := t_cv (as := []) (r := []) k_227_14 rfl rfl (Nat.le_of_ble_eq_true rfl) (Nat.le_of_ble_eq_true rfl) (Nat.le_of_ble_eq_true rfl)
theorem k_227_17 : lk 227 17 = some (.istore 4, 19, 4, 0, .null) := by decide +kernel
theorem x_227_17 : Tr sc d 227 (17, [l0, l1, l2, l3, l4], [.int i0], h) Q = Tr sc d 227 (19, [l0, l1, l2, cl2 l3, some (.int i0)], [], h) Q := t_istore k_227_17 (Nat.le_of_ble_eq_true rfl)
theorem k_227_19 : lk 227 19 = some (.aload_n 0, 20, 0, 0, .null) := by decide +kernel
theorem x_227_19 : Tr sc d 227 (19, [some (.ref xk), l1, l2, l3, l4], [], h) Q = Tr sc d 227 (20, [some (.ref xk), l1, l2, l3, l4], [.ref xk], h) Q := t_aload_n k_227_19 rfl
theorem k_227_20 : lk 227 20 = some (.aload_n 0, 21, 0, 0, .null) := by decide +kernel
theorem x_227_20 : Tr sc d 227 (20, [some (.ref xk), l1, l2, l3, l4], [.ref k0], h) Q = Tr sc d 227 (21, [some (.ref xk), l1, l2, l3, l4], [.ref xk, .ref k0], h) Q := t_aload_n k_227_20 rfl
theorem k_227_21 : lk 227 21 = some (.bipush (-9), 23, 0, 0, .int (-9)) := by decide +kernel
theorem x_227_21 : Tr sc d 227 (21, [l0, l1, l2, l3, l4], [.ref k1, .ref k0], h) Q = Tr sc d 227 (23, [l0, l1, l2, l3, l4], [.int (-9), .ref k1, .ref k0], h) Q := t_go k_227_21 rfl
theorem k_227_23 : lk 227 23 = some (.invokevirtual 343, 26, 224, 1, .null) := by decide +kernel
theorem x_227_23 : Tr sc (d + 1) 227 (23, [l0, l1, l2, l3, l4], [.int i2, .ref k1, .ref k0], h) Q = (okp h k1 10 = true ∧ Tr sc d 224 (ent0 224 [.ref k1, .int i2] h) (fun z => Tr sc (d + 1) 227 (26, [l0, l1, l2, l3, l4], z.1.toList ++ [.ref k0], z.2) Q)) := t_cv (as := [.int i2]) (r := [.ref k0]) k_227_23 rfl rfl (Nat.le_of_ble_eq_true rfl) (Nat.le_of_ble_eq_true rfl) (Nat.le_of_ble_eq_true rfl)
theorem k_227_26 : lk 227 26 = some (.i2l, 27, 0, 0, .null) := by decide +kernel
theorem x_227_26 : Tr sc d 227 (26, [l0, l1, l2, l3, l4], [.int i1, .ref k0], h) Q = Tr sc d 227 (27, [l0, l1, l2, l3, l4], [.long i1.toInt64, .ref k0], h) Q := t_go k_227_26 rfl
theorem k_227_27 : lk 227 27 = some (.putfield 267, 30, 10, 3, .long 0) := by decide +kernel
theorem x_227_27 : Tr sc d 227 (27, [l0, l1, l2, l3, l4], [.long j1, .ref k0], h) Q = (okp h k0 10 = true ∧ Tr sc d 227 (30, [l0, l1, l2, l3, l4], [], (sL h k0 3 j1)) Q) := t_gd k_227_27 rfl
theorem k_227_30 : lk 227 30 = some (.iload 4, 32, 4, 0, .null) := by decide +kernel
theorem x_227_30 : Tr sc d 227 (30, [l0, l1, l2, l3, some (.int x)], [], h) Q = Tr sc d 227 (32, [l0, l1, l2, l3, some (.int x)], [.int x], h) Q := t_iload k_227_30 rfl
theorem k_227_32 : lk 227 32 = some (.ireturn, 33, 0, 0, .null) := by decide +kernel
theorem x_227_32 : Tr sc d 227 (32, [l0, l1, l2, l3, l4], [.int i0], h) Q = Q (some (.int i0), h) := t_ret k_227_32 (by rw [r_227]; rfl)
theorem e_227 : Tr sc d 227 (ent0 227 [.ref k0, .int i1, .int i2] h) Q = Tr sc d 227 (0, [some (.ref k0), some (.int i1), some (.int i2), none, none], [], h) Q := by
  have e : mL 227 = 5 := by decide +kernel
  unfold ent0
  rw [e]
  rfl
theorem r_228 : mR 228 = some .int := by decide +kernel
theorem k_228_0 : lk 228 0 = some (.aload_n 0, 1, 0, 0, .null) := by decide +kernel
theorem x_228_0 : Tr sc d 228 (0, [some (.ref xk), l1, l2, l3, l4, l5, l6, l7], [], h) Q = Tr sc d 228 (1, [some (.ref xk), l1, l2, l3, l4, l5, l6, l7], [.ref xk], h) Q := t_aload_n k_228_0 rfl
theorem k_228_1 : lk 228 1 = some (.iload_n 1, 2, 1, 0, .null) := by decide +kernel
theorem x_228_1 : Tr sc d 228 (1, [l0, some (.int x), l2, l3, l4, l5, l6, l7], [.ref k0], h) Q = Tr sc d 228 (2, [l0, some (.int x), l2, l3, l4, l5, l6, l7], [.int x, .ref k0], h) Q := t_iload_n k_228_1 rfl
theorem k_228_2 : lk 228 2 = some (.iload_n 2, 3, 2, 0, .null) := by decide +kernel
theorem x_228_2 : Tr sc d 228 (2, [l0, l1, some (.int x), l3, l4, l5, l6, l7], [.int i1, .ref k0], h) Q = Tr sc d 228 (3, [l0, l1, some (.int x), l3, l4, l5, l6, l7], [.int x, .int i1, .ref k0], h) Q := t_iload_n k_228_2 rfl
theorem k_228_3 : lk 228 3 = some (.invokevirtual 336, 6, 226, 2, .null) := by decide +kernel
theorem x_228_3 : Tr sc (d + 1) 228 (3, [l0, l1, l2, l3, l4, l5, l6, l7], [.int i2, .int i1, .ref k0], h) Q = (okp h k0 10 = true ∧ Tr sc d 226 (ent0 226 [.ref k0, .int i1, .int i2] h) (fun z => Tr sc (d + 1) 228 (6, [l0, l1, l2, l3, l4, l5, l6, l7], z.1.toList ++ [], z.2) Q)) := t_cv (as := [.int i1, .int i2]) (r := []) k_228_3 rfl rfl (Nat.le_of_ble_eq_true rfl) (Nat.le_of_ble_eq_true rfl) (Nat.le_of_ble_eq_true rfl)
theorem k_228_6 : lk 228 6 = some (.istore_n 3, 7, 3, 0, .null) := by decide +kernel
theorem x_228_6 : Tr sc d 228 (6, [l0, l1, l2, l3, l4, l5, l6, l7], [.int i0], h) Q = Tr sc d 228 (7, [l0, l1, cl2 l2, some (.int i0), l4, l5, l6, l7], [], h) Q := t_istore_n k_228_6 (Nat.le_of_ble_eq_true rfl)
theorem k_228_7 : lk 228 7 = some (.iload_n 3, 8, 3, 0, .null) := by decide +kernel
theorem x_228_7 : Tr sc d 228 (7, [l0, l1, l2, some (.int x), l4, l5, l6, l7], [], h) Q = Tr sc d 228 (8, [l0, l1, l2, some (.int x), l4, l5, l6, l7], [.int x], h) Q := t_iload_n k_228_7 rfl
theorem k_228_8 : lk 228 8 = some (.ifCond .ge 5, 11, 13, 0, .null) := by decide +kernel
theorem x_228_8 : Tr sc d 228 (8, [l0, l1, l2, l3, l4, l5, l6, l7], [.int i0], h) Q = if 0 ≤ i0 then Tr sc d 228 (13, [l0, l1, l2, l3, l4, l5, l6, l7], [], h) Q else Tr sc d 228 (11, [l0, l1, l2, l3, l4, l5, l6, l7], [], h) Q := t_if k_228_8 rfl
theorem k_228_11 : lk 228 11 = some (.iload_n 3, 12, 3, 0, .null) := by decide +kernel
theorem x_228_11 : Tr sc d 228 (11, [l0, l1, l2, some (.int x), l4, l5, l6, l7], [], h) Q = Tr sc d 228 (12, [l0, l1, l2, some (.int x), l4, l5, l6, l7], [.int x], h) Q := t_iload_n k_228_11 rfl
theorem k_228_12 : lk 228 12 = some (.ireturn, 13, 0, 0, .null) := by decide +kernel
theorem x_228_12 : Tr sc d 228 (12, [l0, l1, l2, l3, l4, l5, l6, l7], [.int i0], h) Q = Q (some (.int i0), h) := t_ret k_228_12 (by rw [r_228]; rfl)
theorem k_228_13 : lk 228 13 = some (.aload_n 0, 14, 0, 0, .null) := by decide +kernel
theorem x_228_13 : Tr sc d 228 (13, [some (.ref xk), l1, l2, l3, l4, l5, l6, l7], [], h) Q = Tr sc d 228 (14, [some (.ref xk), l1, l2, l3, l4, l5, l6, l7], [.ref xk], h) Q := t_aload_n k_228_13 rfl
theorem k_228_14 : lk 228 14 = some (.invokevirtual 339, 17, 223, 0, .null) := by decide +kernel
theorem x_228_14 : Tr sc (d + 1) 228 (14, [l0, l1, l2, l3, l4, l5, l6, l7], [.ref k0], h) Q = (okp h k0 10 = true ∧ Tr sc d 223 (ent0 223 [.ref k0] h) (fun z => Tr sc (d + 1) 228 (17, [l0, l1, l2, l3, l4, l5, l6, l7], z.1.toList ++ [], z.2) Q)) := t_cv (as := []) (r := []) k_228_14 rfl rfl (Nat.le_of_ble_eq_true rfl) (Nat.le_of_ble_eq_true rfl) (Nat.le_of_ble_eq_true rfl)
theorem k_228_17 : lk 228 17 = some (.istore 4, 19, 4, 0, .null) := by decide +kernel
theorem x_228_17 : Tr sc d 228 (17, [l0, l1, l2, l3, l4, l5, l6, l7], [.int i0], h) Q = Tr sc d 228 (19, [l0, l1, l2, cl2 l3, some (.int i0), l5, l6, l7], [], h) Q := t_istore k_228_17 (Nat.le_of_ble_eq_true rfl)
theorem k_228_19 : lk 228 19 = some (.aload_n 0, 20, 0, 0, .null) := by decide +kernel
theorem x_228_19 : Tr sc d 228 (19, [some (.ref xk), l1, l2, l3, l4, l5, l6, l7], [], h) Q = Tr sc d 228 (20, [some (.ref xk), l1, l2, l3, l4, l5, l6, l7], [.ref xk], h) Q := t_aload_n k_228_19 rfl
theorem k_228_20 : lk 228 20 = some (.bipush (-9), 22, 0, 0, .int (-9)) := by decide +kernel
theorem x_228_20 : Tr sc d 228 (20, [l0, l1, l2, l3, l4, l5, l6, l7], [.ref k0], h) Q = Tr sc d 228 (22, [l0, l1, l2, l3, l4, l5, l6, l7], [.int (-9), .ref k0], h) Q := t_go k_228_20 rfl
theorem k_228_22 : lk 228 22 = some (.invokevirtual 343, 25, 224, 1, .null) := by decide +kernel
theorem x_228_22 : Tr sc (d + 1) 228 (22, [l0, l1, l2, l3, l4, l5, l6, l7], [.int i1, .ref k0], h) Q = (okp h k0 10 = true ∧ Tr sc d 224 (ent0 224 [.ref k0, .int i1] h) (fun z => Tr sc (d + 1) 228 (25, [l0, l1, l2, l3, l4, l5, l6, l7], z.1.toList ++ [], z.2) Q)) := t_cv (as := [.int i1]) (r := []) k_228_22 rfl rfl (Nat.le_of_ble_eq_true rfl) (Nat.le_of_ble_eq_true rfl) (Nat.le_of_ble_eq_true rfl)
theorem k_228_25 : lk 228 25 = some (.istore 5, 27, 5, 0, .null) := by decide +kernel
theorem x_228_25 : Tr sc d 228 (25, [l0, l1, l2, l3, l4, l5, l6, l7], [.int i0], h) Q = Tr sc d 228 (27, [l0, l1, l2, l3, cl2 l4, some (.int i0), l6, l7], [], h) Q := t_istore k_228_25 (Nat.le_of_ble_eq_true rfl)
theorem k_228_27 : lk 228 27 = some (.iconst 0, 28, 0, 0, .int 0) := by decide +kernel
theorem x_228_27 : Tr sc d 228 (27, [l0, l1, l2, l3, l4, l5, l6, l7], [], h) Q = Tr sc d 228 (28, [l0, l1, l2, l3, l4, l5, l6, l7], [.int 0], h) Q := t_go k_228_27 rfl
theorem k_228_28 : lk 228 28 = some (.istore 6, 30, 6, 0, .null) := by decide +kernel
theorem x_228_28 : Tr sc d 228 (28, [l0, l1, l2, l3, l4, l5, l6, l7], [.int i0], h) Q = Tr sc d 228 (30, [l0, l1, l2, l3, l4, cl2 l5, some (.int i0), l7], [], h) Q := t_istore k_228_28 (Nat.le_of_ble_eq_true rfl)
theorem k_228_30 : lk 228 30 = some (.iconst 0, 31, 0, 0, .int 0) := by decide +kernel
theorem x_228_30 : Tr sc d 228 (30, [l0, l1, l2, l3, l4, l5, l6, l7], [], h) Q = Tr sc d 228 (31, [l0, l1, l2, l3, l4, l5, l6, l7], [.int 0], h) Q := t_go k_228_30 rfl
theorem k_228_31 : lk 228 31 = some (.istore 7, 33, 7, 0, .null) := by decide +kernel
theorem x_228_31 : Tr sc d 228 (31, [l0, l1, l2, l3, l4, l5, l6, l7], [.int i0], h) Q = Tr sc d 228 (33, [l0, l1, l2, l3, l4, l5, cl2 l6, some (.int i0)], [], h) Q := t_istore k_228_31 (Nat.le_of_ble_eq_true rfl)
theorem k_228_33 : lk 228 33 = some (.iload 7, 35, 7, 0, .null) := by decide +kernel
theorem x_228_33 : Tr sc d 228 (33, [l0, l1, l2, l3, l4, l5, l6, some (.int x)], [], h) Q = Tr sc d 228 (35, [l0, l1, l2, l3, l4, l5, l6, some (.int x)], [.int x], h) Q := t_iload k_228_33 rfl
theorem k_228_35 : lk 228 35 = some (.aload_n 0, 36, 0, 0, .null) := by decide +kernel
theorem x_228_35 : Tr sc d 228 (35, [some (.ref xk), l1, l2, l3, l4, l5, l6, l7], [.int i0], h) Q = Tr sc d 228 (36, [some (.ref xk), l1, l2, l3, l4, l5, l6, l7], [.ref xk, .int i0], h) Q := t_aload_n k_228_35 rfl
theorem k_228_36 : lk 228 36 = some (.getfield 283, 39, 10, 36, .int 0) := by decide +kernel
theorem x_228_36 : Tr sc d 228 (36, [l0, l1, l2, l3, l4, l5, l6, l7], [.ref k1, .int i0], h) Q = (okp h k1 10 = true ∧ Tr sc d 228 (39, [l0, l1, l2, l3, l4, l5, l6, l7], [.int (hI h k1 36), .int i0], h) Q) := t_gd k_228_36 rfl
theorem k_228_39 : lk 228 39 = some (.if_icmp .ge 30, 42, 69, 0, .null) := by decide +kernel
theorem x_228_39 : Tr sc d 228 (39, [l0, l1, l2, l3, l4, l5, l6, l7], [.int i1, .int i0], h) Q = if i1 ≤ i0 then Tr sc d 228 (69, [l0, l1, l2, l3, l4, l5, l6, l7], [], h) Q else Tr sc d 228 (42, [l0, l1, l2, l3, l4, l5, l6, l7], [], h) Q := t_if k_228_39 rfl
theorem k_228_42 : lk 228 42 = some (.iload 6, 44, 6, 0, .null) := by decide +kernel
theorem x_228_42 : Tr sc d 228 (42, [l0, l1, l2, l3, l4, l5, some (.int x), l7], [], h) Q = Tr sc d 228 (44, [l0, l1, l2, l3, l4, l5, some (.int x), l7], [.int x], h) Q := t_iload k_228_42 rfl
theorem k_228_44 : lk 228 44 = some (.aload_n 0, 45, 0, 0, .null) := by decide +kernel
theorem x_228_44 : Tr sc d 228 (44, [some (.ref xk), l1, l2, l3, l4, l5, l6, l7], [.int i0], h) Q = Tr sc d 228 (45, [some (.ref xk), l1, l2, l3, l4, l5, l6, l7], [.ref xk, .int i0], h) Q := t_aload_n k_228_44 rfl
theorem k_228_45 : lk 228 45 = some (.iload 7, 47, 7, 0, .null) := by decide +kernel
theorem x_228_45 : Tr sc d 228 (45, [l0, l1, l2, l3, l4, l5, l6, some (.int x)], [.ref k1, .int i0], h) Q = Tr sc d 228 (47, [l0, l1, l2, l3, l4, l5, l6, some (.int x)], [.int x, .ref k1, .int i0], h) Q := t_iload k_228_45 rfl
theorem k_228_47 : lk 228 47 = some (.invokevirtual 343, 50, 224, 1, .null) := by decide +kernel
theorem x_228_47 : Tr sc (d + 1) 228 (47, [l0, l1, l2, l3, l4, l5, l6, l7], [.int i2, .ref k1, .int i0], h) Q = (okp h k1 10 = true ∧ Tr sc d 224 (ent0 224 [.ref k1, .int i2] h) (fun z => Tr sc (d + 1) 228 (50, [l0, l1, l2, l3, l4, l5, l6, l7], z.1.toList ++ [.int i0], z.2) Q)) := t_cv (as := [.int i2]) (r := [.int i0]) k_228_47 rfl rfl (Nat.le_of_ble_eq_true rfl) (Nat.le_of_ble_eq_true rfl) (Nat.le_of_ble_eq_true rfl)
theorem k_228_50 : lk 228 50 = some (.iload 5, 52, 5, 0, .null) := by decide +kernel
theorem x_228_50 : Tr sc d 228 (50, [l0, l1, l2, l3, l4, some (.int x), l6, l7], [.int i1, .int i0], h) Q = Tr sc d 228 (52, [l0, l1, l2, l3, l4, some (.int x), l6, l7], [.int x, .int i1, .int i0], h) Q := t_iload k_228_50 rfl
theorem k_228_52 : lk 228 52 = some (.if_icmp .le 7, 55, 59, 0, .null) := by decide +kernel
theorem x_228_52 : Tr sc d 228 (52, [l0, l1, l2, l3, l4, l5, l6, l7], [.int i2, .int i1, .int i0], h) Q = if i1 ≤ i2 then Tr sc d 228 (59, [l0, l1, l2, l3, l4, l5, l6, l7], [.int i0], h) Q else Tr sc d 228 (55, [l0, l1, l2, l3, l4, l5, l6, l7], [.int i0], h) Q := t_if k_228_52 rfl
theorem k_228_55 : lk 228 55 = some (.iconst 1, 56, 0, 0, .int 1) := by decide +kernel
theorem x_228_55 : Tr sc d 228 (55, [l0, l1, l2, l3, l4, l5, l6, l7], [.int i0], h) Q = Tr sc d 228 (56, [l0, l1, l2, l3, l4, l5, l6, l7], [.int 1, .int i0], h) Q := t_go k_228_55 rfl
theorem k_228_56 : lk 228 56 = some (.goto 4, 59, 60, 0, .null) := by decide +kernel
theorem x_228_56 : Tr sc d 228 (56, [l0, l1, l2, l3, l4, l5, l6, l7], [.int i1, .int i0], h) Q = Tr sc d 228 (60, [l0, l1, l2, l3, l4, l5, l6, l7], [.int i1, .int i0], h) Q := t_go k_228_56 rfl
theorem k_228_59 : lk 228 59 = some (.iconst 0, 60, 0, 0, .int 0) := by decide +kernel
theorem x_228_59 : Tr sc d 228 (59, [l0, l1, l2, l3, l4, l5, l6, l7], [.int i0], h) Q = Tr sc d 228 (60, [l0, l1, l2, l3, l4, l5, l6, l7], [.int 0, .int i0], h) Q := t_go k_228_59 rfl
theorem k_228_60 : lk 228 60 = some (.iadd, 61, 0, 0, .null) := by decide +kernel
theorem x_228_60 : Tr sc d 228 (60, [l0, l1, l2, l3, l4, l5, l6, l7], [.int i1, .int i0], h) Q = Tr sc d 228 (61, [l0, l1, l2, l3, l4, l5, l6, l7], [.int (i0 + i1)], h) Q := t_go k_228_60 rfl
theorem k_228_61 : lk 228 61 = some (.istore 6, 63, 6, 0, .null) := by decide +kernel
theorem x_228_61 : Tr sc d 228 (61, [l0, l1, l2, l3, l4, l5, l6, l7], [.int i0], h) Q = Tr sc d 228 (63, [l0, l1, l2, l3, l4, cl2 l5, some (.int i0), l7], [], h) Q := t_istore k_228_61 (Nat.le_of_ble_eq_true rfl)
theorem k_228_63 : lk 228 63 = some (.iinc 7 1, 66, 7, 0, .int 1) := by decide +kernel
theorem x_228_63 : Tr sc d 228 (63, [l0, l1, l2, l3, l4, l5, l6, some (.int x)], [], h) Q = Tr sc d 228 (66, [l0, l1, l2, l3, l4, l5, cl2 l6, some (.int (x + 1))], [], h) Q := t_inc k_228_63 rfl (Nat.le_of_ble_eq_true rfl)
theorem k_228_66 : lk 228 66 = some (.goto (-33), 69, 33, 0, .null) := by decide +kernel
theorem x_228_66 : Tr sc d 228 (66, [l0, l1, l2, l3, l4, l5, l6, l7], [], h) Q = Tr sc d 228 (33, [l0, l1, l2, l3, l4, l5, l6, l7], [], h) Q := t_go k_228_66 rfl
theorem k_228_69 : lk 228 69 = some (.aload_n 0, 70, 0, 0, .null) := by decide +kernel
theorem x_228_69 : Tr sc d 228 (69, [some (.ref xk), l1, l2, l3, l4, l5, l6, l7], [], h) Q = Tr sc d 228 (70, [some (.ref xk), l1, l2, l3, l4, l5, l6, l7], [.ref xk], h) Q := t_aload_n k_228_69 rfl
theorem k_228_70 : lk 228 70 = some (.iload 6, 72, 6, 0, .null) := by decide +kernel
theorem x_228_70 : Tr sc d 228 (70, [l0, l1, l2, l3, l4, l5, some (.int x), l7], [.ref k0], h) Q = Tr sc d 228 (72, [l0, l1, l2, l3, l4, l5, some (.int x), l7], [.int x, .ref k0], h) Q := t_iload k_228_70 rfl
theorem k_228_72 : lk 228 72 = some (.i2l, 73, 0, 0, .null) := by decide +kernel
theorem x_228_72 : Tr sc d 228 (72, [l0, l1, l2, l3, l4, l5, l6, l7], [.int i1, .ref k0], h) Q = Tr sc d 228 (73, [l0, l1, l2, l3, l4, l5, l6, l7], [.long i1.toInt64, .ref k0], h) Q := t_go k_228_72 rfl
theorem k_228_73 : lk 228 73 = some (.putfield 267, 76, 10, 3, .long 0) := by decide +kernel
theorem x_228_73 : Tr sc d 228 (73, [l0, l1, l2, l3, l4, l5, l6, l7], [.long j1, .ref k0], h) Q = (okp h k0 10 = true ∧ Tr sc d 228 (76, [l0, l1, l2, l3, l4, l5, l6, l7], [], (sL h k0 3 j1)) Q) := t_gd k_228_73 rfl
theorem k_228_76 : lk 228 76 = some (.iload 4, 78, 4, 0, .null) := by decide +kernel
theorem x_228_76 : Tr sc d 228 (76, [l0, l1, l2, l3, some (.int x), l5, l6, l7], [], h) Q = Tr sc d 228 (78, [l0, l1, l2, l3, some (.int x), l5, l6, l7], [.int x], h) Q := t_iload k_228_76 rfl
theorem k_228_78 : lk 228 78 = some (.aload_n 0, 79, 0, 0, .null) := by decide +kernel
theorem x_228_78 : Tr sc d 228 (78, [some (.ref xk), l1, l2, l3, l4, l5, l6, l7], [.int i0], h) Q = Tr sc d 228 (79, [some (.ref xk), l1, l2, l3, l4, l5, l6, l7], [.ref xk, .int i0], h) Q := t_aload_n k_228_78 rfl
theorem k_228_79 : lk 228 79 = some (.getfield 283, 82, 10, 36, .int 0) := by decide +kernel
theorem x_228_79 : Tr sc d 228 (79, [l0, l1, l2, l3, l4, l5, l6, l7], [.ref k1, .int i0], h) Q = (okp h k1 10 = true ∧ Tr sc d 228 (82, [l0, l1, l2, l3, l4, l5, l6, l7], [.int (hI h k1 36), .int i0], h) Q) := t_gd k_228_79 rfl
theorem k_228_82 : lk 228 82 = some (.isub, 83, 0, 0, .null) := by decide +kernel
theorem x_228_82 : Tr sc d 228 (82, [l0, l1, l2, l3, l4, l5, l6, l7], [.int i1, .int i0], h) Q = Tr sc d 228 (83, [l0, l1, l2, l3, l4, l5, l6, l7], [.int (i0 - i1)], h) Q := t_go k_228_82 rfl
theorem k_228_83 : lk 228 83 = some (.iload 5, 85, 5, 0, .null) := by decide +kernel
theorem x_228_83 : Tr sc d 228 (83, [l0, l1, l2, l3, l4, some (.int x), l6, l7], [.int i0], h) Q = Tr sc d 228 (85, [l0, l1, l2, l3, l4, some (.int x), l6, l7], [.int x, .int i0], h) Q := t_iload k_228_83 rfl
theorem k_228_85 : lk 228 85 = some (.iadd, 86, 0, 0, .null) := by decide +kernel
theorem x_228_85 : Tr sc d 228 (85, [l0, l1, l2, l3, l4, l5, l6, l7], [.int i1, .int i0], h) Q = Tr sc d 228 (86, [l0, l1, l2, l3, l4, l5, l6, l7], [.int (i0 + i1)], h) Q := t_go k_228_85 rfl
theorem k_228_86 : lk 228 86 = some (.ireturn, 87, 0, 0, .null) := by decide +kernel
theorem x_228_86 : Tr sc d 228 (86, [l0, l1, l2, l3, l4, l5, l6, l7], [.int i0], h) Q = Q (some (.int i0), h) := t_ret k_228_86 (by rw [r_228]; rfl)
theorem e_228 : Tr sc d 228 (ent0 228 [.ref k0, .int i1, .int i2] h) Q = Tr sc d 228 (0, [some (.ref k0), some (.int i1), some (.int i2), none, none, none, none, none], [], h) Q := by
  have e : mL 228 = 8 := by decide +kernel
  unfold ent0
  rw [e]
  rfl
theorem r_229 : mR 229 = none := by decide +kernel
theorem k_229_0 : lk 229 0 = some (.iconst 0, 1, 0, 0, .int 0) := by decide +kernel
theorem x_229_0 : Tr sc d 229 (0, [l0, l1, l2, l3, l4], [], h) Q = Tr sc d 229 (1, [l0, l1, l2, l3, l4], [.int 0], h) Q := t_go k_229_0 rfl
theorem k_229_1 : lk 229 1 = some (.istore_n 2, 2, 2, 0, .null) := by decide +kernel
theorem x_229_1 : Tr sc d 229 (1, [l0, l1, l2, l3, l4], [.int i0], h) Q = Tr sc d 229 (2, [l0, cl2 l1, some (.int i0), l3, l4], [], h) Q := t_istore_n k_229_1 (Nat.le_of_ble_eq_true rfl)
theorem k_229_2 : lk 229 2 = some (.iload_n 2, 3, 2, 0, .null) := by decide +kernel
theorem x_229_2 : Tr sc d 229 (2, [l0, l1, some (.int x), l3, l4], [], h) Q = Tr sc d 229 (3, [l0, l1, some (.int x), l3, l4], [.int x], h) Q := t_iload_n k_229_2 rfl
theorem k_229_3 : lk 229 3 = some (.aload_n 0, 4, 0, 0, .null) := by decide +kernel
theorem x_229_3 : Tr sc d 229 (3, [some (.ref xk), l1, l2, l3, l4], [.int i0], h) Q = Tr sc d 229 (4, [some (.ref xk), l1, l2, l3, l4], [.ref xk, .int i0], h) Q := t_aload_n k_229_3 rfl
theorem k_229_4 : lk 229 4 = some (.getfield 41, 7, 10, 18, .null) := by decide +kernel
theorem x_229_4 : Tr sc d 229 (4, [l0, l1, l2, l3, l4], [.ref k1, .int i0], h) Q = (okp h k1 10 = true ∧ ∃ q, hR h k1 18 = some q ∧ Tr sc d 229 (7, [l0, l1, l2, l3, l4], [.ref q, .int i0], h) Q) := t_getr k_229_4
theorem k_229_7 : lk 229 7 = some (.iload_n 1, 8, 1, 0, .null) := by decide +kernel
theorem x_229_7 : Tr sc d 229 (7, [l0, some (.int x), l2, l3, l4], [.ref k1, .int i0], h) Q = Tr sc d 229 (8, [l0, some (.int x), l2, l3, l4], [.int x, .ref k1, .int i0], h) Q := t_iload_n k_229_7 rfl
theorem k_229_8 : lk 229 8 = some (.iaload, 9, 0, 0, .null) := by decide +kernel
theorem x_229_8 : Tr sc d 229 (8, [l0, l1, l2, l3, l4], [.int i2, .ref k1, .int i0], h) Q = (iOk sc h k1 i2 ∧ Tr sc d 229 (9, [l0, l1, l2, l3, l4], [.int (iRd sc h k1 i2), .int i0], h) Q) := t_iald k_229_8
theorem k_229_9 : lk 229 9 = some (.if_icmp .ge 158, 12, 167, 0, .null) := by decide +kernel
theorem x_229_9 : Tr sc d 229 (9, [l0, l1, l2, l3, l4], [.int i1, .int i0], h) Q = if i1 ≤ i0 then Tr sc d 229 (167, [l0, l1, l2, l3, l4], [], h) Q else Tr sc d 229 (12, [l0, l1, l2, l3, l4], [], h) Q := t_if k_229_9 rfl
theorem k_229_12 : lk 229 12 = some (.aload_n 0, 13, 0, 0, .null) := by decide +kernel
theorem x_229_12 : Tr sc d 229 (12, [some (.ref xk), l1, l2, l3, l4], [], h) Q = Tr sc d 229 (13, [some (.ref xk), l1, l2, l3, l4], [.ref xk], h) Q := t_aload_n k_229_12 rfl
theorem k_229_13 : lk 229 13 = some (.getfield 47, 16, 10, 20, .null) := by decide +kernel
theorem x_229_13 : Tr sc d 229 (13, [l0, l1, l2, l3, l4], [.ref k0], h) Q = (okp h k0 10 = true ∧ ∃ q, hR h k0 20 = some q ∧ Tr sc d 229 (16, [l0, l1, l2, l3, l4], [.ref q], h) Q) := t_getr k_229_13
theorem k_229_16 : lk 229 16 = some (.bipush 6, 18, 0, 0, .int 6) := by decide +kernel
theorem x_229_16 : Tr sc d 229 (16, [l0, l1, l2, l3, l4], [.ref k0], h) Q = Tr sc d 229 (18, [l0, l1, l2, l3, l4], [.int 6, .ref k0], h) Q := t_go k_229_16 rfl
theorem k_229_18 : lk 229 18 = some (.iload_n 1, 19, 1, 0, .null) := by decide +kernel
theorem x_229_18 : Tr sc d 229 (18, [l0, some (.int x), l2, l3, l4], [.int i1, .ref k0], h) Q = Tr sc d 229 (19, [l0, some (.int x), l2, l3, l4], [.int x, .int i1, .ref k0], h) Q := t_iload_n k_229_18 rfl
theorem k_229_19 : lk 229 19 = some (.imul, 20, 0, 0, .null) := by decide +kernel
theorem x_229_19 : Tr sc d 229 (19, [l0, l1, l2, l3, l4], [.int i2, .int i1, .ref k0], h) Q = Tr sc d 229 (20, [l0, l1, l2, l3, l4], [.int (i1 * i2), .ref k0], h) Q := t_go k_229_19 rfl
theorem k_229_20 : lk 229 20 = some (.iload_n 2, 21, 2, 0, .null) := by decide +kernel
theorem x_229_20 : Tr sc d 229 (20, [l0, l1, some (.int x), l3, l4], [.int i1, .ref k0], h) Q = Tr sc d 229 (21, [l0, l1, some (.int x), l3, l4], [.int x, .int i1, .ref k0], h) Q := t_iload_n k_229_20 rfl
theorem k_229_21 : lk 229 21 = some (.iadd, 22, 0, 0, .null) := by decide +kernel
theorem x_229_21 : Tr sc d 229 (21, [l0, l1, l2, l3, l4], [.int i2, .int i1, .ref k0], h) Q = Tr sc d 229 (22, [l0, l1, l2, l3, l4], [.int (i1 + i2), .ref k0], h) Q := t_go k_229_21 rfl
theorem k_229_22 : lk 229 22 = some (.iaload, 23, 0, 0, .null) := by decide +kernel
theorem x_229_22 : Tr sc d 229 (22, [l0, l1, l2, l3, l4], [.int i1, .ref k0], h) Q = (iOk sc h k0 i1 ∧ Tr sc d 229 (23, [l0, l1, l2, l3, l4], [.int (iRd sc h k0 i1)], h) Q) := t_iald k_229_22
theorem k_229_23 : lk 229 23 = some (.istore_n 3, 24, 3, 0, .null) := by decide +kernel
theorem x_229_23 : Tr sc d 229 (23, [l0, l1, l2, l3, l4], [.int i0], h) Q = Tr sc d 229 (24, [l0, l1, cl2 l2, some (.int i0), l4], [], h) Q := t_istore_n k_229_23 (Nat.le_of_ble_eq_true rfl)
theorem k_229_24 : lk 229 24 = some (.aload_n 0, 25, 0, 0, .null) := by decide +kernel
theorem x_229_24 : Tr sc d 229 (24, [some (.ref xk), l1, l2, l3, l4], [], h) Q = Tr sc d 229 (25, [some (.ref xk), l1, l2, l3, l4], [.ref xk], h) Q := t_aload_n k_229_24 rfl
theorem k_229_25 : lk 229 25 = some (.getfield 50, 28, 10, 21, .null) := by decide +kernel
theorem x_229_25 : Tr sc d 229 (25, [l0, l1, l2, l3, l4], [.ref k0], h) Q = (okp h k0 10 = true ∧ ∃ q, hR h k0 21 = some q ∧ Tr sc d 229 (28, [l0, l1, l2, l3, l4], [.ref q], h) Q) := t_getr k_229_25
theorem k_229_28 : lk 229 28 = some (.bipush 6, 30, 0, 0, .int 6) := by decide +kernel
theorem x_229_28 : Tr sc d 229 (28, [l0, l1, l2, l3, l4], [.ref k0], h) Q = Tr sc d 229 (30, [l0, l1, l2, l3, l4], [.int 6, .ref k0], h) Q := t_go k_229_28 rfl
theorem k_229_30 : lk 229 30 = some (.iload_n 1, 31, 1, 0, .null) := by decide +kernel
theorem x_229_30 : Tr sc d 229 (30, [l0, some (.int x), l2, l3, l4], [.int i1, .ref k0], h) Q = Tr sc d 229 (31, [l0, some (.int x), l2, l3, l4], [.int x, .int i1, .ref k0], h) Q := t_iload_n k_229_30 rfl
theorem k_229_31 : lk 229 31 = some (.imul, 32, 0, 0, .null) := by decide +kernel
theorem x_229_31 : Tr sc d 229 (31, [l0, l1, l2, l3, l4], [.int i2, .int i1, .ref k0], h) Q = Tr sc d 229 (32, [l0, l1, l2, l3, l4], [.int (i1 * i2), .ref k0], h) Q := t_go k_229_31 rfl
theorem k_229_32 : lk 229 32 = some (.iload_n 2, 33, 2, 0, .null) := by decide +kernel
theorem x_229_32 : Tr sc d 229 (32, [l0, l1, some (.int x), l3, l4], [.int i1, .ref k0], h) Q = Tr sc d 229 (33, [l0, l1, some (.int x), l3, l4], [.int x, .int i1, .ref k0], h) Q := t_iload_n k_229_32 rfl
theorem k_229_33 : lk 229 33 = some (.iadd, 34, 0, 0, .null) := by decide +kernel
theorem x_229_33 : Tr sc d 229 (33, [l0, l1, l2, l3, l4], [.int i2, .int i1, .ref k0], h) Q = Tr sc d 229 (34, [l0, l1, l2, l3, l4], [.int (i1 + i2), .ref k0], h) Q := t_go k_229_33 rfl
theorem k_229_34 : lk 229 34 = some (.iaload, 35, 0, 0, .null) := by decide +kernel
theorem x_229_34 : Tr sc d 229 (34, [l0, l1, l2, l3, l4], [.int i1, .ref k0], h) Q = (iOk sc h k0 i1 ∧ Tr sc d 229 (35, [l0, l1, l2, l3, l4], [.int (iRd sc h k0 i1)], h) Q) := t_iald k_229_34
theorem k_229_35 : lk 229 35 = some (.istore 4, 37, 4, 0, .null) := by decide +kernel
theorem x_229_35 : Tr sc d 229 (35, [l0, l1, l2, l3, l4], [.int i0], h) Q = Tr sc d 229 (37, [l0, l1, l2, cl2 l3, some (.int i0)], [], h) Q := t_istore k_229_35 (Nat.le_of_ble_eq_true rfl)
theorem k_229_37 : lk 229 37 = some (.aload_n 0, 38, 0, 0, .null) := by decide +kernel
theorem x_229_37 : Tr sc d 229 (37, [some (.ref xk), l1, l2, l3, l4], [], h) Q = Tr sc d 229 (38, [some (.ref xk), l1, l2, l3, l4], [.ref xk], h) Q := t_aload_n k_229_37 rfl
theorem k_229_38 : lk 229 38 = some (.getfield 113, 41, 10, 55, .null) := by decide +kernel
theorem x_229_38 : Tr sc d 229 (38, [l0, l1, l2, l3, l4], [.ref k0], h) Q = (okp h k0 10 = true ∧ ∃ q, hR h k0 55 = some q ∧ Tr sc d 229 (41, [l0, l1, l2, l3, l4], [.ref q], h) Q) := t_getr k_229_38
theorem k_229_41 : lk 229 41 = some (.iconst 0, 42, 0, 0, .int 0) := by decide +kernel
theorem x_229_41 : Tr sc d 229 (41, [l0, l1, l2, l3, l4], [.ref k0], h) Q = Tr sc d 229 (42, [l0, l1, l2, l3, l4], [.int 0, .ref k0], h) Q := t_go k_229_41 rfl
theorem k_229_42 : lk 229 42 = some (.iload_n 2, 43, 2, 0, .null) := by decide +kernel
theorem x_229_42 : Tr sc d 229 (42, [l0, l1, some (.int x), l3, l4], [.int i1, .ref k0], h) Q = Tr sc d 229 (43, [l0, l1, some (.int x), l3, l4], [.int x, .int i1, .ref k0], h) Q := t_iload_n k_229_42 rfl
theorem k_229_43 : lk 229 43 = some (.ifCond .eq 13, 46, 56, 0, .null) := by decide +kernel
theorem x_229_43 : Tr sc d 229 (43, [l0, l1, l2, l3, l4], [.int i2, .int i1, .ref k0], h) Q = if i2 = 0 then Tr sc d 229 (56, [l0, l1, l2, l3, l4], [.int i1, .ref k0], h) Q else Tr sc d 229 (46, [l0, l1, l2, l3, l4], [.int i1, .ref k0], h) Q := t_if k_229_43 rfl
theorem k_229_46 : lk 229 46 = some (.iload_n 3, 47, 3, 0, .null) := by decide +kernel
theorem x_229_46 : Tr sc d 229 (46, [l0, l1, l2, some (.int x), l4], [.int i1, .ref k0], h) Q = Tr sc d 229 (47, [l0, l1, l2, some (.int x), l4], [.int x, .int i1, .ref k0], h) Q := t_iload_n k_229_46 rfl
theorem k_229_47 : lk 229 47 = some (.aload_n 0, 48, 0, 0, .null) := by decide +kernel
theorem x_229_47 : Tr sc d 229 (47, [some (.ref xk), l1, l2, l3, l4], [.int i2, .int i1, .ref k0], h) Q = Tr sc d 229 (48, [some (.ref xk), l1, l2, l3, l4], [.ref xk, .int i2, .int i1, .ref k0], h) Q := t_aload_n k_229_47 rfl
theorem k_229_48 : lk 229 48 = some (.getfield 113, 51, 10, 55, .null) := by decide +kernel
theorem x_229_48 : Tr sc d 229 (48, [l0, l1, l2, l3, l4], [.ref k3, .int i2, .int i1, .ref k0], h) Q = (okp h k3 10 = true ∧ ∃ q, hR h k3 55 = some q ∧ Tr sc d 229 (51, [l0, l1, l2, l3, l4], [.ref q, .int i2, .int i1, .ref k0], h) Q) := t_getr k_229_48
theorem k_229_51 : lk 229 51 = some (.iconst 0, 52, 0, 0, .int 0) := by decide +kernel
theorem x_229_51 : Tr sc d 229 (51, [l0, l1, l2, l3, l4], [.ref k3, .int i2, .int i1, .ref k0], h) Q = Tr sc d 229 (52, [l0, l1, l2, l3, l4], [.int 0, .ref k3, .int i2, .int i1, .ref k0], h) Q := t_go k_229_51 rfl
theorem k_229_52 : lk 229 52 = some (.iaload, 53, 0, 0, .null) := by decide +kernel
theorem x_229_52 : Tr sc d 229 (52, [l0, l1, l2, l3, l4], [.int i4, .ref k3, .int i2, .int i1, .ref k0], h) Q = (iOk sc h k3 i4 ∧ Tr sc d 229 (53, [l0, l1, l2, l3, l4], [.int (iRd sc h k3 i4), .int i2, .int i1, .ref k0], h) Q) := t_iald k_229_52
theorem k_229_53 : lk 229 53 = some (.if_icmp .ge 7, 56, 60, 0, .null) := by decide +kernel
theorem x_229_53 : Tr sc d 229 (53, [l0, l1, l2, l3, l4], [.int i3, .int i2, .int i1, .ref k0], h) Q = if i3 ≤ i2 then Tr sc d 229 (60, [l0, l1, l2, l3, l4], [.int i1, .ref k0], h) Q else Tr sc d 229 (56, [l0, l1, l2, l3, l4], [.int i1, .ref k0], h) Q := t_if k_229_53 rfl
theorem k_229_56 : lk 229 56 = some (.iload_n 3, 57, 3, 0, .null) := by decide +kernel
theorem x_229_56 : Tr sc d 229 (56, [l0, l1, l2, some (.int x), l4], [.int i1, .ref k0], h) Q = Tr sc d 229 (57, [l0, l1, l2, some (.int x), l4], [.int x, .int i1, .ref k0], h) Q := t_iload_n k_229_56 rfl
theorem k_229_57 : lk 229 57 = some (.goto 9, 60, 66, 0, .null) := by decide +kernel
theorem x_229_57 : Tr sc d 229 (57, [l0, l1, l2, l3, l4], [.int i2, .int i1, .ref k0], h) Q = Tr sc d 229 (66, [l0, l1, l2, l3, l4], [.int i2, .int i1, .ref k0], h) Q := t_go k_229_57 rfl
theorem k_229_60 : lk 229 60 = some (.aload_n 0, 61, 0, 0, .null) := by decide +kernel
theorem x_229_60 : Tr sc d 229 (60, [some (.ref xk), l1, l2, l3, l4], [.int i1, .ref k0], h) Q = Tr sc d 229 (61, [some (.ref xk), l1, l2, l3, l4], [.ref xk, .int i1, .ref k0], h) Q := t_aload_n k_229_60 rfl
theorem k_229_61 : lk 229 61 = some (.getfield 113, 64, 10, 55, .null) := by decide +kernel
theorem x_229_61 : Tr sc d 229 (61, [l0, l1, l2, l3, l4], [.ref k2, .int i1, .ref k0], h) Q = (okp h k2 10 = true ∧ ∃ q, hR h k2 55 = some q ∧ Tr sc d 229 (64, [l0, l1, l2, l3, l4], [.ref q, .int i1, .ref k0], h) Q) := t_getr k_229_61
theorem k_229_64 : lk 229 64 = some (.iconst 0, 65, 0, 0, .int 0) := by decide +kernel
theorem x_229_64 : Tr sc d 229 (64, [l0, l1, l2, l3, l4], [.ref k2, .int i1, .ref k0], h) Q = Tr sc d 229 (65, [l0, l1, l2, l3, l4], [.int 0, .ref k2, .int i1, .ref k0], h) Q := t_go k_229_64 rfl
theorem k_229_65 : lk 229 65 = some (.iaload, 66, 0, 0, .null) := by decide +kernel
theorem x_229_65 : Tr sc d 229 (65, [l0, l1, l2, l3, l4], [.int i3, .ref k2, .int i1, .ref k0], h) Q = (iOk sc h k2 i3 ∧ Tr sc d 229 (66, [l0, l1, l2, l3, l4], [.int (iRd sc h k2 i3), .int i1, .ref k0], h) Q) := t_iald k_229_65
theorem k_229_66 : lk 229 66 = some (.iastore, 67, 0, 0, .null) := by decide +kernel
theorem x_229_66 : Tr sc d 229 (66, [l0, l1, l2, l3, l4], [.int i2, .int i1, .ref k0], h) Q = ((okp h k0 11 && inb i1 (LN k0)) = true ∧ Tr sc d 229 (67, [l0, l1, l2, l3, l4], [], (sI h k0 i1.toNatClampNeg i2)) Q) := t_gd k_229_66 rfl
theorem k_229_67 : lk 229 67 = some (.aload_n 0, 68, 0, 0, .null) := by decide +kernel
theorem x_229_67 : Tr sc d 229 (67, [some (.ref xk), l1, l2, l3, l4], [], h) Q = Tr sc d 229 (68, [some (.ref xk), l1, l2, l3, l4], [.ref xk], h) Q := t_aload_n k_229_67 rfl
theorem k_229_68 : lk 229 68 = some (.getfield 113, 71, 10, 55, .null) := by decide +kernel
theorem x_229_68 : Tr sc d 229 (68, [l0, l1, l2, l3, l4], [.ref k0], h) Q = (okp h k0 10 = true ∧ ∃ q, hR h k0 55 = some q ∧ Tr sc d 229 (71, [l0, l1, l2, l3, l4], [.ref q], h) Q) := t_getr k_229_68
theorem k_229_71 : lk 229 71 = some (.iconst 1, 72, 0, 0, .int 1) := by decide +kernel
theorem x_229_71 : Tr sc d 229 (71, [l0, l1, l2, l3, l4], [.ref k0], h) Q = Tr sc d 229 (72, [l0, l1, l2, l3, l4], [.int 1, .ref k0], h) Q := t_go k_229_71 rfl
theorem k_229_72 : lk 229 72 = some (.iload_n 2, 73, 2, 0, .null) := by decide +kernel
theorem x_229_72 : Tr sc d 229 (72, [l0, l1, some (.int x), l3, l4], [.int i1, .ref k0], h) Q = Tr sc d 229 (73, [l0, l1, some (.int x), l3, l4], [.int x, .int i1, .ref k0], h) Q := t_iload_n k_229_72 rfl
theorem k_229_73 : lk 229 73 = some (.ifCond .eq 13, 76, 86, 0, .null) := by decide +kernel
theorem x_229_73 : Tr sc d 229 (73, [l0, l1, l2, l3, l4], [.int i2, .int i1, .ref k0], h) Q = if i2 = 0 then Tr sc d 229 (86, [l0, l1, l2, l3, l4], [.int i1, .ref k0], h) Q else Tr sc d 229 (76, [l0, l1, l2, l3, l4], [.int i1, .ref k0], h) Q := t_if k_229_73 rfl
theorem k_229_76 : lk 229 76 = some (.iload_n 3, 77, 3, 0, .null) := by decide +kernel
theorem x_229_76 : Tr sc d 229 (76, [l0, l1, l2, some (.int x), l4], [.int i1, .ref k0], h) Q = Tr sc d 229 (77, [l0, l1, l2, some (.int x), l4], [.int x, .int i1, .ref k0], h) Q := t_iload_n k_229_76 rfl
theorem k_229_77 : lk 229 77 = some (.aload_n 0, 78, 0, 0, .null) := by decide +kernel
theorem x_229_77 : Tr sc d 229 (77, [some (.ref xk), l1, l2, l3, l4], [.int i2, .int i1, .ref k0], h) Q = Tr sc d 229 (78, [some (.ref xk), l1, l2, l3, l4], [.ref xk, .int i2, .int i1, .ref k0], h) Q := t_aload_n k_229_77 rfl
theorem k_229_78 : lk 229 78 = some (.getfield 113, 81, 10, 55, .null) := by decide +kernel
theorem x_229_78 : Tr sc d 229 (78, [l0, l1, l2, l3, l4], [.ref k3, .int i2, .int i1, .ref k0], h) Q = (okp h k3 10 = true ∧ ∃ q, hR h k3 55 = some q ∧ Tr sc d 229 (81, [l0, l1, l2, l3, l4], [.ref q, .int i2, .int i1, .ref k0], h) Q) := t_getr k_229_78
theorem k_229_81 : lk 229 81 = some (.iconst 1, 82, 0, 0, .int 1) := by decide +kernel
theorem x_229_81 : Tr sc d 229 (81, [l0, l1, l2, l3, l4], [.ref k3, .int i2, .int i1, .ref k0], h) Q = Tr sc d 229 (82, [l0, l1, l2, l3, l4], [.int 1, .ref k3, .int i2, .int i1, .ref k0], h) Q := t_go k_229_81 rfl
theorem k_229_82 : lk 229 82 = some (.iaload, 83, 0, 0, .null) := by decide +kernel
theorem x_229_82 : Tr sc d 229 (82, [l0, l1, l2, l3, l4], [.int i4, .ref k3, .int i2, .int i1, .ref k0], h) Q = (iOk sc h k3 i4 ∧ Tr sc d 229 (83, [l0, l1, l2, l3, l4], [.int (iRd sc h k3 i4), .int i2, .int i1, .ref k0], h) Q) := t_iald k_229_82
theorem k_229_83 : lk 229 83 = some (.if_icmp .le 7, 86, 90, 0, .null) := by decide +kernel
theorem x_229_83 : Tr sc d 229 (83, [l0, l1, l2, l3, l4], [.int i3, .int i2, .int i1, .ref k0], h) Q = if i2 ≤ i3 then Tr sc d 229 (90, [l0, l1, l2, l3, l4], [.int i1, .ref k0], h) Q else Tr sc d 229 (86, [l0, l1, l2, l3, l4], [.int i1, .ref k0], h) Q := t_if k_229_83 rfl
theorem k_229_86 : lk 229 86 = some (.iload_n 3, 87, 3, 0, .null) := by decide +kernel
theorem x_229_86 : Tr sc d 229 (86, [l0, l1, l2, some (.int x), l4], [.int i1, .ref k0], h) Q = Tr sc d 229 (87, [l0, l1, l2, some (.int x), l4], [.int x, .int i1, .ref k0], h) Q := t_iload_n k_229_86 rfl
theorem k_229_87 : lk 229 87 = some (.goto 9, 90, 96, 0, .null) := by decide +kernel
theorem x_229_87 : Tr sc d 229 (87, [l0, l1, l2, l3, l4], [.int i2, .int i1, .ref k0], h) Q = Tr sc d 229 (96, [l0, l1, l2, l3, l4], [.int i2, .int i1, .ref k0], h) Q := t_go k_229_87 rfl
theorem k_229_90 : lk 229 90 = some (.aload_n 0, 91, 0, 0, .null) := by decide +kernel
theorem x_229_90 : Tr sc d 229 (90, [some (.ref xk), l1, l2, l3, l4], [.int i1, .ref k0], h) Q = Tr sc d 229 (91, [some (.ref xk), l1, l2, l3, l4], [.ref xk, .int i1, .ref k0], h) Q := t_aload_n k_229_90 rfl
theorem k_229_91 : lk 229 91 = some (.getfield 113, 94, 10, 55, .null) := by decide +kernel
theorem x_229_91 : Tr sc d 229 (91, [l0, l1, l2, l3, l4], [.ref k2, .int i1, .ref k0], h) Q = (okp h k2 10 = true ∧ ∃ q, hR h k2 55 = some q ∧ Tr sc d 229 (94, [l0, l1, l2, l3, l4], [.ref q, .int i1, .ref k0], h) Q) := t_getr k_229_91
theorem k_229_94 : lk 229 94 = some (.iconst 1, 95, 0, 0, .int 1) := by decide +kernel
theorem x_229_94 : Tr sc d 229 (94, [l0, l1, l2, l3, l4], [.ref k2, .int i1, .ref k0], h) Q = Tr sc d 229 (95, [l0, l1, l2, l3, l4], [.int 1, .ref k2, .int i1, .ref k0], h) Q := t_go k_229_94 rfl
theorem k_229_95 : lk 229 95 = some (.iaload, 96, 0, 0, .null) := by decide +kernel
theorem x_229_95 : Tr sc d 229 (95, [l0, l1, l2, l3, l4], [.int i3, .ref k2, .int i1, .ref k0], h) Q = (iOk sc h k2 i3 ∧ Tr sc d 229 (96, [l0, l1, l2, l3, l4], [.int (iRd sc h k2 i3), .int i1, .ref k0], h) Q) := t_iald k_229_95
theorem k_229_96 : lk 229 96 = some (.iastore, 97, 0, 0, .null) := by decide +kernel
theorem x_229_96 : Tr sc d 229 (96, [l0, l1, l2, l3, l4], [.int i2, .int i1, .ref k0], h) Q = ((okp h k0 11 && inb i1 (LN k0)) = true ∧ Tr sc d 229 (97, [l0, l1, l2, l3, l4], [], (sI h k0 i1.toNatClampNeg i2)) Q) := t_gd k_229_96 rfl
theorem k_229_97 : lk 229 97 = some (.aload_n 0, 98, 0, 0, .null) := by decide +kernel
theorem x_229_97 : Tr sc d 229 (97, [some (.ref xk), l1, l2, l3, l4], [], h) Q = Tr sc d 229 (98, [some (.ref xk), l1, l2, l3, l4], [.ref xk], h) Q := t_aload_n k_229_97 rfl
theorem k_229_98 : lk 229 98 = some (.getfield 113, 101, 10, 55, .null) := by decide +kernel
theorem x_229_98 : Tr sc d 229 (98, [l0, l1, l2, l3, l4], [.ref k0], h) Q = (okp h k0 10 = true ∧ ∃ q, hR h k0 55 = some q ∧ Tr sc d 229 (101, [l0, l1, l2, l3, l4], [.ref q], h) Q) := t_getr k_229_98
theorem k_229_101 : lk 229 101 = some (.iconst 2, 102, 0, 0, .int 2) := by decide +kernel
theorem x_229_101 : Tr sc d 229 (101, [l0, l1, l2, l3, l4], [.ref k0], h) Q = Tr sc d 229 (102, [l0, l1, l2, l3, l4], [.int 2, .ref k0], h) Q := t_go k_229_101 rfl
theorem k_229_102 : lk 229 102 = some (.iload_n 2, 103, 2, 0, .null) := by decide +kernel
theorem x_229_102 : Tr sc d 229 (102, [l0, l1, some (.int x), l3, l4], [.int i1, .ref k0], h) Q = Tr sc d 229 (103, [l0, l1, some (.int x), l3, l4], [.int x, .int i1, .ref k0], h) Q := t_iload_n k_229_102 rfl
theorem k_229_103 : lk 229 103 = some (.ifCond .eq 14, 106, 117, 0, .null) := by decide +kernel
theorem x_229_103 : Tr sc d 229 (103, [l0, l1, l2, l3, l4], [.int i2, .int i1, .ref k0], h) Q = if i2 = 0 then Tr sc d 229 (117, [l0, l1, l2, l3, l4], [.int i1, .ref k0], h) Q else Tr sc d 229 (106, [l0, l1, l2, l3, l4], [.int i1, .ref k0], h) Q := t_if k_229_103 rfl
theorem k_229_106 : lk 229 106 = some (.iload 4, 108, 4, 0, .null) := by decide +kernel
theorem x_229_106 : Tr sc d 229 (106, [l0, l1, l2, l3, some (.int x)], [.int i1, .ref k0], h) Q = Tr sc d 229 (108, [l0, l1, l2, l3, some (.int x)], [.int x, .int i1, .ref k0], h) Q := t_iload k_229_106 rfl
theorem k_229_108 : lk 229 108 = some (.aload_n 0, 109, 0, 0, .null) := by decide +kernel
theorem x_229_108 : Tr sc d 229 (108, [some (.ref xk), l1, l2, l3, l4], [.int i2, .int i1, .ref k0], h) Q = Tr sc d 229 (109, [some (.ref xk), l1, l2, l3, l4], [.ref xk, .int i2, .int i1, .ref k0], h) Q := t_aload_n k_229_108 rfl
theorem k_229_109 : lk 229 109 = some (.getfield 113, 112, 10, 55, .null) := by decide +kernel
theorem x_229_109 : Tr sc d 229 (109, [l0, l1, l2, l3, l4], [.ref k3, .int i2, .int i1, .ref k0], h) Q = (okp h k3 10 = true ∧ ∃ q, hR h k3 55 = some q ∧ Tr sc d 229 (112, [l0, l1, l2, l3, l4], [.ref q, .int i2, .int i1, .ref k0], h) Q) := t_getr k_229_109
theorem k_229_112 : lk 229 112 = some (.iconst 2, 113, 0, 0, .int 2) := by decide +kernel
theorem x_229_112 : Tr sc d 229 (112, [l0, l1, l2, l3, l4], [.ref k3, .int i2, .int i1, .ref k0], h) Q = Tr sc d 229 (113, [l0, l1, l2, l3, l4], [.int 2, .ref k3, .int i2, .int i1, .ref k0], h) Q := t_go k_229_112 rfl
theorem k_229_113 : lk 229 113 = some (.iaload, 114, 0, 0, .null) := by decide +kernel
theorem x_229_113 : Tr sc d 229 (113, [l0, l1, l2, l3, l4], [.int i4, .ref k3, .int i2, .int i1, .ref k0], h) Q = (iOk sc h k3 i4 ∧ Tr sc d 229 (114, [l0, l1, l2, l3, l4], [.int (iRd sc h k3 i4), .int i2, .int i1, .ref k0], h) Q) := t_iald k_229_113
theorem k_229_114 : lk 229 114 = some (.if_icmp .ge 8, 117, 122, 0, .null) := by decide +kernel
theorem x_229_114 : Tr sc d 229 (114, [l0, l1, l2, l3, l4], [.int i3, .int i2, .int i1, .ref k0], h) Q = if i3 ≤ i2 then Tr sc d 229 (122, [l0, l1, l2, l3, l4], [.int i1, .ref k0], h) Q else Tr sc d 229 (117, [l0, l1, l2, l3, l4], [.int i1, .ref k0], h) Q := t_if k_229_114 rfl
theorem k_229_117 : lk 229 117 = some (.iload 4, 119, 4, 0, .null) := by decide +kernel
theorem x_229_117 : Tr sc d 229 (117, [l0, l1, l2, l3, some (.int x)], [.int i1, .ref k0], h) Q = Tr sc d 229 (119, [l0, l1, l2, l3, some (.int x)], [.int x, .int i1, .ref k0], h) Q := t_iload k_229_117 rfl
theorem k_229_119 : lk 229 119 = some (.goto 9, 122, 128, 0, .null) := by decide +kernel
theorem x_229_119 : Tr sc d 229 (119, [l0, l1, l2, l3, l4], [.int i2, .int i1, .ref k0], h) Q = Tr sc d 229 (128, [l0, l1, l2, l3, l4], [.int i2, .int i1, .ref k0], h) Q := t_go k_229_119 rfl
theorem k_229_122 : lk 229 122 = some (.aload_n 0, 123, 0, 0, .null) := by decide +kernel
theorem x_229_122 : Tr sc d 229 (122, [some (.ref xk), l1, l2, l3, l4], [.int i1, .ref k0], h) Q = Tr sc d 229 (123, [some (.ref xk), l1, l2, l3, l4], [.ref xk, .int i1, .ref k0], h) Q := t_aload_n k_229_122 rfl
theorem k_229_123 : lk 229 123 = some (.getfield 113, 126, 10, 55, .null) := by decide +kernel
theorem x_229_123 : Tr sc d 229 (123, [l0, l1, l2, l3, l4], [.ref k2, .int i1, .ref k0], h) Q = (okp h k2 10 = true ∧ ∃ q, hR h k2 55 = some q ∧ Tr sc d 229 (126, [l0, l1, l2, l3, l4], [.ref q, .int i1, .ref k0], h) Q) := t_getr k_229_123
theorem k_229_126 : lk 229 126 = some (.iconst 2, 127, 0, 0, .int 2) := by decide +kernel
theorem x_229_126 : Tr sc d 229 (126, [l0, l1, l2, l3, l4], [.ref k2, .int i1, .ref k0], h) Q = Tr sc d 229 (127, [l0, l1, l2, l3, l4], [.int 2, .ref k2, .int i1, .ref k0], h) Q := t_go k_229_126 rfl
theorem k_229_127 : lk 229 127 = some (.iaload, 128, 0, 0, .null) := by decide +kernel
theorem x_229_127 : Tr sc d 229 (127, [l0, l1, l2, l3, l4], [.int i3, .ref k2, .int i1, .ref k0], h) Q = (iOk sc h k2 i3 ∧ Tr sc d 229 (128, [l0, l1, l2, l3, l4], [.int (iRd sc h k2 i3), .int i1, .ref k0], h) Q) := t_iald k_229_127
theorem k_229_128 : lk 229 128 = some (.iastore, 129, 0, 0, .null) := by decide +kernel
theorem x_229_128 : Tr sc d 229 (128, [l0, l1, l2, l3, l4], [.int i2, .int i1, .ref k0], h) Q = ((okp h k0 11 && inb i1 (LN k0)) = true ∧ Tr sc d 229 (129, [l0, l1, l2, l3, l4], [], (sI h k0 i1.toNatClampNeg i2)) Q) := t_gd k_229_128 rfl
theorem k_229_129 : lk 229 129 = some (.aload_n 0, 130, 0, 0, .null) := by decide +kernel
theorem x_229_129 : Tr sc d 229 (129, [some (.ref xk), l1, l2, l3, l4], [], h) Q = Tr sc d 229 (130, [some (.ref xk), l1, l2, l3, l4], [.ref xk], h) Q := t_aload_n k_229_129 rfl
theorem k_229_130 : lk 229 130 = some (.getfield 113, 133, 10, 55, .null) := by decide +kernel
theorem x_229_130 : Tr sc d 229 (130, [l0, l1, l2, l3, l4], [.ref k0], h) Q = (okp h k0 10 = true ∧ ∃ q, hR h k0 55 = some q ∧ Tr sc d 229 (133, [l0, l1, l2, l3, l4], [.ref q], h) Q) := t_getr k_229_130
theorem k_229_133 : lk 229 133 = some (.iconst 3, 134, 0, 0, .int 3) := by decide +kernel
theorem x_229_133 : Tr sc d 229 (133, [l0, l1, l2, l3, l4], [.ref k0], h) Q = Tr sc d 229 (134, [l0, l1, l2, l3, l4], [.int 3, .ref k0], h) Q := t_go k_229_133 rfl
theorem k_229_134 : lk 229 134 = some (.iload_n 2, 135, 2, 0, .null) := by decide +kernel
theorem x_229_134 : Tr sc d 229 (134, [l0, l1, some (.int x), l3, l4], [.int i1, .ref k0], h) Q = Tr sc d 229 (135, [l0, l1, some (.int x), l3, l4], [.int x, .int i1, .ref k0], h) Q := t_iload_n k_229_134 rfl
theorem k_229_135 : lk 229 135 = some (.ifCond .eq 14, 138, 149, 0, .null) := by decide +kernel
theorem x_229_135 : Tr sc d 229 (135, [l0, l1, l2, l3, l4], [.int i2, .int i1, .ref k0], h) Q = if i2 = 0 then Tr sc d 229 (149, [l0, l1, l2, l3, l4], [.int i1, .ref k0], h) Q else Tr sc d 229 (138, [l0, l1, l2, l3, l4], [.int i1, .ref k0], h) Q := t_if k_229_135 rfl
theorem k_229_138 : lk 229 138 = some (.iload 4, 140, 4, 0, .null) := by decide +kernel
theorem x_229_138 : Tr sc d 229 (138, [l0, l1, l2, l3, some (.int x)], [.int i1, .ref k0], h) Q = Tr sc d 229 (140, [l0, l1, l2, l3, some (.int x)], [.int x, .int i1, .ref k0], h) Q := t_iload k_229_138 rfl
theorem k_229_140 : lk 229 140 = some (.aload_n 0, 141, 0, 0, .null) := by decide +kernel
theorem x_229_140 : Tr sc d 229 (140, [some (.ref xk), l1, l2, l3, l4], [.int i2, .int i1, .ref k0], h) Q = Tr sc d 229 (141, [some (.ref xk), l1, l2, l3, l4], [.ref xk, .int i2, .int i1, .ref k0], h) Q := t_aload_n k_229_140 rfl
theorem k_229_141 : lk 229 141 = some (.getfield 113, 144, 10, 55, .null) := by decide +kernel
theorem x_229_141 : Tr sc d 229 (141, [l0, l1, l2, l3, l4], [.ref k3, .int i2, .int i1, .ref k0], h) Q = (okp h k3 10 = true ∧ ∃ q, hR h k3 55 = some q ∧ Tr sc d 229 (144, [l0, l1, l2, l3, l4], [.ref q, .int i2, .int i1, .ref k0], h) Q) := t_getr k_229_141
theorem k_229_144 : lk 229 144 = some (.iconst 3, 145, 0, 0, .int 3) := by decide +kernel
theorem x_229_144 : Tr sc d 229 (144, [l0, l1, l2, l3, l4], [.ref k3, .int i2, .int i1, .ref k0], h) Q = Tr sc d 229 (145, [l0, l1, l2, l3, l4], [.int 3, .ref k3, .int i2, .int i1, .ref k0], h) Q := t_go k_229_144 rfl
theorem k_229_145 : lk 229 145 = some (.iaload, 146, 0, 0, .null) := by decide +kernel
theorem x_229_145 : Tr sc d 229 (145, [l0, l1, l2, l3, l4], [.int i4, .ref k3, .int i2, .int i1, .ref k0], h) Q = (iOk sc h k3 i4 ∧ Tr sc d 229 (146, [l0, l1, l2, l3, l4], [.int (iRd sc h k3 i4), .int i2, .int i1, .ref k0], h) Q) := t_iald k_229_145
theorem k_229_146 : lk 229 146 = some (.if_icmp .le 8, 149, 154, 0, .null) := by decide +kernel
theorem x_229_146 : Tr sc d 229 (146, [l0, l1, l2, l3, l4], [.int i3, .int i2, .int i1, .ref k0], h) Q = if i2 ≤ i3 then Tr sc d 229 (154, [l0, l1, l2, l3, l4], [.int i1, .ref k0], h) Q else Tr sc d 229 (149, [l0, l1, l2, l3, l4], [.int i1, .ref k0], h) Q := t_if k_229_146 rfl
theorem k_229_149 : lk 229 149 = some (.iload 4, 151, 4, 0, .null) := by decide +kernel
theorem x_229_149 : Tr sc d 229 (149, [l0, l1, l2, l3, some (.int x)], [.int i1, .ref k0], h) Q = Tr sc d 229 (151, [l0, l1, l2, l3, some (.int x)], [.int x, .int i1, .ref k0], h) Q := t_iload k_229_149 rfl
theorem k_229_151 : lk 229 151 = some (.goto 9, 154, 160, 0, .null) := by decide +kernel
theorem x_229_151 : Tr sc d 229 (151, [l0, l1, l2, l3, l4], [.int i2, .int i1, .ref k0], h) Q = Tr sc d 229 (160, [l0, l1, l2, l3, l4], [.int i2, .int i1, .ref k0], h) Q := t_go k_229_151 rfl
theorem k_229_154 : lk 229 154 = some (.aload_n 0, 155, 0, 0, .null) := by decide +kernel
theorem x_229_154 : Tr sc d 229 (154, [some (.ref xk), l1, l2, l3, l4], [.int i1, .ref k0], h) Q = Tr sc d 229 (155, [some (.ref xk), l1, l2, l3, l4], [.ref xk, .int i1, .ref k0], h) Q := t_aload_n k_229_154 rfl
theorem k_229_155 : lk 229 155 = some (.getfield 113, 158, 10, 55, .null) := by decide +kernel
theorem x_229_155 : Tr sc d 229 (155, [l0, l1, l2, l3, l4], [.ref k2, .int i1, .ref k0], h) Q = (okp h k2 10 = true ∧ ∃ q, hR h k2 55 = some q ∧ Tr sc d 229 (158, [l0, l1, l2, l3, l4], [.ref q, .int i1, .ref k0], h) Q) := t_getr k_229_155
theorem k_229_158 : lk 229 158 = some (.iconst 3, 159, 0, 0, .int 3) := by decide +kernel
theorem x_229_158 : Tr sc d 229 (158, [l0, l1, l2, l3, l4], [.ref k2, .int i1, .ref k0], h) Q = Tr sc d 229 (159, [l0, l1, l2, l3, l4], [.int 3, .ref k2, .int i1, .ref k0], h) Q := t_go k_229_158 rfl
theorem k_229_159 : lk 229 159 = some (.iaload, 160, 0, 0, .null) := by decide +kernel
theorem x_229_159 : Tr sc d 229 (159, [l0, l1, l2, l3, l4], [.int i3, .ref k2, .int i1, .ref k0], h) Q = (iOk sc h k2 i3 ∧ Tr sc d 229 (160, [l0, l1, l2, l3, l4], [.int (iRd sc h k2 i3), .int i1, .ref k0], h) Q) := t_iald k_229_159
theorem k_229_160 : lk 229 160 = some (.iastore, 161, 0, 0, .null) := by decide +kernel
theorem x_229_160 : Tr sc d 229 (160, [l0, l1, l2, l3, l4], [.int i2, .int i1, .ref k0], h) Q = ((okp h k0 11 && inb i1 (LN k0)) = true ∧ Tr sc d 229 (161, [l0, l1, l2, l3, l4], [], (sI h k0 i1.toNatClampNeg i2)) Q) := t_gd k_229_160 rfl
theorem k_229_161 : lk 229 161 = some (.iinc 2 1, 164, 2, 0, .int 1) := by decide +kernel
theorem x_229_161 : Tr sc d 229 (161, [l0, l1, some (.int x), l3, l4], [], h) Q = Tr sc d 229 (164, [l0, cl2 l1, some (.int (x + 1)), l3, l4], [], h) Q := t_inc k_229_161 rfl (Nat.le_of_ble_eq_true rfl)
theorem k_229_164 : lk 229 164 = some (.goto (-162), 167, 2, 0, .null) := by decide +kernel
theorem x_229_164 : Tr sc d 229 (164, [l0, l1, l2, l3, l4], [], h) Q = Tr sc d 229 (2, [l0, l1, l2, l3, l4], [], h) Q := t_go k_229_164 rfl
theorem k_229_167 : lk 229 167 = some (.return_, 168, 0, 0, .null) := by decide +kernel
theorem x_229_167 : Tr sc d 229 (167, [l0, l1, l2, l3, l4], [], h) Q = Q (none, h) := t_ret k_229_167 (by rw [r_229]; rfl)
theorem e_229 : Tr sc d 229 (ent0 229 [.ref k0, .int i1] h) Q = Tr sc d 229 (0, [some (.ref k0), some (.int i1), none, none, none], [], h) Q := by
  have e : mL 229 = 5 := by decide +kernel
  unfold ent0
  rw [e]
  rfl
theorem r_230 : mR 230 = some .boolean := by decide +kernel
theorem k_230_0 : lk 230 0 = some (.aload_n 0, 1, 0, 0, .null) := by decide +kernel
theorem x_230_0 : Tr sc d 230 (0, [some (.ref xk), l1, l2, l3, l4, l5], [], h) Q = Tr sc d 230 (1, [some (.ref xk), l1, l2, l3, l4, l5], [.ref xk], h) Q := t_aload_n k_230_0 rfl
theorem k_230_1 : lk 230 1 = some (.getfield 38, 4, 10, 17, .null) := by decide +kernel
theorem x_230_1 : Tr sc d 230 (1, [l0, l1, l2, l3, l4, l5], [.ref k0], h) Q = (okp h k0 10 = true ∧ ∃ q, hR h k0 17 = some q ∧ Tr sc d 230 (4, [l0, l1, l2, l3, l4, l5], [.ref q], h) Q) := t_getr k_230_1
theorem k_230_4 : lk 230 4 = some (.iload_n 1, 5, 1, 0, .null) := by decide +kernel
theorem x_230_4 : Tr sc d 230 (4, [l0, some (.int x), l2, l3, l4, l5], [.ref k0], h) Q = Tr sc d 230 (5, [l0, some (.int x), l2, l3, l4, l5], [.int x, .ref k0], h) Q := t_iload_n k_230_4 rfl
theorem k_230_5 : lk 230 5 = some (.iaload, 6, 0, 0, .null) := by decide +kernel
theorem x_230_5 : Tr sc d 230 (5, [l0, l1, l2, l3, l4, l5], [.int i1, .ref k0], h) Q = (iOk sc h k0 i1 ∧ Tr sc d 230 (6, [l0, l1, l2, l3, l4, l5], [.int (iRd sc h k0 i1)], h) Q) := t_iald k_230_5
theorem k_230_6 : lk 230 6 = some (.iconst 1, 7, 0, 0, .int 1) := by decide +kernel
theorem x_230_6 : Tr sc d 230 (6, [l0, l1, l2, l3, l4, l5], [.int i0], h) Q = Tr sc d 230 (7, [l0, l1, l2, l3, l4, l5], [.int 1, .int i0], h) Q := t_go k_230_6 rfl
theorem k_230_7 : lk 230 7 = some (.isub, 8, 0, 0, .null) := by decide +kernel
theorem x_230_7 : Tr sc d 230 (7, [l0, l1, l2, l3, l4, l5], [.int i1, .int i0], h) Q = Tr sc d 230 (8, [l0, l1, l2, l3, l4, l5], [.int (i0 - i1)], h) Q := t_go k_230_7 rfl
theorem k_230_8 : lk 230 8 = some (.istore 5, 10, 5, 0, .null) := by decide +kernel
theorem x_230_8 : Tr sc d 230 (8, [l0, l1, l2, l3, l4, l5], [.int i0], h) Q = Tr sc d 230 (10, [l0, l1, l2, l3, cl2 l4, some (.int i0)], [], h) Q := t_istore k_230_8 (Nat.le_of_ble_eq_true rfl)
theorem k_230_10 : lk 230 10 = some (.iload 5, 12, 5, 0, .null) := by decide +kernel
theorem x_230_10 : Tr sc d 230 (10, [l0, l1, l2, l3, l4, some (.int x)], [], h) Q = Tr sc d 230 (12, [l0, l1, l2, l3, l4, some (.int x)], [.int x], h) Q := t_iload k_230_10 rfl
theorem k_230_12 : lk 230 12 = some (.iload_n 2, 13, 2, 0, .null) := by decide +kernel
theorem x_230_12 : Tr sc d 230 (12, [l0, l1, some (.int x), l3, l4, l5], [.int i0], h) Q = Tr sc d 230 (13, [l0, l1, some (.int x), l3, l4, l5], [.int x, .int i0], h) Q := t_iload_n k_230_12 rfl
theorem k_230_13 : lk 230 13 = some (.imul, 14, 0, 0, .null) := by decide +kernel
theorem x_230_13 : Tr sc d 230 (13, [l0, l1, l2, l3, l4, l5], [.int i1, .int i0], h) Q = Tr sc d 230 (14, [l0, l1, l2, l3, l4, l5], [.int (i0 * i1)], h) Q := t_go k_230_13 rfl
theorem k_230_14 : lk 230 14 = some (.iload 4, 16, 4, 0, .null) := by decide +kernel
theorem x_230_14 : Tr sc d 230 (14, [l0, l1, l2, l3, some (.int x), l5], [.int i0], h) Q = Tr sc d 230 (16, [l0, l1, l2, l3, some (.int x), l5], [.int x, .int i0], h) Q := t_iload k_230_14 rfl
theorem k_230_16 : lk 230 16 = some (.aload_n 0, 17, 0, 0, .null) := by decide +kernel
theorem x_230_16 : Tr sc d 230 (16, [some (.ref xk), l1, l2, l3, l4, l5], [.int i1, .int i0], h) Q = Tr sc d 230 (17, [some (.ref xk), l1, l2, l3, l4, l5], [.ref xk, .int i1, .int i0], h) Q := t_aload_n k_230_16 rfl
theorem k_230_17 : lk 230 17 = some (.getfield 113, 20, 10, 55, .null) := by decide +kernel
theorem x_230_17 : Tr sc d 230 (17, [l0, l1, l2, l3, l4, l5], [.ref k2, .int i1, .int i0], h) Q = (okp h k2 10 = true ∧ ∃ q, hR h k2 55 = some q ∧ Tr sc d 230 (20, [l0, l1, l2, l3, l4, l5], [.ref q, .int i1, .int i0], h) Q) := t_getr k_230_17
theorem k_230_20 : lk 230 20 = some (.iconst 0, 21, 0, 0, .int 0) := by decide +kernel
theorem x_230_20 : Tr sc d 230 (20, [l0, l1, l2, l3, l4, l5], [.ref k2, .int i1, .int i0], h) Q = Tr sc d 230 (21, [l0, l1, l2, l3, l4, l5], [.int 0, .ref k2, .int i1, .int i0], h) Q := t_go k_230_20 rfl
theorem k_230_21 : lk 230 21 = some (.iaload, 22, 0, 0, .null) := by decide +kernel
theorem x_230_21 : Tr sc d 230 (21, [l0, l1, l2, l3, l4, l5], [.int i3, .ref k2, .int i1, .int i0], h) Q = (iOk sc h k2 i3 ∧ Tr sc d 230 (22, [l0, l1, l2, l3, l4, l5], [.int (iRd sc h k2 i3), .int i1, .int i0], h) Q) := t_iald k_230_21
theorem k_230_22 : lk 230 22 = some (.imul, 23, 0, 0, .null) := by decide +kernel
theorem x_230_22 : Tr sc d 230 (22, [l0, l1, l2, l3, l4, l5], [.int i2, .int i1, .int i0], h) Q = Tr sc d 230 (23, [l0, l1, l2, l3, l4, l5], [.int (i1 * i2), .int i0], h) Q := t_go k_230_22 rfl
theorem k_230_23 : lk 230 23 = some (.iload 4, 25, 4, 0, .null) := by decide +kernel
theorem x_230_23 : Tr sc d 230 (23, [l0, l1, l2, l3, some (.int x), l5], [.int i1, .int i0], h) Q = Tr sc d 230 (25, [l0, l1, l2, l3, some (.int x), l5], [.int x, .int i1, .int i0], h) Q := t_iload k_230_23 rfl
theorem k_230_25 : lk 230 25 = some (.aload_n 0, 26, 0, 0, .null) := by decide +kernel
theorem x_230_25 : Tr sc d 230 (25, [some (.ref xk), l1, l2, l3, l4, l5], [.int i2, .int i1, .int i0], h) Q = Tr sc d 230 (26, [some (.ref xk), l1, l2, l3, l4, l5], [.ref xk, .int i2, .int i1, .int i0], h) Q := t_aload_n k_230_25 rfl
theorem k_230_26 : lk 230 26 = some (.getfield 113, 29, 10, 55, .null) := by decide +kernel
theorem x_230_26 : Tr sc d 230 (26, [l0, l1, l2, l3, l4, l5], [.ref k3, .int i2, .int i1, .int i0], h) Q = (okp h k3 10 = true ∧ ∃ q, hR h k3 55 = some q ∧ Tr sc d 230 (29, [l0, l1, l2, l3, l4, l5], [.ref q, .int i2, .int i1, .int i0], h) Q) := t_getr k_230_26
theorem k_230_29 : lk 230 29 = some (.iconst 1, 30, 0, 0, .int 1) := by decide +kernel
theorem x_230_29 : Tr sc d 230 (29, [l0, l1, l2, l3, l4, l5], [.ref k3, .int i2, .int i1, .int i0], h) Q = Tr sc d 230 (30, [l0, l1, l2, l3, l4, l5], [.int 1, .ref k3, .int i2, .int i1, .int i0], h) Q := t_go k_230_29 rfl
theorem k_230_30 : lk 230 30 = some (.iaload, 31, 0, 0, .null) := by decide +kernel
theorem x_230_30 : Tr sc d 230 (30, [l0, l1, l2, l3, l4, l5], [.int i4, .ref k3, .int i2, .int i1, .int i0], h) Q = (iOk sc h k3 i4 ∧ Tr sc d 230 (31, [l0, l1, l2, l3, l4, l5], [.int (iRd sc h k3 i4), .int i2, .int i1, .int i0], h) Q) := t_iald k_230_30
theorem k_230_31 : lk 230 31 = some (.imul, 32, 0, 0, .null) := by decide +kernel
theorem x_230_31 : Tr sc d 230 (31, [l0, l1, l2, l3, l4, l5], [.int i3, .int i2, .int i1, .int i0], h) Q = Tr sc d 230 (32, [l0, l1, l2, l3, l4, l5], [.int (i2 * i3), .int i1, .int i0], h) Q := t_go k_230_31 rfl
theorem k_230_32 : lk 230 32 = some (.invokestatic 144, 35, 156, 3, .null) := by decide +kernel
theorem x_230_32 : Tr sc (d + 1) 230 (32, [l0, l1, l2, l3, l4, l5], [.int i2, .int i1, .int i0], h) Q = Tr sc d 156 (ent0 156 [.int i0, .int i1, .int i2] h) (fun z => Tr sc (d + 1) 230 (35, [l0, l1, l2, l3, l4, l5], z.1.toList ++ [], z.2) Q) := t_cs (as := [.int i0, .int i1, .int i2]) (r := []) k_230_32 (by decide) rfl rfl (Nat.le_of_ble_eq_true rfl) (Nat.le_of_ble_eq_true rfl)
theorem k_230_35 : lk 230 35 = some (.ifCond .eq 35, 38, 70, 0, .null) := by decide +kernel
theorem x_230_35 : Tr sc d 230 (35, [l0, l1, l2, l3, l4, l5], [.int i0], h) Q = if i0 = 0 then Tr sc d 230 (70, [l0, l1, l2, l3, l4, l5], [], h) Q else Tr sc d 230 (38, [l0, l1, l2, l3, l4, l5], [], h) Q := t_if k_230_35 rfl
theorem k_230_38 : lk 230 38 = some (.iload 5, 40, 5, 0, .null) := by decide +kernel
theorem x_230_38 : Tr sc d 230 (38, [l0, l1, l2, l3, l4, some (.int x)], [], h) Q = Tr sc d 230 (40, [l0, l1, l2, l3, l4, some (.int x)], [.int x], h) Q := t_iload k_230_38 rfl
theorem k_230_40 : lk 230 40 = some (.iload_n 3, 41, 3, 0, .null) := by decide +kernel
theorem x_230_40 : Tr sc d 230 (40, [l0, l1, l2, some (.int x), l4, l5], [.int i0], h) Q = Tr sc d 230 (41, [l0, l1, l2, some (.int x), l4, l5], [.int x, .int i0], h) Q := t_iload_n k_230_40 rfl
theorem k_230_41 : lk 230 41 = some (.imul, 42, 0, 0, .null) := by decide +kernel
theorem x_230_41 : Tr sc d 230 (41, [l0, l1, l2, l3, l4, l5], [.int i1, .int i0], h) Q = Tr sc d 230 (42, [l0, l1, l2, l3, l4, l5], [.int (i0 * i1)], h) Q := t_go k_230_41 rfl
theorem k_230_42 : lk 230 42 = some (.iload 4, 44, 4, 0, .null) := by decide +kernel
theorem x_230_42 : Tr sc d 230 (42, [l0, l1, l2, l3, some (.int x), l5], [.int i0], h) Q = Tr sc d 230 (44, [l0, l1, l2, l3, some (.int x), l5], [.int x, .int i0], h) Q := t_iload k_230_42 rfl
theorem k_230_44 : lk 230 44 = some (.aload_n 0, 45, 0, 0, .null) := by decide +kernel
theorem x_230_44 : Tr sc d 230 (44, [some (.ref xk), l1, l2, l3, l4, l5], [.int i1, .int i0], h) Q = Tr sc d 230 (45, [some (.ref xk), l1, l2, l3, l4, l5], [.ref xk, .int i1, .int i0], h) Q := t_aload_n k_230_44 rfl
theorem k_230_45 : lk 230 45 = some (.getfield 113, 48, 10, 55, .null) := by decide +kernel
theorem x_230_45 : Tr sc d 230 (45, [l0, l1, l2, l3, l4, l5], [.ref k2, .int i1, .int i0], h) Q = (okp h k2 10 = true ∧ ∃ q, hR h k2 55 = some q ∧ Tr sc d 230 (48, [l0, l1, l2, l3, l4, l5], [.ref q, .int i1, .int i0], h) Q) := t_getr k_230_45
theorem k_230_48 : lk 230 48 = some (.iconst 2, 49, 0, 0, .int 2) := by decide +kernel
theorem x_230_48 : Tr sc d 230 (48, [l0, l1, l2, l3, l4, l5], [.ref k2, .int i1, .int i0], h) Q = Tr sc d 230 (49, [l0, l1, l2, l3, l4, l5], [.int 2, .ref k2, .int i1, .int i0], h) Q := t_go k_230_48 rfl
theorem k_230_49 : lk 230 49 = some (.iaload, 50, 0, 0, .null) := by decide +kernel
theorem x_230_49 : Tr sc d 230 (49, [l0, l1, l2, l3, l4, l5], [.int i3, .ref k2, .int i1, .int i0], h) Q = (iOk sc h k2 i3 ∧ Tr sc d 230 (50, [l0, l1, l2, l3, l4, l5], [.int (iRd sc h k2 i3), .int i1, .int i0], h) Q) := t_iald k_230_49
theorem k_230_50 : lk 230 50 = some (.imul, 51, 0, 0, .null) := by decide +kernel
theorem x_230_50 : Tr sc d 230 (50, [l0, l1, l2, l3, l4, l5], [.int i2, .int i1, .int i0], h) Q = Tr sc d 230 (51, [l0, l1, l2, l3, l4, l5], [.int (i1 * i2), .int i0], h) Q := t_go k_230_50 rfl
theorem k_230_51 : lk 230 51 = some (.iload 4, 53, 4, 0, .null) := by decide +kernel
theorem x_230_51 : Tr sc d 230 (51, [l0, l1, l2, l3, some (.int x), l5], [.int i1, .int i0], h) Q = Tr sc d 230 (53, [l0, l1, l2, l3, some (.int x), l5], [.int x, .int i1, .int i0], h) Q := t_iload k_230_51 rfl
theorem k_230_53 : lk 230 53 = some (.aload_n 0, 54, 0, 0, .null) := by decide +kernel
theorem x_230_53 : Tr sc d 230 (53, [some (.ref xk), l1, l2, l3, l4, l5], [.int i2, .int i1, .int i0], h) Q = Tr sc d 230 (54, [some (.ref xk), l1, l2, l3, l4, l5], [.ref xk, .int i2, .int i1, .int i0], h) Q := t_aload_n k_230_53 rfl
theorem k_230_54 : lk 230 54 = some (.getfield 113, 57, 10, 55, .null) := by decide +kernel
theorem x_230_54 : Tr sc d 230 (54, [l0, l1, l2, l3, l4, l5], [.ref k3, .int i2, .int i1, .int i0], h) Q = (okp h k3 10 = true ∧ ∃ q, hR h k3 55 = some q ∧ Tr sc d 230 (57, [l0, l1, l2, l3, l4, l5], [.ref q, .int i2, .int i1, .int i0], h) Q) := t_getr k_230_54
theorem k_230_57 : lk 230 57 = some (.iconst 3, 58, 0, 0, .int 3) := by decide +kernel
theorem x_230_57 : Tr sc d 230 (57, [l0, l1, l2, l3, l4, l5], [.ref k3, .int i2, .int i1, .int i0], h) Q = Tr sc d 230 (58, [l0, l1, l2, l3, l4, l5], [.int 3, .ref k3, .int i2, .int i1, .int i0], h) Q := t_go k_230_57 rfl
theorem k_230_58 : lk 230 58 = some (.iaload, 59, 0, 0, .null) := by decide +kernel
theorem x_230_58 : Tr sc d 230 (58, [l0, l1, l2, l3, l4, l5], [.int i4, .ref k3, .int i2, .int i1, .int i0], h) Q = (iOk sc h k3 i4 ∧ Tr sc d 230 (59, [l0, l1, l2, l3, l4, l5], [.int (iRd sc h k3 i4), .int i2, .int i1, .int i0], h) Q) := t_iald k_230_58
theorem k_230_59 : lk 230 59 = some (.imul, 60, 0, 0, .null) := by decide +kernel
theorem x_230_59 : Tr sc d 230 (59, [l0, l1, l2, l3, l4, l5], [.int i3, .int i2, .int i1, .int i0], h) Q = Tr sc d 230 (60, [l0, l1, l2, l3, l4, l5], [.int (i2 * i3), .int i1, .int i0], h) Q := t_go k_230_59 rfl
theorem k_230_60 : lk 230 60 = some (.invokestatic 144, 63, 156, 3, .null) := by decide +kernel
theorem x_230_60 : Tr sc (d + 1) 230 (60, [l0, l1, l2, l3, l4, l5], [.int i2, .int i1, .int i0], h) Q = Tr sc d 156 (ent0 156 [.int i0, .int i1, .int i2] h) (fun z => Tr sc (d + 1) 230 (63, [l0, l1, l2, l3, l4, l5], z.1.toList ++ [], z.2) Q) := t_cs (as := [.int i0, .int i1, .int i2]) (r := []) k_230_60 (by decide) rfl rfl (Nat.le_of_ble_eq_true rfl) (Nat.le_of_ble_eq_true rfl)
theorem k_230_63 : lk 230 63 = some (.ifCond .eq 7, 66, 70, 0, .null) := by decide +kernel
theorem x_230_63 : Tr sc d 230 (63, [l0, l1, l2, l3, l4, l5], [.int i0], h) Q = if i0 = 0 then Tr sc d 230 (70, [l0, l1, l2, l3, l4, l5], [], h) Q else Tr sc d 230 (66, [l0, l1, l2, l3, l4, l5], [], h) Q := t_if k_230_63 rfl
theorem k_230_66 : lk 230 66 = some (.iconst 1, 67, 0, 0, .int 1) := by decide +kernel
theorem x_230_66 : Tr sc d 230 (66, [l0, l1, l2, l3, l4, l5], [], h) Q = Tr sc d 230 (67, [l0, l1, l2, l3, l4, l5], [.int 1], h) Q := t_go k_230_66 rfl
theorem k_230_67 : lk 230 67 = some (.goto 4, 70, 71, 0, .null) := by decide +kernel
theorem x_230_67 : Tr sc d 230 (67, [l0, l1, l2, l3, l4, l5], [.int i0], h) Q = Tr sc d 230 (71, [l0, l1, l2, l3, l4, l5], [.int i0], h) Q := t_go k_230_67 rfl
theorem k_230_70 : lk 230 70 = some (.iconst 0, 71, 0, 0, .int 0) := by decide +kernel
theorem x_230_70 : Tr sc d 230 (70, [l0, l1, l2, l3, l4, l5], [], h) Q = Tr sc d 230 (71, [l0, l1, l2, l3, l4, l5], [.int 0], h) Q := t_go k_230_70 rfl
theorem k_230_71 : lk 230 71 = some (.ireturn, 72, 0, 0, .null) := by decide +kernel
theorem x_230_71 : Tr sc d 230 (71, [l0, l1, l2, l3, l4, l5], [.int i0], h) Q = (vp_nar .boolean i0 = i0 ∧ Q (some (.int i0), h)) := t_zret k_230_71 r_230
theorem e_230 : Tr sc d 230 (ent0 230 [.ref k0, .int i1, .int i2, .int i3, .int i4] h) Q = Tr sc d 230 (0, [some (.ref k0), some (.int i1), some (.int i2), some (.int i3), some (.int i4), none], [], h) Q := by
  have e : mL 230 = 6 := by decide +kernel
  unfold ent0
  rw [e]
  rfl
theorem r_231 : mR 231 = some .int := by decide +kernel
theorem k_231_0 : lk 231 0 = some (.bipush (-9), 2, 0, 0, .int (-9)) := by decide +kernel
theorem x_231_0 : Tr sc d 231 (0, [l0, l1, l2, l3, l4], [], h) Q = Tr sc d 231 (2, [l0, l1, l2, l3, l4], [.int (-9)], h) Q := t_go k_231_0 rfl
theorem k_231_2 : lk 231 2 = some (.istore_n 3, 3, 3, 0, .null) := by decide +kernel
theorem x_231_2 : Tr sc d 231 (2, [l0, l1, l2, l3, l4], [.int i0], h) Q = Tr sc d 231 (3, [l0, l1, cl2 l2, some (.int i0), l4], [], h) Q := t_istore_n k_231_2 (Nat.le_of_ble_eq_true rfl)
theorem k_231_3 : lk 231 3 = some (.iconst 0, 4, 0, 0, .int 0) := by decide +kernel
theorem x_231_3 : Tr sc d 231 (3, [l0, l1, l2, l3, l4], [], h) Q = Tr sc d 231 (4, [l0, l1, l2, l3, l4], [.int 0], h) Q := t_go k_231_3 rfl
theorem k_231_4 : lk 231 4 = some (.istore 4, 6, 4, 0, .null) := by decide +kernel
theorem x_231_4 : Tr sc d 231 (4, [l0, l1, l2, l3, l4], [.int i0], h) Q = Tr sc d 231 (6, [l0, l1, l2, cl2 l3, some (.int i0)], [], h) Q := t_istore k_231_4 (Nat.le_of_ble_eq_true rfl)
theorem k_231_6 : lk 231 6 = some (.iload 4, 8, 4, 0, .null) := by decide +kernel
theorem x_231_6 : Tr sc d 231 (6, [l0, l1, l2, l3, some (.int x)], [], h) Q = Tr sc d 231 (8, [l0, l1, l2, l3, some (.int x)], [.int x], h) Q := t_iload k_231_6 rfl
theorem k_231_8 : lk 231 8 = some (.aload_n 0, 9, 0, 0, .null) := by decide +kernel
theorem x_231_8 : Tr sc d 231 (8, [some (.ref xk), l1, l2, l3, l4], [.int i0], h) Q = Tr sc d 231 (9, [some (.ref xk), l1, l2, l3, l4], [.ref xk, .int i0], h) Q := t_aload_n k_231_8 rfl
theorem k_231_9 : lk 231 9 = some (.getfield 346, 12, 10, 50, .int 0) := by decide +kernel
theorem x_231_9 : Tr sc d 231 (9, [l0, l1, l2, l3, l4], [.ref k1, .int i0], h) Q = (okp h k1 10 = true ∧ Tr sc d 231 (12, [l0, l1, l2, l3, l4], [.int (hI h k1 50), .int i0], h) Q) := t_gd k_231_9 rfl
theorem k_231_12 : lk 231 12 = some (.if_icmp .ge 38, 15, 50, 0, .null) := by decide +kernel
theorem x_231_12 : Tr sc d 231 (12, [l0, l1, l2, l3, l4], [.int i1, .int i0], h) Q = if i1 ≤ i0 then Tr sc d 231 (50, [l0, l1, l2, l3, l4], [], h) Q else Tr sc d 231 (15, [l0, l1, l2, l3, l4], [], h) Q := t_if k_231_12 rfl
theorem k_231_15 : lk 231 15 = some (.aload_n 0, 16, 0, 0, .null) := by decide +kernel
theorem x_231_15 : Tr sc d 231 (15, [some (.ref xk), l1, l2, l3, l4], [], h) Q = Tr sc d 231 (16, [some (.ref xk), l1, l2, l3, l4], [.ref xk], h) Q := t_aload_n k_231_15 rfl
theorem k_231_16 : lk 231 16 = some (.getfield 101, 19, 10, 51, .null) := by decide +kernel
theorem x_231_16 : Tr sc d 231 (16, [l0, l1, l2, l3, l4], [.ref k0], h) Q = (okp h k0 10 = true ∧ ∃ q, hR h k0 51 = some q ∧ Tr sc d 231 (19, [l0, l1, l2, l3, l4], [.ref q], h) Q) := t_getr k_231_16
theorem k_231_19 : lk 231 19 = some (.iload 4, 21, 4, 0, .null) := by decide +kernel
theorem x_231_19 : Tr sc d 231 (19, [l0, l1, l2, l3, some (.int x)], [.ref k0], h) Q = Tr sc d 231 (21, [l0, l1, l2, l3, some (.int x)], [.int x, .ref k0], h) Q := t_iload k_231_19 rfl
theorem k_231_21 : lk 231 21 = some (.iaload, 22, 0, 0, .null) := by decide +kernel
theorem x_231_21 : Tr sc d 231 (21, [l0, l1, l2, l3, l4], [.int i1, .ref k0], h) Q = (iOk sc h k0 i1 ∧ Tr sc d 231 (22, [l0, l1, l2, l3, l4], [.int (iRd sc h k0 i1)], h) Q) := t_iald k_231_21
theorem k_231_22 : lk 231 22 = some (.iload_n 1, 23, 1, 0, .null) := by decide +kernel
theorem x_231_22 : Tr sc d 231 (22, [l0, some (.int x), l2, l3, l4], [.int i0], h) Q = Tr sc d 231 (23, [l0, some (.int x), l2, l3, l4], [.int x, .int i0], h) Q := t_iload_n k_231_22 rfl
theorem k_231_23 : lk 231 23 = some (.if_icmp .ne 19, 26, 42, 0, .null) := by decide +kernel
theorem x_231_23 : Tr sc d 231 (23, [l0, l1, l2, l3, l4], [.int i1, .int i0], h) Q = if i0 = i1 then Tr sc d 231 (26, [l0, l1, l2, l3, l4], [], h) Q else Tr sc d 231 (42, [l0, l1, l2, l3, l4], [], h) Q := t_if k_231_23 rfl
theorem k_231_26 : lk 231 26 = some (.aload_n 0, 27, 0, 0, .null) := by decide +kernel
theorem x_231_26 : Tr sc d 231 (26, [some (.ref xk), l1, l2, l3, l4], [], h) Q = Tr sc d 231 (27, [some (.ref xk), l1, l2, l3, l4], [.ref xk], h) Q := t_aload_n k_231_26 rfl
theorem k_231_27 : lk 231 27 = some (.getfield 104, 30, 10, 52, .null) := by decide +kernel
theorem x_231_27 : Tr sc d 231 (27, [l0, l1, l2, l3, l4], [.ref k0], h) Q = (okp h k0 10 = true ∧ ∃ q, hR h k0 52 = some q ∧ Tr sc d 231 (30, [l0, l1, l2, l3, l4], [.ref q], h) Q) := t_getr k_231_27
theorem k_231_30 : lk 231 30 = some (.iload 4, 32, 4, 0, .null) := by decide +kernel
theorem x_231_30 : Tr sc d 231 (30, [l0, l1, l2, l3, some (.int x)], [.ref k0], h) Q = Tr sc d 231 (32, [l0, l1, l2, l3, some (.int x)], [.int x, .ref k0], h) Q := t_iload k_231_30 rfl
theorem k_231_32 : lk 231 32 = some (.iaload, 33, 0, 0, .null) := by decide +kernel
theorem x_231_32 : Tr sc d 231 (32, [l0, l1, l2, l3, l4], [.int i1, .ref k0], h) Q = (iOk sc h k0 i1 ∧ Tr sc d 231 (33, [l0, l1, l2, l3, l4], [.int (iRd sc h k0 i1)], h) Q) := t_iald k_231_32
theorem k_231_33 : lk 231 33 = some (.iload_n 2, 34, 2, 0, .null) := by decide +kernel
theorem x_231_33 : Tr sc d 231 (33, [l0, l1, some (.int x), l3, l4], [.int i0], h) Q = Tr sc d 231 (34, [l0, l1, some (.int x), l3, l4], [.int x, .int i0], h) Q := t_iload_n k_231_33 rfl
theorem k_231_34 : lk 231 34 = some (.if_icmp .ne 8, 37, 42, 0, .null) := by decide +kernel
theorem x_231_34 : Tr sc d 231 (34, [l0, l1, l2, l3, l4], [.int i1, .int i0], h) Q = if i0 = i1 then Tr sc d 231 (37, [l0, l1, l2, l3, l4], [], h) Q else Tr sc d 231 (42, [l0, l1, l2, l3, l4], [], h) Q := t_if k_231_34 rfl
theorem k_231_37 : lk 231 37 = some (.iload 4, 39, 4, 0, .null) := by decide +kernel
theorem x_231_37 : Tr sc d 231 (37, [l0, l1, l2, l3, some (.int x)], [], h) Q = Tr sc d 231 (39, [l0, l1, l2, l3, some (.int x)], [.int x], h) Q := t_iload k_231_37 rfl
theorem k_231_39 : lk 231 39 = some (.goto 4, 42, 43, 0, .null) := by decide +kernel
theorem x_231_39 : Tr sc d 231 (39, [l0, l1, l2, l3, l4], [.int i0], h) Q = Tr sc d 231 (43, [l0, l1, l2, l3, l4], [.int i0], h) Q := t_go k_231_39 rfl
theorem k_231_42 : lk 231 42 = some (.iload_n 3, 43, 3, 0, .null) := by decide +kernel
theorem x_231_42 : Tr sc d 231 (42, [l0, l1, l2, some (.int x), l4], [], h) Q = Tr sc d 231 (43, [l0, l1, l2, some (.int x), l4], [.int x], h) Q := t_iload_n k_231_42 rfl
theorem k_231_43 : lk 231 43 = some (.istore_n 3, 44, 3, 0, .null) := by decide +kernel
theorem x_231_43 : Tr sc d 231 (43, [l0, l1, l2, l3, l4], [.int i0], h) Q = Tr sc d 231 (44, [l0, l1, cl2 l2, some (.int i0), l4], [], h) Q := t_istore_n k_231_43 (Nat.le_of_ble_eq_true rfl)
theorem k_231_44 : lk 231 44 = some (.iinc 4 1, 47, 4, 0, .int 1) := by decide +kernel
theorem x_231_44 : Tr sc d 231 (44, [l0, l1, l2, l3, some (.int x)], [], h) Q = Tr sc d 231 (47, [l0, l1, l2, cl2 l3, some (.int (x + 1))], [], h) Q := t_inc k_231_44 rfl (Nat.le_of_ble_eq_true rfl)
theorem k_231_47 : lk 231 47 = some (.goto (-41), 50, 6, 0, .null) := by decide +kernel
theorem x_231_47 : Tr sc d 231 (47, [l0, l1, l2, l3, l4], [], h) Q = Tr sc d 231 (6, [l0, l1, l2, l3, l4], [], h) Q := t_go k_231_47 rfl
theorem k_231_50 : lk 231 50 = some (.iload_n 3, 51, 3, 0, .null) := by decide +kernel
theorem x_231_50 : Tr sc d 231 (50, [l0, l1, l2, some (.int x), l4], [], h) Q = Tr sc d 231 (51, [l0, l1, l2, some (.int x), l4], [.int x], h) Q := t_iload_n k_231_50 rfl
theorem k_231_51 : lk 231 51 = some (.ireturn, 52, 0, 0, .null) := by decide +kernel
theorem x_231_51 : Tr sc d 231 (51, [l0, l1, l2, l3, l4], [.int i0], h) Q = Q (some (.int i0), h) := t_ret k_231_51 (by rw [r_231]; rfl)
theorem e_231 : Tr sc d 231 (ent0 231 [.ref k0, .int i1, .int i2] h) Q = Tr sc d 231 (0, [some (.ref k0), some (.int i1), some (.int i2), none, none], [], h) Q := by
  have e : mL 231 = 5 := by decide +kernel
  unfold ent0
  rw [e]
  rfl
theorem r_232 : mR 232 = some .int := by decide +kernel
theorem k_232_0 : lk 232 0 = some (.iload_n 2, 1, 2, 0, .null) := by decide +kernel
theorem x_232_0 : Tr sc d 232 (0, [l0, l1, some (.int x), l3, l4, l5, l6, l7, l8, l9, l10], [], h) Q = Tr sc d 232 (1, [l0, l1, some (.int x), l3, l4, l5, l6, l7, l8, l9, l10], [.int x], h) Q := t_iload_n k_232_0 rfl
theorem k_232_1 : lk 232 1 = some (.sipush (-200), 4, 0, 0, .int (-200)) := by decide +kernel
theorem x_232_1 : Tr sc d 232 (1, [l0, l1, l2, l3, l4, l5, l6, l7, l8, l9, l10], [.int i0], h) Q = Tr sc d 232 (4, [l0, l1, l2, l3, l4, l5, l6, l7, l8, l9, l10], [.int (-200), .int i0], h) Q := t_go k_232_1 rfl
theorem k_232_4 : lk 232 4 = some (.sipush 200, 7, 0, 0, .int 200) := by decide +kernel
theorem x_232_4 : Tr sc d 232 (4, [l0, l1, l2, l3, l4, l5, l6, l7, l8, l9, l10], [.int i1, .int i0], h) Q = Tr sc d 232 (7, [l0, l1, l2, l3, l4, l5, l6, l7, l8, l9, l10], [.int 200, .int i1, .int i0], h) Q := t_go k_232_4 rfl
theorem k_232_7 : lk 232 7 = some (.invokestatic 144, 10, 156, 3, .null) := by decide +kernel
theorem x_232_7 : Tr sc (d + 1) 232 (7, [l0, l1, l2, l3, l4, l5, l6, l7, l8, l9, l10], [.int i2, .int i1, .int i0], h) Q = Tr sc d 156 (ent0 156 [.int i0, .int i1, .int i2] h) (fun z => Tr sc (d + 1) 232 (10, [l0, l1, l2, l3, l4, l5, l6, l7, l8, l9, l10], z.1.toList ++ [], z.2) Q) := t_cs (as := [.int i0, .int i1, .int i2]) (r := []) k_232_7 (by decide) rfl rfl (Nat.le_of_ble_eq_true rfl) (Nat.le_of_ble_eq_true rfl)
theorem k_232_10 : lk 232 10 = some (.ifCond .eq 27, 13, 37, 0, .null) := by decide +kernel
theorem x_232_10 : Tr sc d 232 (10, [l0, l1, l2, l3, l4, l5, l6, l7, l8, l9, l10], [.int i0], h) Q = if i0 = 0 then Tr sc d 232 (37, [l0, l1, l2, l3, l4, l5, l6, l7, l8, l9, l10], [], h) Q else Tr sc d 232 (13, [l0, l1, l2, l3, l4, l5, l6, l7, l8, l9, l10], [], h) Q := t_if k_232_10 rfl
theorem k_232_13 : lk 232 13 = some (.iload_n 3, 14, 3, 0, .null) := by decide +kernel
theorem x_232_13 : Tr sc d 232 (13, [l0, l1, l2, some (.int x), l4, l5, l6, l7, l8, l9, l10], [], h) Q = Tr sc d 232 (14, [l0, l1, l2, some (.int x), l4, l5, l6, l7, l8, l9, l10], [.int x], h) Q := t_iload_n k_232_13 rfl
theorem k_232_14 : lk 232 14 = some (.sipush (-200), 17, 0, 0, .int (-200)) := by decide +kernel
theorem x_232_14 : Tr sc d 232 (14, [l0, l1, l2, l3, l4, l5, l6, l7, l8, l9, l10], [.int i0], h) Q = Tr sc d 232 (17, [l0, l1, l2, l3, l4, l5, l6, l7, l8, l9, l10], [.int (-200), .int i0], h) Q := t_go k_232_14 rfl
theorem k_232_17 : lk 232 17 = some (.sipush 200, 20, 0, 0, .int 200) := by decide +kernel
theorem x_232_17 : Tr sc d 232 (17, [l0, l1, l2, l3, l4, l5, l6, l7, l8, l9, l10], [.int i1, .int i0], h) Q = Tr sc d 232 (20, [l0, l1, l2, l3, l4, l5, l6, l7, l8, l9, l10], [.int 200, .int i1, .int i0], h) Q := t_go k_232_17 rfl
theorem k_232_20 : lk 232 20 = some (.invokestatic 144, 23, 156, 3, .null) := by decide +kernel
theorem x_232_20 : Tr sc (d + 1) 232 (20, [l0, l1, l2, l3, l4, l5, l6, l7, l8, l9, l10], [.int i2, .int i1, .int i0], h) Q = Tr sc d 156 (ent0 156 [.int i0, .int i1, .int i2] h) (fun z => Tr sc (d + 1) 232 (23, [l0, l1, l2, l3, l4, l5, l6, l7, l8, l9, l10], z.1.toList ++ [], z.2) Q) := t_cs (as := [.int i0, .int i1, .int i2]) (r := []) k_232_20 (by decide) rfl rfl (Nat.le_of_ble_eq_true rfl) (Nat.le_of_ble_eq_true rfl)
theorem k_232_23 : lk 232 23 = some (.ifCond .eq 14, 26, 37, 0, .null) := by decide +kernel
theorem x_232_23 : Tr sc d 232 (23, [l0, l1, l2, l3, l4, l5, l6, l7, l8, l9, l10], [.int i0], h) Q = if i0 = 0 then Tr sc d 232 (37, [l0, l1, l2, l3, l4, l5, l6, l7, l8, l9, l10], [], h) Q else Tr sc d 232 (26, [l0, l1, l2, l3, l4, l5, l6, l7, l8, l9, l10], [], h) Q := t_if k_232_23 rfl
theorem k_232_26 : lk 232 26 = some (.iload 4, 28, 4, 0, .null) := by decide +kernel
theorem x_232_26 : Tr sc d 232 (26, [l0, l1, l2, l3, some (.int x), l5, l6, l7, l8, l9, l10], [], h) Q = Tr sc d 232 (28, [l0, l1, l2, l3, some (.int x), l5, l6, l7, l8, l9, l10], [.int x], h) Q := t_iload k_232_26 rfl
theorem k_232_28 : lk 232 28 = some (.iconst 1, 29, 0, 0, .int 1) := by decide +kernel
theorem x_232_28 : Tr sc d 232 (28, [l0, l1, l2, l3, l4, l5, l6, l7, l8, l9, l10], [.int i0], h) Q = Tr sc d 232 (29, [l0, l1, l2, l3, l4, l5, l6, l7, l8, l9, l10], [.int 1, .int i0], h) Q := t_go k_232_28 rfl
theorem k_232_29 : lk 232 29 = some (.bipush 12, 31, 0, 0, .int 12) := by decide +kernel
theorem x_232_29 : Tr sc d 232 (29, [l0, l1, l2, l3, l4, l5, l6, l7, l8, l9, l10], [.int i1, .int i0], h) Q = Tr sc d 232 (31, [l0, l1, l2, l3, l4, l5, l6, l7, l8, l9, l10], [.int 12, .int i1, .int i0], h) Q := t_go k_232_29 rfl
theorem k_232_31 : lk 232 31 = some (.invokestatic 144, 34, 156, 3, .null) := by decide +kernel
theorem x_232_31 : Tr sc (d + 1) 232 (31, [l0, l1, l2, l3, l4, l5, l6, l7, l8, l9, l10], [.int i2, .int i1, .int i0], h) Q = Tr sc d 156 (ent0 156 [.int i0, .int i1, .int i2] h) (fun z => Tr sc (d + 1) 232 (34, [l0, l1, l2, l3, l4, l5, l6, l7, l8, l9, l10], z.1.toList ++ [], z.2) Q) := t_cs (as := [.int i0, .int i1, .int i2]) (r := []) k_232_31 (by decide) rfl rfl (Nat.le_of_ble_eq_true rfl) (Nat.le_of_ble_eq_true rfl)
theorem k_232_34 : lk 232 34 = some (.ifCond .ne 5, 37, 39, 0, .null) := by decide +kernel
theorem x_232_34 : Tr sc d 232 (34, [l0, l1, l2, l3, l4, l5, l6, l7, l8, l9, l10], [.int i0], h) Q = if i0 = 0 then Tr sc d 232 (37, [l0, l1, l2, l3, l4, l5, l6, l7, l8, l9, l10], [], h) Q else Tr sc d 232 (39, [l0, l1, l2, l3, l4, l5, l6, l7, l8, l9, l10], [], h) Q := t_if k_232_34 rfl
theorem k_232_37 : lk 232 37 = some (.iconst (-1), 38, 0, 0, .int (-1)) := by decide +kernel
theorem x_232_37 : Tr sc d 232 (37, [l0, l1, l2, l3, l4, l5, l6, l7, l8, l9, l10], [], h) Q = Tr sc d 232 (38, [l0, l1, l2, l3, l4, l5, l6, l7, l8, l9, l10], [.int (-1)], h) Q := t_go k_232_37 rfl
theorem k_232_38 : lk 232 38 = some (.ireturn, 39, 0, 0, .null) := by decide +kernel
theorem x_232_38 : Tr sc d 232 (38, [l0, l1, l2, l3, l4, l5, l6, l7, l8, l9, l10], [.int i0], h) Q = Q (some (.int i0), h) := t_ret k_232_38 (by rw [r_232]; rfl)
theorem k_232_39 : lk 232 39 = some (.aload_n 0, 40, 0, 0, .null) := by decide +kernel
theorem x_232_39 : Tr sc d 232 (39, [some (.ref xk), l1, l2, l3, l4, l5, l6, l7, l8, l9, l10], [], h) Q = Tr sc d 232 (40, [some (.ref xk), l1, l2, l3, l4, l5, l6, l7, l8, l9, l10], [.ref xk], h) Q := t_aload_n k_232_39 rfl
theorem k_232_40 : lk 232 40 = some (.iload_n 1, 41, 1, 0, .null) := by decide +kernel
theorem x_232_40 : Tr sc d 232 (40, [l0, some (.int x), l2, l3, l4, l5, l6, l7, l8, l9, l10], [.ref k0], h) Q = Tr sc d 232 (41, [l0, some (.int x), l2, l3, l4, l5, l6, l7, l8, l9, l10], [.int x, .ref k0], h) Q := t_iload_n k_232_40 rfl
theorem k_232_41 : lk 232 41 = some (.invokevirtual 220, 44, 176, 1, .null) := by decide +kernel
theorem x_232_41 : Tr sc (d + 1) 232 (41, [l0, l1, l2, l3, l4, l5, l6, l7, l8, l9, l10], [.int i1, .ref k0], h) Q = (okp h k0 10 = true ∧ Tr sc d 176 (ent0 176 [.ref k0, .int i1] h) (fun z => Tr sc (d + 1) 232 (44, [l0, l1, l2, l3, l4, l5, l6, l7, l8, l9, l10], z.1.toList ++ [], z.2) Q)) := t_cv (as := [.int i1]) (r := []) k_232_41 rfl rfl (Nat.le_of_ble_eq_true rfl) (Nat.le_of_ble_eq_true rfl) (Nat.le_of_ble_eq_true rfl)
theorem k_232_44 : lk 232 44 = some (.istore 5, 46, 5, 0, .null) := by decide +kernel
theorem x_232_44 : Tr sc d 232 (44, [l0, l1, l2, l3, l4, l5, l6, l7, l8, l9, l10], [.int i0], h) Q = Tr sc d 232 (46, [l0, l1, l2, l3, cl2 l4, some (.int i0), l6, l7, l8, l9, l10], [], h) Q := t_istore k_232_44 (Nat.le_of_ble_eq_true rfl)
theorem k_232_46 : lk 232 46 = some (.iload 5, 48, 5, 0, .null) := by decide +kernel
theorem x_232_46 : Tr sc d 232 (46, [l0, l1, l2, l3, l4, some (.int x), l6, l7, l8, l9, l10], [], h) Q = Tr sc d 232 (48, [l0, l1, l2, l3, l4, some (.int x), l6, l7, l8, l9, l10], [.int x], h) Q := t_iload k_232_46 rfl
theorem k_232_48 : lk 232 48 = some (.ifCond .ge 6, 51, 54, 0, .null) := by decide +kernel
theorem x_232_48 : Tr sc d 232 (48, [l0, l1, l2, l3, l4, l5, l6, l7, l8, l9, l10], [.int i0], h) Q = if 0 ≤ i0 then Tr sc d 232 (54, [l0, l1, l2, l3, l4, l5, l6, l7, l8, l9, l10], [], h) Q else Tr sc d 232 (51, [l0, l1, l2, l3, l4, l5, l6, l7, l8, l9, l10], [], h) Q := t_if k_232_48 rfl
theorem k_232_51 : lk 232 51 = some (.iload 5, 53, 5, 0, .null) := by decide +kernel
theorem x_232_51 : Tr sc d 232 (51, [l0, l1, l2, l3, l4, some (.int x), l6, l7, l8, l9, l10], [], h) Q = Tr sc d 232 (53, [l0, l1, l2, l3, l4, some (.int x), l6, l7, l8, l9, l10], [.int x], h) Q := t_iload k_232_51 rfl
theorem k_232_53 : lk 232 53 = some (.ireturn, 54, 0, 0, .null) := by decide +kernel
theorem x_232_53 : Tr sc d 232 (53, [l0, l1, l2, l3, l4, l5, l6, l7, l8, l9, l10], [.int i0], h) Q = Q (some (.int i0), h) := t_ret k_232_53 (by rw [r_232]; rfl)
theorem k_232_54 : lk 232 54 = some (.aload_n 0, 55, 0, 0, .null) := by decide +kernel
theorem x_232_54 : Tr sc d 232 (54, [some (.ref xk), l1, l2, l3, l4, l5, l6, l7, l8, l9, l10], [], h) Q = Tr sc d 232 (55, [some (.ref xk), l1, l2, l3, l4, l5, l6, l7, l8, l9, l10], [.ref xk], h) Q := t_aload_n k_232_54 rfl
theorem k_232_55 : lk 232 55 = some (.iload_n 1, 56, 1, 0, .null) := by decide +kernel
theorem x_232_55 : Tr sc d 232 (55, [l0, some (.int x), l2, l3, l4, l5, l6, l7, l8, l9, l10], [.ref k0], h) Q = Tr sc d 232 (56, [l0, some (.int x), l2, l3, l4, l5, l6, l7, l8, l9, l10], [.int x, .ref k0], h) Q := t_iload_n k_232_55 rfl
theorem k_232_56 : lk 232 56 = some (.invokevirtual 223, 59, 193, 1, .null) := by decide +kernel
theorem x_232_56 : Tr sc (d + 1) 232 (56, [l0, l1, l2, l3, l4, l5, l6, l7, l8, l9, l10], [.int i1, .ref k0], h) Q = (okp h k0 10 = true ∧ Tr sc d 193 (ent0 193 [.ref k0, .int i1] h) (fun z => Tr sc (d + 1) 232 (59, [l0, l1, l2, l3, l4, l5, l6, l7, l8, l9, l10], z.1.toList ++ [], z.2) Q)) := t_cv (as := [.int i1]) (r := []) k_232_56 rfl rfl (Nat.le_of_ble_eq_true rfl) (Nat.le_of_ble_eq_true rfl) (Nat.le_of_ble_eq_true rfl)
theorem k_232_59 : lk 232 59 = some (.ifCond .ne 9, 62, 68, 0, .null) := by decide +kernel
theorem x_232_59 : Tr sc d 232 (59, [l0, l1, l2, l3, l4, l5, l6, l7, l8, l9, l10], [.int i0], h) Q = if i0 = 0 then Tr sc d 232 (62, [l0, l1, l2, l3, l4, l5, l6, l7, l8, l9, l10], [], h) Q else Tr sc d 232 (68, [l0, l1, l2, l3, l4, l5, l6, l7, l8, l9, l10], [], h) Q := t_if k_232_59 rfl
theorem k_232_62 : lk 232 62 = some (.aload_n 0, 63, 0, 0, .null) := by decide +kernel
theorem x_232_62 : Tr sc d 232 (62, [some (.ref xk), l1, l2, l3, l4, l5, l6, l7, l8, l9, l10], [], h) Q = Tr sc d 232 (63, [some (.ref xk), l1, l2, l3, l4, l5, l6, l7, l8, l9, l10], [.ref xk], h) Q := t_aload_n k_232_62 rfl
theorem k_232_63 : lk 232 63 = some (.iconst 3, 64, 0, 0, .int 3) := by decide +kernel
theorem x_232_63 : Tr sc d 232 (63, [l0, l1, l2, l3, l4, l5, l6, l7, l8, l9, l10], [.ref k0], h) Q = Tr sc d 232 (64, [l0, l1, l2, l3, l4, l5, l6, l7, l8, l9, l10], [.int 3, .ref k0], h) Q := t_go k_232_63 rfl
theorem k_232_64 : lk 232 64 = some (.invokevirtual 152, 67, 157, 1, .null) := by decide +kernel
theorem x_232_64 : Tr sc (d + 1) 232 (64, [l0, l1, l2, l3, l4, l5, l6, l7, l8, l9, l10], [.int i1, .ref k0], h) Q = (okp h k0 10 = true ∧ Tr sc d 157 (ent0 157 [.ref k0, .int i1] h) (fun z => Tr sc (d + 1) 232 (67, [l0, l1, l2, l3, l4, l5, l6, l7, l8, l9, l10], z.1.toList ++ [], z.2) Q)) := t_cv (as := [.int i1]) (r := []) k_232_64 rfl rfl (Nat.le_of_ble_eq_true rfl) (Nat.le_of_ble_eq_true rfl) (Nat.le_of_ble_eq_true rfl)
theorem k_232_67 : lk 232 67 = some (.ireturn, 68, 0, 0, .null) := by decide +kernel
theorem x_232_67 : Tr sc d 232 (67, [l0, l1, l2, l3, l4, l5, l6, l7, l8, l9, l10], [.int i0], h) Q = Q (some (.int i0), h) := t_ret k_232_67 (by rw [r_232]; rfl)
theorem k_232_68 : lk 232 68 = some (.aload_n 0, 69, 0, 0, .null) := by decide +kernel
theorem x_232_68 : Tr sc d 232 (68, [some (.ref xk), l1, l2, l3, l4, l5, l6, l7, l8, l9, l10], [], h) Q = Tr sc d 232 (69, [some (.ref xk), l1, l2, l3, l4, l5, l6, l7, l8, l9, l10], [.ref xk], h) Q := t_aload_n k_232_68 rfl
theorem k_232_69 : lk 232 69 = some (.iload_n 1, 70, 1, 0, .null) := by decide +kernel
theorem x_232_69 : Tr sc d 232 (69, [l0, some (.int x), l2, l3, l4, l5, l6, l7, l8, l9, l10], [.ref k0], h) Q = Tr sc d 232 (70, [l0, some (.int x), l2, l3, l4, l5, l6, l7, l8, l9, l10], [.int x, .ref k0], h) Q := t_iload_n k_232_69 rfl
theorem k_232_70 : lk 232 70 = some (.invokevirtual 349, 73, 229, 1, .null) := by decide +kernel
theorem x_232_70 : Tr sc (d + 1) 232 (70, [l0, l1, l2, l3, l4, l5, l6, l7, l8, l9, l10], [.int i1, .ref k0], h) Q = (okp h k0 10 = true ∧ Tr sc d 229 (ent0 229 [.ref k0, .int i1] h) (fun z => Tr sc (d + 1) 232 (73, [l0, l1, l2, l3, l4, l5, l6, l7, l8, l9, l10], z.1.toList ++ [], z.2) Q)) := t_cv (as := [.int i1]) (r := []) k_232_70 rfl rfl (Nat.le_of_ble_eq_true rfl) (Nat.le_of_ble_eq_true rfl) (Nat.le_of_ble_eq_true rfl)
theorem k_232_73 : lk 232 73 = some (.aload_n 0, 74, 0, 0, .null) := by decide +kernel
theorem x_232_73 : Tr sc d 232 (73, [some (.ref xk), l1, l2, l3, l4, l5, l6, l7, l8, l9, l10], [], h) Q = Tr sc d 232 (74, [some (.ref xk), l1, l2, l3, l4, l5, l6, l7, l8, l9, l10], [.ref xk], h) Q := t_aload_n k_232_73 rfl
theorem k_232_74 : lk 232 74 = some (.iconst 0, 75, 0, 0, .int 0) := by decide +kernel
theorem x_232_74 : Tr sc d 232 (74, [l0, l1, l2, l3, l4, l5, l6, l7, l8, l9, l10], [.ref k0], h) Q = Tr sc d 232 (75, [l0, l1, l2, l3, l4, l5, l6, l7, l8, l9, l10], [.int 0, .ref k0], h) Q := t_go k_232_74 rfl
theorem k_232_75 : lk 232 75 = some (.putfield 346, 78, 10, 50, .int 0) := by decide +kernel
theorem x_232_75 : Tr sc d 232 (75, [l0, l1, l2, l3, l4, l5, l6, l7, l8, l9, l10], [.int i1, .ref k0], h) Q = (okp h k0 10 = true ∧ Tr sc d 232 (78, [l0, l1, l2, l3, l4, l5, l6, l7, l8, l9, l10], [], (sI h k0 50 i1)) Q) := t_gd k_232_75 rfl
theorem k_232_78 : lk 232 78 = some (.aload_n 0, 79, 0, 0, .null) := by decide +kernel
theorem x_232_78 : Tr sc d 232 (78, [some (.ref xk), l1, l2, l3, l4, l5, l6, l7, l8, l9, l10], [], h) Q = Tr sc d 232 (79, [some (.ref xk), l1, l2, l3, l4, l5, l6, l7, l8, l9, l10], [.ref xk], h) Q := t_aload_n k_232_78 rfl
theorem k_232_79 : lk 232 79 = some (.iload_n 1, 80, 1, 0, .null) := by decide +kernel
theorem x_232_79 : Tr sc d 232 (79, [l0, some (.int x), l2, l3, l4, l5, l6, l7, l8, l9, l10], [.ref k0], h) Q = Tr sc d 232 (80, [l0, some (.int x), l2, l3, l4, l5, l6, l7, l8, l9, l10], [.int x, .ref k0], h) Q := t_iload_n k_232_79 rfl
theorem k_232_80 : lk 232 80 = some (.iload_n 2, 81, 2, 0, .null) := by decide +kernel
theorem x_232_80 : Tr sc d 232 (80, [l0, l1, some (.int x), l3, l4, l5, l6, l7, l8, l9, l10], [.int i1, .ref k0], h) Q = Tr sc d 232 (81, [l0, l1, some (.int x), l3, l4, l5, l6, l7, l8, l9, l10], [.int x, .int i1, .ref k0], h) Q := t_iload_n k_232_80 rfl
theorem k_232_81 : lk 232 81 = some (.iload_n 3, 82, 3, 0, .null) := by decide +kernel
theorem x_232_81 : Tr sc d 232 (81, [l0, l1, l2, some (.int x), l4, l5, l6, l7, l8, l9, l10], [.int i2, .int i1, .ref k0], h) Q = Tr sc d 232 (82, [l0, l1, l2, some (.int x), l4, l5, l6, l7, l8, l9, l10], [.int x, .int i2, .int i1, .ref k0], h) Q := t_iload_n k_232_81 rfl
theorem k_232_82 : lk 232 82 = some (.iload 4, 84, 4, 0, .null) := by decide +kernel
theorem x_232_82 : Tr sc d 232 (82, [l0, l1, l2, l3, some (.int x), l5, l6, l7, l8, l9, l10], [.int i3, .int i2, .int i1, .ref k0], h) Q = Tr sc d 232 (84, [l0, l1, l2, l3, some (.int x), l5, l6, l7, l8, l9, l10], [.int x, .int i3, .int i2, .int i1, .ref k0], h) Q := t_iload k_232_82 rfl
theorem k_232_84 : lk 232 84 = some (.invokevirtual 352, 87, 230, 4, .null) := by decide +kernel
theorem x_232_84 : Tr sc (d + 1) 232 (84, [l0, l1, l2, l3, l4, l5, l6, l7, l8, l9, l10], [.int i4, .int i3, .int i2, .int i1, .ref k0], h) Q = (okp h k0 10 = true ∧ Tr sc d 230 (ent0 230 [.ref k0, .int i1, .int i2, .int i3, .int i4] h) (fun z => Tr sc (d + 1) 232 (87, [l0, l1, l2, l3, l4, l5, l6, l7, l8, l9, l10], z.1.toList ++ [], z.2) Q)) := t_cv (as := [.int i1, .int i2, .int i3, .int i4]) (r := []) k_232_84 rfl rfl (Nat.le_of_ble_eq_true rfl) (Nat.le_of_ble_eq_true rfl) (Nat.le_of_ble_eq_true rfl)
theorem k_232_87 : lk 232 87 = some (.ifCond .eq 22, 90, 109, 0, .null) := by decide +kernel
theorem x_232_87 : Tr sc d 232 (87, [l0, l1, l2, l3, l4, l5, l6, l7, l8, l9, l10], [.int i0], h) Q = if i0 = 0 then Tr sc d 232 (109, [l0, l1, l2, l3, l4, l5, l6, l7, l8, l9, l10], [], h) Q else Tr sc d 232 (90, [l0, l1, l2, l3, l4, l5, l6, l7, l8, l9, l10], [], h) Q := t_if k_232_87 rfl
theorem k_232_90 : lk 232 90 = some (.aload_n 0, 91, 0, 0, .null) := by decide +kernel
theorem x_232_90 : Tr sc d 232 (90, [some (.ref xk), l1, l2, l3, l4, l5, l6, l7, l8, l9, l10], [], h) Q = Tr sc d 232 (91, [some (.ref xk), l1, l2, l3, l4, l5, l6, l7, l8, l9, l10], [.ref xk], h) Q := t_aload_n k_232_90 rfl
theorem k_232_91 : lk 232 91 = some (.getfield 101, 94, 10, 51, .null) := by decide +kernel
theorem x_232_91 : Tr sc d 232 (91, [l0, l1, l2, l3, l4, l5, l6, l7, l8, l9, l10], [.ref k0], h) Q = (okp h k0 10 = true ∧ ∃ q, hR h k0 51 = some q ∧ Tr sc d 232 (94, [l0, l1, l2, l3, l4, l5, l6, l7, l8, l9, l10], [.ref q], h) Q) := t_getr k_232_91
theorem k_232_94 : lk 232 94 = some (.iconst 0, 95, 0, 0, .int 0) := by decide +kernel
theorem x_232_94 : Tr sc d 232 (94, [l0, l1, l2, l3, l4, l5, l6, l7, l8, l9, l10], [.ref k0], h) Q = Tr sc d 232 (95, [l0, l1, l2, l3, l4, l5, l6, l7, l8, l9, l10], [.int 0, .ref k0], h) Q := t_go k_232_94 rfl
theorem k_232_95 : lk 232 95 = some (.iload_n 2, 96, 2, 0, .null) := by decide +kernel
theorem x_232_95 : Tr sc d 232 (95, [l0, l1, some (.int x), l3, l4, l5, l6, l7, l8, l9, l10], [.int i1, .ref k0], h) Q = Tr sc d 232 (96, [l0, l1, some (.int x), l3, l4, l5, l6, l7, l8, l9, l10], [.int x, .int i1, .ref k0], h) Q := t_iload_n k_232_95 rfl
theorem k_232_96 : lk 232 96 = some (.iastore, 97, 0, 0, .null) := by decide +kernel
theorem x_232_96 : Tr sc d 232 (96, [l0, l1, l2, l3, l4, l5, l6, l7, l8, l9, l10], [.int i2, .int i1, .ref k0], h) Q = ((okp h k0 11 && inb i1 (LN k0)) = true ∧ Tr sc d 232 (97, [l0, l1, l2, l3, l4, l5, l6, l7, l8, l9, l10], [], (sI h k0 i1.toNatClampNeg i2)) Q) := t_gd k_232_96 rfl
theorem k_232_97 : lk 232 97 = some (.aload_n 0, 98, 0, 0, .null) := by decide +kernel
theorem x_232_97 : Tr sc d 232 (97, [some (.ref xk), l1, l2, l3, l4, l5, l6, l7, l8, l9, l10], [], h) Q = Tr sc d 232 (98, [some (.ref xk), l1, l2, l3, l4, l5, l6, l7, l8, l9, l10], [.ref xk], h) Q := t_aload_n k_232_97 rfl
theorem k_232_98 : lk 232 98 = some (.getfield 104, 101, 10, 52, .null) := by decide +kernel
theorem x_232_98 : Tr sc d 232 (98, [l0, l1, l2, l3, l4, l5, l6, l7, l8, l9, l10], [.ref k0], h) Q = (okp h k0 10 = true ∧ ∃ q, hR h k0 52 = some q ∧ Tr sc d 232 (101, [l0, l1, l2, l3, l4, l5, l6, l7, l8, l9, l10], [.ref q], h) Q) := t_getr k_232_98
theorem k_232_101 : lk 232 101 = some (.iconst 0, 102, 0, 0, .int 0) := by decide +kernel
theorem x_232_101 : Tr sc d 232 (101, [l0, l1, l2, l3, l4, l5, l6, l7, l8, l9, l10], [.ref k0], h) Q = Tr sc d 232 (102, [l0, l1, l2, l3, l4, l5, l6, l7, l8, l9, l10], [.int 0, .ref k0], h) Q := t_go k_232_101 rfl
theorem k_232_102 : lk 232 102 = some (.iload_n 3, 103, 3, 0, .null) := by decide +kernel
theorem x_232_102 : Tr sc d 232 (102, [l0, l1, l2, some (.int x), l4, l5, l6, l7, l8, l9, l10], [.int i1, .ref k0], h) Q = Tr sc d 232 (103, [l0, l1, l2, some (.int x), l4, l5, l6, l7, l8, l9, l10], [.int x, .int i1, .ref k0], h) Q := t_iload_n k_232_102 rfl
theorem k_232_103 : lk 232 103 = some (.iastore, 104, 0, 0, .null) := by decide +kernel
theorem x_232_103 : Tr sc d 232 (103, [l0, l1, l2, l3, l4, l5, l6, l7, l8, l9, l10], [.int i2, .int i1, .ref k0], h) Q = ((okp h k0 11 && inb i1 (LN k0)) = true ∧ Tr sc d 232 (104, [l0, l1, l2, l3, l4, l5, l6, l7, l8, l9, l10], [], (sI h k0 i1.toNatClampNeg i2)) Q) := t_gd k_232_103 rfl
theorem k_232_104 : lk 232 104 = some (.aload_n 0, 105, 0, 0, .null) := by decide +kernel
theorem x_232_104 : Tr sc d 232 (104, [some (.ref xk), l1, l2, l3, l4, l5, l6, l7, l8, l9, l10], [], h) Q = Tr sc d 232 (105, [some (.ref xk), l1, l2, l3, l4, l5, l6, l7, l8, l9, l10], [.ref xk], h) Q := t_aload_n k_232_104 rfl
theorem k_232_105 : lk 232 105 = some (.iconst 1, 106, 0, 0, .int 1) := by decide +kernel
theorem x_232_105 : Tr sc d 232 (105, [l0, l1, l2, l3, l4, l5, l6, l7, l8, l9, l10], [.ref k0], h) Q = Tr sc d 232 (106, [l0, l1, l2, l3, l4, l5, l6, l7, l8, l9, l10], [.int 1, .ref k0], h) Q := t_go k_232_105 rfl
theorem k_232_106 : lk 232 106 = some (.putfield 346, 109, 10, 50, .int 0) := by decide +kernel
theorem x_232_106 : Tr sc d 232 (106, [l0, l1, l2, l3, l4, l5, l6, l7, l8, l9, l10], [.int i1, .ref k0], h) Q = (okp h k0 10 = true ∧ Tr sc d 232 (109, [l0, l1, l2, l3, l4, l5, l6, l7, l8, l9, l10], [], (sI h k0 50 i1)) Q) := t_gd k_232_106 rfl
theorem k_232_109 : lk 232 109 = some (.iconst 0, 110, 0, 0, .int 0) := by decide +kernel
theorem x_232_109 : Tr sc d 232 (109, [l0, l1, l2, l3, l4, l5, l6, l7, l8, l9, l10], [], h) Q = Tr sc d 232 (110, [l0, l1, l2, l3, l4, l5, l6, l7, l8, l9, l10], [.int 0], h) Q := t_go k_232_109 rfl
theorem k_232_110 : lk 232 110 = some (.istore 6, 112, 6, 0, .null) := by decide +kernel
theorem x_232_110 : Tr sc d 232 (110, [l0, l1, l2, l3, l4, l5, l6, l7, l8, l9, l10], [.int i0], h) Q = Tr sc d 232 (112, [l0, l1, l2, l3, l4, cl2 l5, some (.int i0), l7, l8, l9, l10], [], h) Q := t_istore k_232_110 (Nat.le_of_ble_eq_true rfl)
theorem k_232_112 : lk 232 112 = some (.iload 6, 114, 6, 0, .null) := by decide +kernel
theorem x_232_112 : Tr sc d 232 (112, [l0, l1, l2, l3, l4, l5, some (.int x), l7, l8, l9, l10], [], h) Q = Tr sc d 232 (114, [l0, l1, l2, l3, l4, l5, some (.int x), l7, l8, l9, l10], [.int x], h) Q := t_iload k_232_112 rfl
theorem k_232_114 : lk 232 114 = some (.aload_n 0, 115, 0, 0, .null) := by decide +kernel
theorem x_232_114 : Tr sc d 232 (114, [some (.ref xk), l1, l2, l3, l4, l5, l6, l7, l8, l9, l10], [.int i0], h) Q = Tr sc d 232 (115, [some (.ref xk), l1, l2, l3, l4, l5, l6, l7, l8, l9, l10], [.ref xk, .int i0], h) Q := t_aload_n k_232_114 rfl
theorem k_232_115 : lk 232 115 = some (.getfield 346, 118, 10, 50, .int 0) := by decide +kernel
theorem x_232_115 : Tr sc d 232 (115, [l0, l1, l2, l3, l4, l5, l6, l7, l8, l9, l10], [.ref k1, .int i0], h) Q = (okp h k1 10 = true ∧ Tr sc d 232 (118, [l0, l1, l2, l3, l4, l5, l6, l7, l8, l9, l10], [.int (hI h k1 50), .int i0], h) Q) := t_gd k_232_115 rfl
theorem k_232_118 : lk 232 118 = some (.if_icmp .ge 202, 121, 320, 0, .null) := by decide +kernel
theorem x_232_118 : Tr sc d 232 (118, [l0, l1, l2, l3, l4, l5, l6, l7, l8, l9, l10], [.int i1, .int i0], h) Q = if i1 ≤ i0 then Tr sc d 232 (320, [l0, l1, l2, l3, l4, l5, l6, l7, l8, l9, l10], [], h) Q else Tr sc d 232 (121, [l0, l1, l2, l3, l4, l5, l6, l7, l8, l9, l10], [], h) Q := t_if k_232_118 rfl
theorem k_232_121 : lk 232 121 = some (.aload_n 0, 122, 0, 0, .null) := by decide +kernel
theorem x_232_121 : Tr sc d 232 (121, [some (.ref xk), l1, l2, l3, l4, l5, l6, l7, l8, l9, l10], [], h) Q = Tr sc d 232 (122, [some (.ref xk), l1, l2, l3, l4, l5, l6, l7, l8, l9, l10], [.ref xk], h) Q := t_aload_n k_232_121 rfl
theorem k_232_122 : lk 232 122 = some (.getfield 107, 125, 10, 53, .null) := by decide +kernel
theorem x_232_122 : Tr sc d 232 (122, [l0, l1, l2, l3, l4, l5, l6, l7, l8, l9, l10], [.ref k0], h) Q = (okp h k0 10 = true ∧ ∃ q, hR h k0 53 = some q ∧ Tr sc d 232 (125, [l0, l1, l2, l3, l4, l5, l6, l7, l8, l9, l10], [.ref q], h) Q) := t_getr k_232_122
theorem k_232_125 : lk 232 125 = some (.iload 6, 127, 6, 0, .null) := by decide +kernel
theorem x_232_125 : Tr sc d 232 (125, [l0, l1, l2, l3, l4, l5, some (.int x), l7, l8, l9, l10], [.ref k0], h) Q = Tr sc d 232 (127, [l0, l1, l2, l3, l4, l5, some (.int x), l7, l8, l9, l10], [.int x, .ref k0], h) Q := t_iload k_232_125 rfl
theorem k_232_127 : lk 232 127 = some (.iconst 1, 128, 0, 0, .int 1) := by decide +kernel
theorem x_232_127 : Tr sc d 232 (127, [l0, l1, l2, l3, l4, l5, l6, l7, l8, l9, l10], [.int i1, .ref k0], h) Q = Tr sc d 232 (128, [l0, l1, l2, l3, l4, l5, l6, l7, l8, l9, l10], [.int 1, .int i1, .ref k0], h) Q := t_go k_232_127 rfl
theorem k_232_128 : lk 232 128 = some (.bastore, 129, 0, 0, .null) := by decide +kernel
theorem x_232_128 : Tr sc d 232 (128, [l0, l1, l2, l3, l4, l5, l6, l7, l8, l9, l10], [.int i2, .int i1, .ref k0], h) Q = ((okp h k0 13 && inb i1 (LN k0)) = true ∧ Tr sc d 232 (129, [l0, l1, l2, l3, l4, l5, l6, l7, l8, l9, l10], [], (sI h k0 i1.toNatClampNeg (vp_nar .boolean i2))) Q) := t_gd k_232_128 rfl
theorem k_232_129 : lk 232 129 = some (.iconst 0, 130, 0, 0, .int 0) := by decide +kernel
theorem x_232_129 : Tr sc d 232 (129, [l0, l1, l2, l3, l4, l5, l6, l7, l8, l9, l10], [], h) Q = Tr sc d 232 (130, [l0, l1, l2, l3, l4, l5, l6, l7, l8, l9, l10], [.int 0], h) Q := t_go k_232_129 rfl
theorem k_232_130 : lk 232 130 = some (.istore 7, 132, 7, 0, .null) := by decide +kernel
theorem x_232_130 : Tr sc d 232 (130, [l0, l1, l2, l3, l4, l5, l6, l7, l8, l9, l10], [.int i0], h) Q = Tr sc d 232 (132, [l0, l1, l2, l3, l4, l5, cl2 l6, some (.int i0), l8, l9, l10], [], h) Q := t_istore k_232_130 (Nat.le_of_ble_eq_true rfl)
theorem k_232_132 : lk 232 132 = some (.iload 7, 134, 7, 0, .null) := by decide +kernel
theorem x_232_132 : Tr sc d 232 (132, [l0, l1, l2, l3, l4, l5, l6, some (.int x), l8, l9, l10], [], h) Q = Tr sc d 232 (134, [l0, l1, l2, l3, l4, l5, l6, some (.int x), l8, l9, l10], [.int x], h) Q := t_iload k_232_132 rfl
theorem k_232_134 : lk 232 134 = some (.aload_n 0, 135, 0, 0, .null) := by decide +kernel
theorem x_232_134 : Tr sc d 232 (134, [some (.ref xk), l1, l2, l3, l4, l5, l6, l7, l8, l9, l10], [.int i0], h) Q = Tr sc d 232 (135, [some (.ref xk), l1, l2, l3, l4, l5, l6, l7, l8, l9, l10], [.ref xk, .int i0], h) Q := t_aload_n k_232_134 rfl
theorem k_232_135 : lk 232 135 = some (.getfield 41, 138, 10, 18, .null) := by decide +kernel
theorem x_232_135 : Tr sc d 232 (135, [l0, l1, l2, l3, l4, l5, l6, l7, l8, l9, l10], [.ref k1, .int i0], h) Q = (okp h k1 10 = true ∧ ∃ q, hR h k1 18 = some q ∧ Tr sc d 232 (138, [l0, l1, l2, l3, l4, l5, l6, l7, l8, l9, l10], [.ref q, .int i0], h) Q) := t_getr k_232_135
theorem k_232_138 : lk 232 138 = some (.iload_n 1, 139, 1, 0, .null) := by decide +kernel
theorem x_232_138 : Tr sc d 232 (138, [l0, some (.int x), l2, l3, l4, l5, l6, l7, l8, l9, l10], [.ref k1, .int i0], h) Q = Tr sc d 232 (139, [l0, some (.int x), l2, l3, l4, l5, l6, l7, l8, l9, l10], [.int x, .ref k1, .int i0], h) Q := t_iload_n k_232_138 rfl
theorem k_232_139 : lk 232 139 = some (.iaload, 140, 0, 0, .null) := by decide +kernel
theorem x_232_139 : Tr sc d 232 (139, [l0, l1, l2, l3, l4, l5, l6, l7, l8, l9, l10], [.int i2, .ref k1, .int i0], h) Q = (iOk sc h k1 i2 ∧ Tr sc d 232 (140, [l0, l1, l2, l3, l4, l5, l6, l7, l8, l9, l10], [.int (iRd sc h k1 i2), .int i0], h) Q) := t_iald k_232_139
theorem k_232_140 : lk 232 140 = some (.if_icmp .ge 174, 143, 314, 0, .null) := by decide +kernel
theorem x_232_140 : Tr sc d 232 (140, [l0, l1, l2, l3, l4, l5, l6, l7, l8, l9, l10], [.int i1, .int i0], h) Q = if i1 ≤ i0 then Tr sc d 232 (314, [l0, l1, l2, l3, l4, l5, l6, l7, l8, l9, l10], [], h) Q else Tr sc d 232 (143, [l0, l1, l2, l3, l4, l5, l6, l7, l8, l9, l10], [], h) Q := t_if k_232_140 rfl
theorem k_232_143 : lk 232 143 = some (.aload_n 0, 144, 0, 0, .null) := by decide +kernel
theorem x_232_143 : Tr sc d 232 (143, [some (.ref xk), l1, l2, l3, l4, l5, l6, l7, l8, l9, l10], [], h) Q = Tr sc d 232 (144, [some (.ref xk), l1, l2, l3, l4, l5, l6, l7, l8, l9, l10], [.ref xk], h) Q := t_aload_n k_232_143 rfl
theorem k_232_144 : lk 232 144 = some (.getfield 38, 147, 10, 17, .null) := by decide +kernel
theorem x_232_144 : Tr sc d 232 (144, [l0, l1, l2, l3, l4, l5, l6, l7, l8, l9, l10], [.ref k0], h) Q = (okp h k0 10 = true ∧ ∃ q, hR h k0 17 = some q ∧ Tr sc d 232 (147, [l0, l1, l2, l3, l4, l5, l6, l7, l8, l9, l10], [.ref q], h) Q) := t_getr k_232_144
theorem k_232_147 : lk 232 147 = some (.iload_n 1, 148, 1, 0, .null) := by decide +kernel
theorem x_232_147 : Tr sc d 232 (147, [l0, some (.int x), l2, l3, l4, l5, l6, l7, l8, l9, l10], [.ref k0], h) Q = Tr sc d 232 (148, [l0, some (.int x), l2, l3, l4, l5, l6, l7, l8, l9, l10], [.int x, .ref k0], h) Q := t_iload_n k_232_147 rfl
theorem k_232_148 : lk 232 148 = some (.iaload, 149, 0, 0, .null) := by decide +kernel
theorem x_232_148 : Tr sc d 232 (148, [l0, l1, l2, l3, l4, l5, l6, l7, l8, l9, l10], [.int i1, .ref k0], h) Q = (iOk sc h k0 i1 ∧ Tr sc d 232 (149, [l0, l1, l2, l3, l4, l5, l6, l7, l8, l9, l10], [.int (iRd sc h k0 i1)], h) Q) := t_iald k_232_148
theorem k_232_149 : lk 232 149 = some (.aload_n 0, 150, 0, 0, .null) := by decide +kernel
theorem x_232_149 : Tr sc d 232 (149, [some (.ref xk), l1, l2, l3, l4, l5, l6, l7, l8, l9, l10], [.int i0], h) Q = Tr sc d 232 (150, [some (.ref xk), l1, l2, l3, l4, l5, l6, l7, l8, l9, l10], [.ref xk, .int i0], h) Q := t_aload_n k_232_149 rfl
theorem k_232_150 : lk 232 150 = some (.getfield 101, 153, 10, 51, .null) := by decide +kernel
theorem x_232_150 : Tr sc d 232 (150, [l0, l1, l2, l3, l4, l5, l6, l7, l8, l9, l10], [.ref k1, .int i0], h) Q = (okp h k1 10 = true ∧ ∃ q, hR h k1 51 = some q ∧ Tr sc d 232 (153, [l0, l1, l2, l3, l4, l5, l6, l7, l8, l9, l10], [.ref q, .int i0], h) Q) := t_getr k_232_150
theorem k_232_153 : lk 232 153 = some (.iload 6, 155, 6, 0, .null) := by decide +kernel
theorem x_232_153 : Tr sc d 232 (153, [l0, l1, l2, l3, l4, l5, some (.int x), l7, l8, l9, l10], [.ref k1, .int i0], h) Q = Tr sc d 232 (155, [l0, l1, l2, l3, l4, l5, some (.int x), l7, l8, l9, l10], [.int x, .ref k1, .int i0], h) Q := t_iload k_232_153 rfl
theorem k_232_155 : lk 232 155 = some (.iaload, 156, 0, 0, .null) := by decide +kernel
theorem x_232_155 : Tr sc d 232 (155, [l0, l1, l2, l3, l4, l5, l6, l7, l8, l9, l10], [.int i2, .ref k1, .int i0], h) Q = (iOk sc h k1 i2 ∧ Tr sc d 232 (156, [l0, l1, l2, l3, l4, l5, l6, l7, l8, l9, l10], [.int (iRd sc h k1 i2), .int i0], h) Q) := t_iald k_232_155
theorem k_232_156 : lk 232 156 = some (.imul, 157, 0, 0, .null) := by decide +kernel
theorem x_232_156 : Tr sc d 232 (156, [l0, l1, l2, l3, l4, l5, l6, l7, l8, l9, l10], [.int i1, .int i0], h) Q = Tr sc d 232 (157, [l0, l1, l2, l3, l4, l5, l6, l7, l8, l9, l10], [.int (i0 * i1)], h) Q := t_go k_232_156 rfl
theorem k_232_157 : lk 232 157 = some (.iload 4, 159, 4, 0, .null) := by decide +kernel
theorem x_232_157 : Tr sc d 232 (157, [l0, l1, l2, l3, some (.int x), l5, l6, l7, l8, l9, l10], [.int i0], h) Q = Tr sc d 232 (159, [l0, l1, l2, l3, some (.int x), l5, l6, l7, l8, l9, l10], [.int x, .int i0], h) Q := t_iload k_232_157 rfl
theorem k_232_159 : lk 232 159 = some (.aload_n 0, 160, 0, 0, .null) := by decide +kernel
theorem x_232_159 : Tr sc d 232 (159, [some (.ref xk), l1, l2, l3, l4, l5, l6, l7, l8, l9, l10], [.int i1, .int i0], h) Q = Tr sc d 232 (160, [some (.ref xk), l1, l2, l3, l4, l5, l6, l7, l8, l9, l10], [.ref xk, .int i1, .int i0], h) Q := t_aload_n k_232_159 rfl
theorem k_232_160 : lk 232 160 = some (.getfield 47, 163, 10, 20, .null) := by decide +kernel
theorem x_232_160 : Tr sc d 232 (160, [l0, l1, l2, l3, l4, l5, l6, l7, l8, l9, l10], [.ref k2, .int i1, .int i0], h) Q = (okp h k2 10 = true ∧ ∃ q, hR h k2 20 = some q ∧ Tr sc d 232 (163, [l0, l1, l2, l3, l4, l5, l6, l7, l8, l9, l10], [.ref q, .int i1, .int i0], h) Q) := t_getr k_232_160
theorem k_232_163 : lk 232 163 = some (.bipush 6, 165, 0, 0, .int 6) := by decide +kernel
theorem x_232_163 : Tr sc d 232 (163, [l0, l1, l2, l3, l4, l5, l6, l7, l8, l9, l10], [.ref k2, .int i1, .int i0], h) Q = Tr sc d 232 (165, [l0, l1, l2, l3, l4, l5, l6, l7, l8, l9, l10], [.int 6, .ref k2, .int i1, .int i0], h) Q := t_go k_232_163 rfl
theorem k_232_165 : lk 232 165 = some (.iload_n 1, 166, 1, 0, .null) := by decide +kernel
theorem x_232_165 : Tr sc d 232 (165, [l0, some (.int x), l2, l3, l4, l5, l6, l7, l8, l9, l10], [.int i3, .ref k2, .int i1, .int i0], h) Q = Tr sc d 232 (166, [l0, some (.int x), l2, l3, l4, l5, l6, l7, l8, l9, l10], [.int x, .int i3, .ref k2, .int i1, .int i0], h) Q := t_iload_n k_232_165 rfl
theorem k_232_166 : lk 232 166 = some (.imul, 167, 0, 0, .null) := by decide +kernel
theorem x_232_166 : Tr sc d 232 (166, [l0, l1, l2, l3, l4, l5, l6, l7, l8, l9, l10], [.int i4, .int i3, .ref k2, .int i1, .int i0], h) Q = Tr sc d 232 (167, [l0, l1, l2, l3, l4, l5, l6, l7, l8, l9, l10], [.int (i3 * i4), .ref k2, .int i1, .int i0], h) Q := t_go k_232_166 rfl
theorem k_232_167 : lk 232 167 = some (.iload 7, 169, 7, 0, .null) := by decide +kernel
theorem x_232_167 : Tr sc d 232 (167, [l0, l1, l2, l3, l4, l5, l6, some (.int x), l8, l9, l10], [.int i3, .ref k2, .int i1, .int i0], h) Q = Tr sc d 232 (169, [l0, l1, l2, l3, l4, l5, l6, some (.int x), l8, l9, l10], [.int x, .int i3, .ref k2, .int i1, .int i0], h) Q := t_iload k_232_167 rfl
theorem k_232_169 : lk 232 169 = some (.iadd, 170, 0, 0, .null) := by decide +kernel
theorem x_232_169 : Tr sc d 232 (169, [l0, l1, l2, l3, l4, l5, l6, l7, l8, l9, l10], [.int i4, .int i3, .ref k2, .int i1, .int i0], h) Q = Tr sc d 232 (170, [l0, l1, l2, l3, l4, l5, l6, l7, l8, l9, l10], [.int (i3 + i4), .ref k2, .int i1, .int i0], h) Q := t_go k_232_169 rfl
theorem k_232_170 : lk 232 170 = some (.iaload, 171, 0, 0, .null) := by decide +kernel
theorem x_232_170 : Tr sc d 232 (170, [l0, l1, l2, l3, l4, l5, l6, l7, l8, l9, l10], [.int i3, .ref k2, .int i1, .int i0], h) Q = (iOk sc h k2 i3 ∧ Tr sc d 232 (171, [l0, l1, l2, l3, l4, l5, l6, l7, l8, l9, l10], [.int (iRd sc h k2 i3), .int i1, .int i0], h) Q) := t_iald k_232_170
theorem k_232_171 : lk 232 171 = some (.imul, 172, 0, 0, .null) := by decide +kernel
theorem x_232_171 : Tr sc d 232 (171, [l0, l1, l2, l3, l4, l5, l6, l7, l8, l9, l10], [.int i2, .int i1, .int i0], h) Q = Tr sc d 232 (172, [l0, l1, l2, l3, l4, l5, l6, l7, l8, l9, l10], [.int (i1 * i2), .int i0], h) Q := t_go k_232_171 rfl
theorem k_232_172 : lk 232 172 = some (.isub, 173, 0, 0, .null) := by decide +kernel
theorem x_232_172 : Tr sc d 232 (172, [l0, l1, l2, l3, l4, l5, l6, l7, l8, l9, l10], [.int i1, .int i0], h) Q = Tr sc d 232 (173, [l0, l1, l2, l3, l4, l5, l6, l7, l8, l9, l10], [.int (i0 - i1)], h) Q := t_go k_232_172 rfl
theorem k_232_173 : lk 232 173 = some (.istore 8, 175, 8, 0, .null) := by decide +kernel
theorem x_232_173 : Tr sc d 232 (173, [l0, l1, l2, l3, l4, l5, l6, l7, l8, l9, l10], [.int i0], h) Q = Tr sc d 232 (175, [l0, l1, l2, l3, l4, l5, l6, cl2 l7, some (.int i0), l9, l10], [], h) Q := t_istore k_232_173 (Nat.le_of_ble_eq_true rfl)
theorem k_232_175 : lk 232 175 = some (.aload_n 0, 176, 0, 0, .null) := by decide +kernel
theorem x_232_175 : Tr sc d 232 (175, [some (.ref xk), l1, l2, l3, l4, l5, l6, l7, l8, l9, l10], [], h) Q = Tr sc d 232 (176, [some (.ref xk), l1, l2, l3, l4, l5, l6, l7, l8, l9, l10], [.ref xk], h) Q := t_aload_n k_232_175 rfl
theorem k_232_176 : lk 232 176 = some (.getfield 38, 179, 10, 17, .null) := by decide +kernel
theorem x_232_176 : Tr sc d 232 (176, [l0, l1, l2, l3, l4, l5, l6, l7, l8, l9, l10], [.ref k0], h) Q = (okp h k0 10 = true ∧ ∃ q, hR h k0 17 = some q ∧ Tr sc d 232 (179, [l0, l1, l2, l3, l4, l5, l6, l7, l8, l9, l10], [.ref q], h) Q) := t_getr k_232_176
theorem k_232_179 : lk 232 179 = some (.iload_n 1, 180, 1, 0, .null) := by decide +kernel
theorem x_232_179 : Tr sc d 232 (179, [l0, some (.int x), l2, l3, l4, l5, l6, l7, l8, l9, l10], [.ref k0], h) Q = Tr sc d 232 (180, [l0, some (.int x), l2, l3, l4, l5, l6, l7, l8, l9, l10], [.int x, .ref k0], h) Q := t_iload_n k_232_179 rfl
theorem k_232_180 : lk 232 180 = some (.iaload, 181, 0, 0, .null) := by decide +kernel
theorem x_232_180 : Tr sc d 232 (180, [l0, l1, l2, l3, l4, l5, l6, l7, l8, l9, l10], [.int i1, .ref k0], h) Q = (iOk sc h k0 i1 ∧ Tr sc d 232 (181, [l0, l1, l2, l3, l4, l5, l6, l7, l8, l9, l10], [.int (iRd sc h k0 i1)], h) Q) := t_iald k_232_180
theorem k_232_181 : lk 232 181 = some (.aload_n 0, 182, 0, 0, .null) := by decide +kernel
theorem x_232_181 : Tr sc d 232 (181, [some (.ref xk), l1, l2, l3, l4, l5, l6, l7, l8, l9, l10], [.int i0], h) Q = Tr sc d 232 (182, [some (.ref xk), l1, l2, l3, l4, l5, l6, l7, l8, l9, l10], [.ref xk, .int i0], h) Q := t_aload_n k_232_181 rfl
theorem k_232_182 : lk 232 182 = some (.getfield 104, 185, 10, 52, .null) := by decide +kernel
theorem x_232_182 : Tr sc d 232 (182, [l0, l1, l2, l3, l4, l5, l6, l7, l8, l9, l10], [.ref k1, .int i0], h) Q = (okp h k1 10 = true ∧ ∃ q, hR h k1 52 = some q ∧ Tr sc d 232 (185, [l0, l1, l2, l3, l4, l5, l6, l7, l8, l9, l10], [.ref q, .int i0], h) Q) := t_getr k_232_182
theorem k_232_185 : lk 232 185 = some (.iload 6, 187, 6, 0, .null) := by decide +kernel
theorem x_232_185 : Tr sc d 232 (185, [l0, l1, l2, l3, l4, l5, some (.int x), l7, l8, l9, l10], [.ref k1, .int i0], h) Q = Tr sc d 232 (187, [l0, l1, l2, l3, l4, l5, some (.int x), l7, l8, l9, l10], [.int x, .ref k1, .int i0], h) Q := t_iload k_232_185 rfl
theorem k_232_187 : lk 232 187 = some (.iaload, 188, 0, 0, .null) := by decide +kernel
theorem x_232_187 : Tr sc d 232 (187, [l0, l1, l2, l3, l4, l5, l6, l7, l8, l9, l10], [.int i2, .ref k1, .int i0], h) Q = (iOk sc h k1 i2 ∧ Tr sc d 232 (188, [l0, l1, l2, l3, l4, l5, l6, l7, l8, l9, l10], [.int (iRd sc h k1 i2), .int i0], h) Q) := t_iald k_232_187
theorem k_232_188 : lk 232 188 = some (.imul, 189, 0, 0, .null) := by decide +kernel
theorem x_232_188 : Tr sc d 232 (188, [l0, l1, l2, l3, l4, l5, l6, l7, l8, l9, l10], [.int i1, .int i0], h) Q = Tr sc d 232 (189, [l0, l1, l2, l3, l4, l5, l6, l7, l8, l9, l10], [.int (i0 * i1)], h) Q := t_go k_232_188 rfl
theorem k_232_189 : lk 232 189 = some (.iload 4, 191, 4, 0, .null) := by decide +kernel
theorem x_232_189 : Tr sc d 232 (189, [l0, l1, l2, l3, some (.int x), l5, l6, l7, l8, l9, l10], [.int i0], h) Q = Tr sc d 232 (191, [l0, l1, l2, l3, some (.int x), l5, l6, l7, l8, l9, l10], [.int x, .int i0], h) Q := t_iload k_232_189 rfl
theorem k_232_191 : lk 232 191 = some (.aload_n 0, 192, 0, 0, .null) := by decide +kernel
theorem x_232_191 : Tr sc d 232 (191, [some (.ref xk), l1, l2, l3, l4, l5, l6, l7, l8, l9, l10], [.int i1, .int i0], h) Q = Tr sc d 232 (192, [some (.ref xk), l1, l2, l3, l4, l5, l6, l7, l8, l9, l10], [.ref xk, .int i1, .int i0], h) Q := t_aload_n k_232_191 rfl
theorem k_232_192 : lk 232 192 = some (.getfield 50, 195, 10, 21, .null) := by decide +kernel
theorem x_232_192 : Tr sc d 232 (192, [l0, l1, l2, l3, l4, l5, l6, l7, l8, l9, l10], [.ref k2, .int i1, .int i0], h) Q = (okp h k2 10 = true ∧ ∃ q, hR h k2 21 = some q ∧ Tr sc d 232 (195, [l0, l1, l2, l3, l4, l5, l6, l7, l8, l9, l10], [.ref q, .int i1, .int i0], h) Q) := t_getr k_232_192
theorem k_232_195 : lk 232 195 = some (.bipush 6, 197, 0, 0, .int 6) := by decide +kernel
theorem x_232_195 : Tr sc d 232 (195, [l0, l1, l2, l3, l4, l5, l6, l7, l8, l9, l10], [.ref k2, .int i1, .int i0], h) Q = Tr sc d 232 (197, [l0, l1, l2, l3, l4, l5, l6, l7, l8, l9, l10], [.int 6, .ref k2, .int i1, .int i0], h) Q := t_go k_232_195 rfl
theorem k_232_197 : lk 232 197 = some (.iload_n 1, 198, 1, 0, .null) := by decide +kernel
theorem x_232_197 : Tr sc d 232 (197, [l0, some (.int x), l2, l3, l4, l5, l6, l7, l8, l9, l10], [.int i3, .ref k2, .int i1, .int i0], h) Q = Tr sc d 232 (198, [l0, some (.int x), l2, l3, l4, l5, l6, l7, l8, l9, l10], [.int x, .int i3, .ref k2, .int i1, .int i0], h) Q := t_iload_n k_232_197 rfl
theorem k_232_198 : lk 232 198 = some (.imul, 199, 0, 0, .null) := by decide +kernel
theorem x_232_198 : Tr sc d 232 (198, [l0, l1, l2, l3, l4, l5, l6, l7, l8, l9, l10], [.int i4, .int i3, .ref k2, .int i1, .int i0], h) Q = Tr sc d 232 (199, [l0, l1, l2, l3, l4, l5, l6, l7, l8, l9, l10], [.int (i3 * i4), .ref k2, .int i1, .int i0], h) Q := t_go k_232_198 rfl
theorem k_232_199 : lk 232 199 = some (.iload 7, 201, 7, 0, .null) := by decide +kernel
theorem x_232_199 : Tr sc d 232 (199, [l0, l1, l2, l3, l4, l5, l6, some (.int x), l8, l9, l10], [.int i3, .ref k2, .int i1, .int i0], h) Q = Tr sc d 232 (201, [l0, l1, l2, l3, l4, l5, l6, some (.int x), l8, l9, l10], [.int x, .int i3, .ref k2, .int i1, .int i0], h) Q := t_iload k_232_199 rfl
theorem k_232_201 : lk 232 201 = some (.iadd, 202, 0, 0, .null) := by decide +kernel
theorem x_232_201 : Tr sc d 232 (201, [l0, l1, l2, l3, l4, l5, l6, l7, l8, l9, l10], [.int i4, .int i3, .ref k2, .int i1, .int i0], h) Q = Tr sc d 232 (202, [l0, l1, l2, l3, l4, l5, l6, l7, l8, l9, l10], [.int (i3 + i4), .ref k2, .int i1, .int i0], h) Q := t_go k_232_201 rfl
theorem k_232_202 : lk 232 202 = some (.iaload, 203, 0, 0, .null) := by decide +kernel
theorem x_232_202 : Tr sc d 232 (202, [l0, l1, l2, l3, l4, l5, l6, l7, l8, l9, l10], [.int i3, .ref k2, .int i1, .int i0], h) Q = (iOk sc h k2 i3 ∧ Tr sc d 232 (203, [l0, l1, l2, l3, l4, l5, l6, l7, l8, l9, l10], [.int (iRd sc h k2 i3), .int i1, .int i0], h) Q) := t_iald k_232_202
theorem k_232_203 : lk 232 203 = some (.imul, 204, 0, 0, .null) := by decide +kernel
theorem x_232_203 : Tr sc d 232 (203, [l0, l1, l2, l3, l4, l5, l6, l7, l8, l9, l10], [.int i2, .int i1, .int i0], h) Q = Tr sc d 232 (204, [l0, l1, l2, l3, l4, l5, l6, l7, l8, l9, l10], [.int (i1 * i2), .int i0], h) Q := t_go k_232_203 rfl
theorem k_232_204 : lk 232 204 = some (.isub, 205, 0, 0, .null) := by decide +kernel
theorem x_232_204 : Tr sc d 232 (204, [l0, l1, l2, l3, l4, l5, l6, l7, l8, l9, l10], [.int i1, .int i0], h) Q = Tr sc d 232 (205, [l0, l1, l2, l3, l4, l5, l6, l7, l8, l9, l10], [.int (i0 - i1)], h) Q := t_go k_232_204 rfl
theorem k_232_205 : lk 232 205 = some (.istore 9, 207, 9, 0, .null) := by decide +kernel
theorem x_232_205 : Tr sc d 232 (205, [l0, l1, l2, l3, l4, l5, l6, l7, l8, l9, l10], [.int i0], h) Q = Tr sc d 232 (207, [l0, l1, l2, l3, l4, l5, l6, l7, cl2 l8, some (.int i0), l10], [], h) Q := t_istore k_232_205 (Nat.le_of_ble_eq_true rfl)
theorem k_232_207 : lk 232 207 = some (.aload_n 0, 208, 0, 0, .null) := by decide +kernel
theorem x_232_207 : Tr sc d 232 (207, [some (.ref xk), l1, l2, l3, l4, l5, l6, l7, l8, l9, l10], [], h) Q = Tr sc d 232 (208, [some (.ref xk), l1, l2, l3, l4, l5, l6, l7, l8, l9, l10], [.ref xk], h) Q := t_aload_n k_232_207 rfl
theorem k_232_208 : lk 232 208 = some (.iload_n 1, 209, 1, 0, .null) := by decide +kernel
theorem x_232_208 : Tr sc d 232 (208, [l0, some (.int x), l2, l3, l4, l5, l6, l7, l8, l9, l10], [.ref k0], h) Q = Tr sc d 232 (209, [l0, some (.int x), l2, l3, l4, l5, l6, l7, l8, l9, l10], [.int x, .ref k0], h) Q := t_iload_n k_232_208 rfl
theorem k_232_209 : lk 232 209 = some (.iload 8, 211, 8, 0, .null) := by decide +kernel
theorem x_232_209 : Tr sc d 232 (209, [l0, l1, l2, l3, l4, l5, l6, l7, some (.int x), l9, l10], [.int i1, .ref k0], h) Q = Tr sc d 232 (211, [l0, l1, l2, l3, l4, l5, l6, l7, some (.int x), l9, l10], [.int x, .int i1, .ref k0], h) Q := t_iload k_232_209 rfl
theorem k_232_211 : lk 232 211 = some (.iload 9, 213, 9, 0, .null) := by decide +kernel
theorem x_232_211 : Tr sc d 232 (211, [l0, l1, l2, l3, l4, l5, l6, l7, l8, some (.int x), l10], [.int i2, .int i1, .ref k0], h) Q = Tr sc d 232 (213, [l0, l1, l2, l3, l4, l5, l6, l7, l8, some (.int x), l10], [.int x, .int i2, .int i1, .ref k0], h) Q := t_iload k_232_211 rfl
theorem k_232_213 : lk 232 213 = some (.iload 4, 215, 4, 0, .null) := by decide +kernel
theorem x_232_213 : Tr sc d 232 (213, [l0, l1, l2, l3, some (.int x), l5, l6, l7, l8, l9, l10], [.int i3, .int i2, .int i1, .ref k0], h) Q = Tr sc d 232 (215, [l0, l1, l2, l3, some (.int x), l5, l6, l7, l8, l9, l10], [.int x, .int i3, .int i2, .int i1, .ref k0], h) Q := t_iload k_232_213 rfl
theorem k_232_215 : lk 232 215 = some (.invokevirtual 352, 218, 230, 4, .null) := by decide +kernel
theorem x_232_215 : Tr sc (d + 1) 232 (215, [l0, l1, l2, l3, l4, l5, l6, l7, l8, l9, l10], [.int i4, .int i3, .int i2, .int i1, .ref k0], h) Q = (okp h k0 10 = true ∧ Tr sc d 230 (ent0 230 [.ref k0, .int i1, .int i2, .int i3, .int i4] h) (fun z => Tr sc (d + 1) 232 (218, [l0, l1, l2, l3, l4, l5, l6, l7, l8, l9, l10], z.1.toList ++ [], z.2) Q)) := t_cv (as := [.int i1, .int i2, .int i3, .int i4]) (r := []) k_232_215 rfl rfl (Nat.le_of_ble_eq_true rfl) (Nat.le_of_ble_eq_true rfl) (Nat.le_of_ble_eq_true rfl)
theorem k_232_218 : lk 232 218 = some (.ifCond .eq 14, 221, 232, 0, .null) := by decide +kernel
theorem x_232_218 : Tr sc d 232 (218, [l0, l1, l2, l3, l4, l5, l6, l7, l8, l9, l10], [.int i0], h) Q = if i0 = 0 then Tr sc d 232 (232, [l0, l1, l2, l3, l4, l5, l6, l7, l8, l9, l10], [], h) Q else Tr sc d 232 (221, [l0, l1, l2, l3, l4, l5, l6, l7, l8, l9, l10], [], h) Q := t_if k_232_218 rfl
theorem k_232_221 : lk 232 221 = some (.aload_n 0, 222, 0, 0, .null) := by decide +kernel
theorem x_232_221 : Tr sc d 232 (221, [some (.ref xk), l1, l2, l3, l4, l5, l6, l7, l8, l9, l10], [], h) Q = Tr sc d 232 (222, [some (.ref xk), l1, l2, l3, l4, l5, l6, l7, l8, l9, l10], [.ref xk], h) Q := t_aload_n k_232_221 rfl
theorem k_232_222 : lk 232 222 = some (.iload 8, 224, 8, 0, .null) := by decide +kernel
theorem x_232_222 : Tr sc d 232 (222, [l0, l1, l2, l3, l4, l5, l6, l7, some (.int x), l9, l10], [.ref k0], h) Q = Tr sc d 232 (224, [l0, l1, l2, l3, l4, l5, l6, l7, some (.int x), l9, l10], [.int x, .ref k0], h) Q := t_iload k_232_222 rfl
theorem k_232_224 : lk 232 224 = some (.iload 9, 226, 9, 0, .null) := by decide +kernel
theorem x_232_224 : Tr sc d 232 (224, [l0, l1, l2, l3, l4, l5, l6, l7, l8, some (.int x), l10], [.int i1, .ref k0], h) Q = Tr sc d 232 (226, [l0, l1, l2, l3, l4, l5, l6, l7, l8, some (.int x), l10], [.int x, .int i1, .ref k0], h) Q := t_iload k_232_224 rfl
theorem k_232_226 : lk 232 226 = some (.invokevirtual 356, 229, 231, 2, .null) := by decide +kernel
theorem x_232_226 : Tr sc (d + 1) 232 (226, [l0, l1, l2, l3, l4, l5, l6, l7, l8, l9, l10], [.int i2, .int i1, .ref k0], h) Q = (okp h k0 10 = true ∧ Tr sc d 231 (ent0 231 [.ref k0, .int i1, .int i2] h) (fun z => Tr sc (d + 1) 232 (229, [l0, l1, l2, l3, l4, l5, l6, l7, l8, l9, l10], z.1.toList ++ [], z.2) Q)) := t_cv (as := [.int i1, .int i2]) (r := []) k_232_226 rfl rfl (Nat.le_of_ble_eq_true rfl) (Nat.le_of_ble_eq_true rfl) (Nat.le_of_ble_eq_true rfl)
theorem k_232_229 : lk 232 229 = some (.goto 4, 232, 233, 0, .null) := by decide +kernel
theorem x_232_229 : Tr sc d 232 (229, [l0, l1, l2, l3, l4, l5, l6, l7, l8, l9, l10], [.int i0], h) Q = Tr sc d 232 (233, [l0, l1, l2, l3, l4, l5, l6, l7, l8, l9, l10], [.int i0], h) Q := t_go k_232_229 rfl
theorem k_232_232 : lk 232 232 = some (.iconst (-1), 233, 0, 0, .int (-1)) := by decide +kernel
theorem x_232_232 : Tr sc d 232 (232, [l0, l1, l2, l3, l4, l5, l6, l7, l8, l9, l10], [], h) Q = Tr sc d 232 (233, [l0, l1, l2, l3, l4, l5, l6, l7, l8, l9, l10], [.int (-1)], h) Q := t_go k_232_232 rfl
theorem k_232_233 : lk 232 233 = some (.istore 10, 235, 10, 0, .null) := by decide +kernel
theorem x_232_233 : Tr sc d 232 (233, [l0, l1, l2, l3, l4, l5, l6, l7, l8, l9, l10], [.int i0], h) Q = Tr sc d 232 (235, [l0, l1, l2, l3, l4, l5, l6, l7, l8, cl2 l9, some (.int i0)], [], h) Q := t_istore k_232_233 (Nat.le_of_ble_eq_true rfl)
theorem k_232_235 : lk 232 235 = some (.iload 10, 237, 10, 0, .null) := by decide +kernel
theorem x_232_235 : Tr sc d 232 (235, [l0, l1, l2, l3, l4, l5, l6, l7, l8, l9, some (.int x)], [], h) Q = Tr sc d 232 (237, [l0, l1, l2, l3, l4, l5, l6, l7, l8, l9, some (.int x)], [.int x], h) Q := t_iload k_232_235 rfl
theorem k_232_237 : lk 232 237 = some (.bipush (-9), 239, 0, 0, .int (-9)) := by decide +kernel
theorem x_232_237 : Tr sc d 232 (237, [l0, l1, l2, l3, l4, l5, l6, l7, l8, l9, l10], [.int i0], h) Q = Tr sc d 232 (239, [l0, l1, l2, l3, l4, l5, l6, l7, l8, l9, l10], [.int (-9), .int i0], h) Q := t_go k_232_237 rfl
theorem k_232_239 : lk 232 239 = some (.if_icmp .ne 54, 242, 293, 0, .null) := by decide +kernel
theorem x_232_239 : Tr sc d 232 (239, [l0, l1, l2, l3, l4, l5, l6, l7, l8, l9, l10], [.int i1, .int i0], h) Q = if i0 = i1 then Tr sc d 232 (242, [l0, l1, l2, l3, l4, l5, l6, l7, l8, l9, l10], [], h) Q else Tr sc d 232 (293, [l0, l1, l2, l3, l4, l5, l6, l7, l8, l9, l10], [], h) Q := t_if k_232_239 rfl
theorem k_232_242 : lk 232 242 = some (.aload_n 0, 243, 0, 0, .null) := by decide +kernel
theorem x_232_242 : Tr sc d 232 (242, [some (.ref xk), l1, l2, l3, l4, l5, l6, l7, l8, l9, l10], [], h) Q = Tr sc d 232 (243, [some (.ref xk), l1, l2, l3, l4, l5, l6, l7, l8, l9, l10], [.ref xk], h) Q := t_aload_n k_232_242 rfl
theorem k_232_243 : lk 232 243 = some (.getfield 346, 246, 10, 50, .int 0) := by decide +kernel
theorem x_232_243 : Tr sc d 232 (243, [l0, l1, l2, l3, l4, l5, l6, l7, l8, l9, l10], [.ref k0], h) Q = (okp h k0 10 = true ∧ Tr sc d 232 (246, [l0, l1, l2, l3, l4, l5, l6, l7, l8, l9, l10], [.int (hI h k0 50)], h) Q) := t_gd k_232_243 rfl
theorem k_232_246 : lk 232 246 = some (.sipush 2000, 249, 0, 0, .int 2000) := by decide +kernel
theorem x_232_246 : Tr sc d 232 (246, [l0, l1, l2, l3, l4, l5, l6, l7, l8, l9, l10], [.int i0], h) Q = Tr sc d 232 (249, [l0, l1, l2, l3, l4, l5, l6, l7, l8, l9, l10], [.int 2000, .int i0], h) Q := t_go k_232_246 rfl
theorem k_232_249 : lk 232 249 = some (.if_icmp .ne 6, 252, 255, 0, .null) := by decide +kernel
theorem x_232_249 : Tr sc d 232 (249, [l0, l1, l2, l3, l4, l5, l6, l7, l8, l9, l10], [.int i1, .int i0], h) Q = if i0 = i1 then Tr sc d 232 (252, [l0, l1, l2, l3, l4, l5, l6, l7, l8, l9, l10], [], h) Q else Tr sc d 232 (255, [l0, l1, l2, l3, l4, l5, l6, l7, l8, l9, l10], [], h) Q := t_if k_232_249 rfl
theorem k_232_252 : lk 232 252 = some (.bipush (-6), 254, 0, 0, .int (-6)) := by decide +kernel
theorem x_232_252 : Tr sc d 232 (252, [l0, l1, l2, l3, l4, l5, l6, l7, l8, l9, l10], [], h) Q = Tr sc d 232 (254, [l0, l1, l2, l3, l4, l5, l6, l7, l8, l9, l10], [.int (-6)], h) Q := t_go k_232_252 rfl
theorem k_232_254 : lk 232 254 = some (.ireturn, 255, 0, 0, .null) := by decide +kernel
theorem x_232_254 : Tr sc d 232 (254, [l0, l1, l2, l3, l4, l5, l6, l7, l8, l9, l10], [.int i0], h) Q = Q (some (.int i0), h) := t_ret k_232_254 (by rw [r_232]; rfl)
theorem k_232_255 : lk 232 255 = some (.aload_n 0, 256, 0, 0, .null) := by decide +kernel
theorem x_232_255 : Tr sc d 232 (255, [some (.ref xk), l1, l2, l3, l4, l5, l6, l7, l8, l9, l10], [], h) Q = Tr sc d 232 (256, [some (.ref xk), l1, l2, l3, l4, l5, l6, l7, l8, l9, l10], [.ref xk], h) Q := t_aload_n k_232_255 rfl
theorem k_232_256 : lk 232 256 = some (.getfield 346, 259, 10, 50, .int 0) := by decide +kernel
theorem x_232_256 : Tr sc d 232 (256, [l0, l1, l2, l3, l4, l5, l6, l7, l8, l9, l10], [.ref k0], h) Q = (okp h k0 10 = true ∧ Tr sc d 232 (259, [l0, l1, l2, l3, l4, l5, l6, l7, l8, l9, l10], [.int (hI h k0 50)], h) Q) := t_gd k_232_256 rfl
theorem k_232_259 : lk 232 259 = some (.istore 10, 261, 10, 0, .null) := by decide +kernel
theorem x_232_259 : Tr sc d 232 (259, [l0, l1, l2, l3, l4, l5, l6, l7, l8, l9, l10], [.int i0], h) Q = Tr sc d 232 (261, [l0, l1, l2, l3, l4, l5, l6, l7, l8, cl2 l9, some (.int i0)], [], h) Q := t_istore k_232_259 (Nat.le_of_ble_eq_true rfl)
theorem k_232_261 : lk 232 261 = some (.aload_n 0, 262, 0, 0, .null) := by decide +kernel
theorem x_232_261 : Tr sc d 232 (261, [some (.ref xk), l1, l2, l3, l4, l5, l6, l7, l8, l9, l10], [], h) Q = Tr sc d 232 (262, [some (.ref xk), l1, l2, l3, l4, l5, l6, l7, l8, l9, l10], [.ref xk], h) Q := t_aload_n k_232_261 rfl
theorem k_232_262 : lk 232 262 = some (.getfield 101, 265, 10, 51, .null) := by decide +kernel
theorem x_232_262 : Tr sc d 232 (262, [l0, l1, l2, l3, l4, l5, l6, l7, l8, l9, l10], [.ref k0], h) Q = (okp h k0 10 = true ∧ ∃ q, hR h k0 51 = some q ∧ Tr sc d 232 (265, [l0, l1, l2, l3, l4, l5, l6, l7, l8, l9, l10], [.ref q], h) Q) := t_getr k_232_262
theorem k_232_265 : lk 232 265 = some (.aload_n 0, 266, 0, 0, .null) := by decide +kernel
theorem x_232_265 : Tr sc d 232 (265, [some (.ref xk), l1, l2, l3, l4, l5, l6, l7, l8, l9, l10], [.ref k0], h) Q = Tr sc d 232 (266, [some (.ref xk), l1, l2, l3, l4, l5, l6, l7, l8, l9, l10], [.ref xk, .ref k0], h) Q := t_aload_n k_232_265 rfl
theorem k_232_266 : lk 232 266 = some (.getfield 346, 269, 10, 50, .int 0) := by decide +kernel
theorem x_232_266 : Tr sc d 232 (266, [l0, l1, l2, l3, l4, l5, l6, l7, l8, l9, l10], [.ref k1, .ref k0], h) Q = (okp h k1 10 = true ∧ Tr sc d 232 (269, [l0, l1, l2, l3, l4, l5, l6, l7, l8, l9, l10], [.int (hI h k1 50), .ref k0], h) Q) := t_gd k_232_266 rfl
theorem k_232_269 : lk 232 269 = some (.iload 8, 271, 8, 0, .null) := by decide +kernel
theorem x_232_269 : Tr sc d 232 (269, [l0, l1, l2, l3, l4, l5, l6, l7, some (.int x), l9, l10], [.int i1, .ref k0], h) Q = Tr sc d 232 (271, [l0, l1, l2, l3, l4, l5, l6, l7, some (.int x), l9, l10], [.int x, .int i1, .ref k0], h) Q := t_iload k_232_269 rfl
theorem k_232_271 : lk 232 271 = some (.iastore, 272, 0, 0, .null) := by decide +kernel
theorem x_232_271 : Tr sc d 232 (271, [l0, l1, l2, l3, l4, l5, l6, l7, l8, l9, l10], [.int i2, .int i1, .ref k0], h) Q = ((okp h k0 11 && inb i1 (LN k0)) = true ∧ Tr sc d 232 (272, [l0, l1, l2, l3, l4, l5, l6, l7, l8, l9, l10], [], (sI h k0 i1.toNatClampNeg i2)) Q) := t_gd k_232_271 rfl
theorem k_232_272 : lk 232 272 = some (.aload_n 0, 273, 0, 0, .null) := by decide +kernel
theorem x_232_272 : Tr sc d 232 (272, [some (.ref xk), l1, l2, l3, l4, l5, l6, l7, l8, l9, l10], [], h) Q = Tr sc d 232 (273, [some (.ref xk), l1, l2, l3, l4, l5, l6, l7, l8, l9, l10], [.ref xk], h) Q := t_aload_n k_232_272 rfl
theorem k_232_273 : lk 232 273 = some (.getfield 104, 276, 10, 52, .null) := by decide +kernel
theorem x_232_273 : Tr sc d 232 (273, [l0, l1, l2, l3, l4, l5, l6, l7, l8, l9, l10], [.ref k0], h) Q = (okp h k0 10 = true ∧ ∃ q, hR h k0 52 = some q ∧ Tr sc d 232 (276, [l0, l1, l2, l3, l4, l5, l6, l7, l8, l9, l10], [.ref q], h) Q) := t_getr k_232_273
theorem k_232_276 : lk 232 276 = some (.aload_n 0, 277, 0, 0, .null) := by decide +kernel
theorem x_232_276 : Tr sc d 232 (276, [some (.ref xk), l1, l2, l3, l4, l5, l6, l7, l8, l9, l10], [.ref k0], h) Q = Tr sc d 232 (277, [some (.ref xk), l1, l2, l3, l4, l5, l6, l7, l8, l9, l10], [.ref xk, .ref k0], h) Q := t_aload_n k_232_276 rfl
theorem k_232_277 : lk 232 277 = some (.getfield 346, 280, 10, 50, .int 0) := by decide +kernel
theorem x_232_277 : Tr sc d 232 (277, [l0, l1, l2, l3, l4, l5, l6, l7, l8, l9, l10], [.ref k1, .ref k0], h) Q = (okp h k1 10 = true ∧ Tr sc d 232 (280, [l0, l1, l2, l3, l4, l5, l6, l7, l8, l9, l10], [.int (hI h k1 50), .ref k0], h) Q) := t_gd k_232_277 rfl
theorem k_232_280 : lk 232 280 = some (.iload 9, 282, 9, 0, .null) := by decide +kernel
theorem x_232_280 : Tr sc d 232 (280, [l0, l1, l2, l3, l4, l5, l6, l7, l8, some (.int x), l10], [.int i1, .ref k0], h) Q = Tr sc d 232 (282, [l0, l1, l2, l3, l4, l5, l6, l7, l8, some (.int x), l10], [.int x, .int i1, .ref k0], h) Q := t_iload k_232_280 rfl
theorem k_232_282 : lk 232 282 = some (.iastore, 283, 0, 0, .null) := by decide +kernel
theorem x_232_282 : Tr sc d 232 (282, [l0, l1, l2, l3, l4, l5, l6, l7, l8, l9, l10], [.int i2, .int i1, .ref k0], h) Q = ((okp h k0 11 && inb i1 (LN k0)) = true ∧ Tr sc d 232 (283, [l0, l1, l2, l3, l4, l5, l6, l7, l8, l9, l10], [], (sI h k0 i1.toNatClampNeg i2)) Q) := t_gd k_232_282 rfl
theorem k_232_283 : lk 232 283 = some (.aload_n 0, 284, 0, 0, .null) := by decide +kernel
theorem x_232_283 : Tr sc d 232 (283, [some (.ref xk), l1, l2, l3, l4, l5, l6, l7, l8, l9, l10], [], h) Q = Tr sc d 232 (284, [some (.ref xk), l1, l2, l3, l4, l5, l6, l7, l8, l9, l10], [.ref xk], h) Q := t_aload_n k_232_283 rfl
theorem k_232_284 : lk 232 284 = some (.dup, 285, 0, 0, .null) := by decide +kernel
theorem x_232_284 : Tr sc d 232 (284, [l0, l1, l2, l3, l4, l5, l6, l7, l8, l9, l10], [.ref k0], h) Q = Tr sc d 232 (285, [l0, l1, l2, l3, l4, l5, l6, l7, l8, l9, l10], [.ref k0, .ref k0], h) Q := t_go k_232_284 rfl
theorem k_232_285 : lk 232 285 = some (.getfield 346, 288, 10, 50, .int 0) := by decide +kernel
theorem x_232_285 : Tr sc d 232 (285, [l0, l1, l2, l3, l4, l5, l6, l7, l8, l9, l10], [.ref k1, .ref k0], h) Q = (okp h k1 10 = true ∧ Tr sc d 232 (288, [l0, l1, l2, l3, l4, l5, l6, l7, l8, l9, l10], [.int (hI h k1 50), .ref k0], h) Q) := t_gd k_232_285 rfl
theorem k_232_288 : lk 232 288 = some (.iconst 1, 289, 0, 0, .int 1) := by decide +kernel
theorem x_232_288 : Tr sc d 232 (288, [l0, l1, l2, l3, l4, l5, l6, l7, l8, l9, l10], [.int i1, .ref k0], h) Q = Tr sc d 232 (289, [l0, l1, l2, l3, l4, l5, l6, l7, l8, l9, l10], [.int 1, .int i1, .ref k0], h) Q := t_go k_232_288 rfl
theorem k_232_289 : lk 232 289 = some (.iadd, 290, 0, 0, .null) := by decide +kernel
theorem x_232_289 : Tr sc d 232 (289, [l0, l1, l2, l3, l4, l5, l6, l7, l8, l9, l10], [.int i2, .int i1, .ref k0], h) Q = Tr sc d 232 (290, [l0, l1, l2, l3, l4, l5, l6, l7, l8, l9, l10], [.int (i1 + i2), .ref k0], h) Q := t_go k_232_289 rfl
theorem k_232_290 : lk 232 290 = some (.putfield 346, 293, 10, 50, .int 0) := by decide +kernel
theorem x_232_290 : Tr sc d 232 (290, [l0, l1, l2, l3, l4, l5, l6, l7, l8, l9, l10], [.int i1, .ref k0], h) Q = (okp h k0 10 = true ∧ Tr sc d 232 (293, [l0, l1, l2, l3, l4, l5, l6, l7, l8, l9, l10], [], (sI h k0 50 i1)) Q) := t_gd k_232_290 rfl
theorem k_232_293 : lk 232 293 = some (.aload_n 0, 294, 0, 0, .null) := by decide +kernel
theorem x_232_293 : Tr sc d 232 (293, [some (.ref xk), l1, l2, l3, l4, l5, l6, l7, l8, l9, l10], [], h) Q = Tr sc d 232 (294, [some (.ref xk), l1, l2, l3, l4, l5, l6, l7, l8, l9, l10], [.ref xk], h) Q := t_aload_n k_232_293 rfl
theorem k_232_294 : lk 232 294 = some (.getfield 110, 297, 10, 54, .null) := by decide +kernel
theorem x_232_294 : Tr sc d 232 (294, [l0, l1, l2, l3, l4, l5, l6, l7, l8, l9, l10], [.ref k0], h) Q = (okp h k0 10 = true ∧ ∃ q, hR h k0 54 = some q ∧ Tr sc d 232 (297, [l0, l1, l2, l3, l4, l5, l6, l7, l8, l9, l10], [.ref q], h) Q) := t_getr k_232_294
theorem k_232_297 : lk 232 297 = some (.bipush 6, 299, 0, 0, .int 6) := by decide +kernel
theorem x_232_297 : Tr sc d 232 (297, [l0, l1, l2, l3, l4, l5, l6, l7, l8, l9, l10], [.ref k0], h) Q = Tr sc d 232 (299, [l0, l1, l2, l3, l4, l5, l6, l7, l8, l9, l10], [.int 6, .ref k0], h) Q := t_go k_232_297 rfl
theorem k_232_299 : lk 232 299 = some (.iload 6, 301, 6, 0, .null) := by decide +kernel
theorem x_232_299 : Tr sc d 232 (299, [l0, l1, l2, l3, l4, l5, some (.int x), l7, l8, l9, l10], [.int i1, .ref k0], h) Q = Tr sc d 232 (301, [l0, l1, l2, l3, l4, l5, some (.int x), l7, l8, l9, l10], [.int x, .int i1, .ref k0], h) Q := t_iload k_232_299 rfl
theorem k_232_301 : lk 232 301 = some (.imul, 302, 0, 0, .null) := by decide +kernel
theorem x_232_301 : Tr sc d 232 (301, [l0, l1, l2, l3, l4, l5, l6, l7, l8, l9, l10], [.int i2, .int i1, .ref k0], h) Q = Tr sc d 232 (302, [l0, l1, l2, l3, l4, l5, l6, l7, l8, l9, l10], [.int (i1 * i2), .ref k0], h) Q := t_go k_232_301 rfl
theorem k_232_302 : lk 232 302 = some (.iload 7, 304, 7, 0, .null) := by decide +kernel
theorem x_232_302 : Tr sc d 232 (302, [l0, l1, l2, l3, l4, l5, l6, some (.int x), l8, l9, l10], [.int i1, .ref k0], h) Q = Tr sc d 232 (304, [l0, l1, l2, l3, l4, l5, l6, some (.int x), l8, l9, l10], [.int x, .int i1, .ref k0], h) Q := t_iload k_232_302 rfl
theorem k_232_304 : lk 232 304 = some (.iadd, 305, 0, 0, .null) := by decide +kernel
theorem x_232_304 : Tr sc d 232 (304, [l0, l1, l2, l3, l4, l5, l6, l7, l8, l9, l10], [.int i2, .int i1, .ref k0], h) Q = Tr sc d 232 (305, [l0, l1, l2, l3, l4, l5, l6, l7, l8, l9, l10], [.int (i1 + i2), .ref k0], h) Q := t_go k_232_304 rfl
theorem k_232_305 : lk 232 305 = some (.iload 10, 307, 10, 0, .null) := by decide +kernel
theorem x_232_305 : Tr sc d 232 (305, [l0, l1, l2, l3, l4, l5, l6, l7, l8, l9, some (.int x)], [.int i1, .ref k0], h) Q = Tr sc d 232 (307, [l0, l1, l2, l3, l4, l5, l6, l7, l8, l9, some (.int x)], [.int x, .int i1, .ref k0], h) Q := t_iload k_232_305 rfl
theorem k_232_307 : lk 232 307 = some (.iastore, 308, 0, 0, .null) := by decide +kernel
theorem x_232_307 : Tr sc d 232 (307, [l0, l1, l2, l3, l4, l5, l6, l7, l8, l9, l10], [.int i2, .int i1, .ref k0], h) Q = ((okp h k0 11 && inb i1 (LN k0)) = true ∧ Tr sc d 232 (308, [l0, l1, l2, l3, l4, l5, l6, l7, l8, l9, l10], [], (sI h k0 i1.toNatClampNeg i2)) Q) := t_gd k_232_307 rfl
theorem k_232_308 : lk 232 308 = some (.iinc 7 1, 311, 7, 0, .int 1) := by decide +kernel
theorem x_232_308 : Tr sc d 232 (308, [l0, l1, l2, l3, l4, l5, l6, some (.int x), l8, l9, l10], [], h) Q = Tr sc d 232 (311, [l0, l1, l2, l3, l4, l5, cl2 l6, some (.int (x + 1)), l8, l9, l10], [], h) Q := t_inc k_232_308 rfl (Nat.le_of_ble_eq_true rfl)
theorem k_232_311 : lk 232 311 = some (.goto (-179), 314, 132, 0, .null) := by decide +kernel
theorem x_232_311 : Tr sc d 232 (311, [l0, l1, l2, l3, l4, l5, l6, l7, l8, l9, l10], [], h) Q = Tr sc d 232 (132, [l0, l1, l2, l3, l4, l5, l6, l7, l8, l9, l10], [], h) Q := t_go k_232_311 rfl
theorem k_232_314 : lk 232 314 = some (.iinc 6 1, 317, 6, 0, .int 1) := by decide +kernel
theorem x_232_314 : Tr sc d 232 (314, [l0, l1, l2, l3, l4, l5, some (.int x), l7, l8, l9, l10], [], h) Q = Tr sc d 232 (317, [l0, l1, l2, l3, l4, cl2 l5, some (.int (x + 1)), l7, l8, l9, l10], [], h) Q := t_inc k_232_314 rfl (Nat.le_of_ble_eq_true rfl)
theorem k_232_317 : lk 232 317 = some (.goto (-205), 320, 112, 0, .null) := by decide +kernel
theorem x_232_317 : Tr sc d 232 (317, [l0, l1, l2, l3, l4, l5, l6, l7, l8, l9, l10], [], h) Q = Tr sc d 232 (112, [l0, l1, l2, l3, l4, l5, l6, l7, l8, l9, l10], [], h) Q := t_go k_232_317 rfl
theorem k_232_320 : lk 232 320 = some (.iconst 1, 321, 0, 0, .int 1) := by decide +kernel
theorem x_232_320 : Tr sc d 232 (320, [l0, l1, l2, l3, l4, l5, l6, l7, l8, l9, l10], [], h) Q = Tr sc d 232 (321, [l0, l1, l2, l3, l4, l5, l6, l7, l8, l9, l10], [.int 1], h) Q := t_go k_232_320 rfl
theorem k_232_321 : lk 232 321 = some (.istore 6, 323, 6, 0, .null) := by decide +kernel
theorem x_232_321 : Tr sc d 232 (321, [l0, l1, l2, l3, l4, l5, l6, l7, l8, l9, l10], [.int i0], h) Q = Tr sc d 232 (323, [l0, l1, l2, l3, l4, cl2 l5, some (.int i0), l7, l8, l9, l10], [], h) Q := t_istore k_232_321 (Nat.le_of_ble_eq_true rfl)
theorem k_232_323 : lk 232 323 = some (.iload 6, 325, 6, 0, .null) := by decide +kernel
theorem x_232_323 : Tr sc d 232 (323, [l0, l1, l2, l3, l4, l5, some (.int x), l7, l8, l9, l10], [], h) Q = Tr sc d 232 (325, [l0, l1, l2, l3, l4, l5, some (.int x), l7, l8, l9, l10], [.int x], h) Q := t_iload k_232_323 rfl
theorem k_232_325 : lk 232 325 = some (.ifCond .eq 58, 328, 383, 0, .null) := by decide +kernel
theorem x_232_325 : Tr sc d 232 (325, [l0, l1, l2, l3, l4, l5, l6, l7, l8, l9, l10], [.int i0], h) Q = if i0 = 0 then Tr sc d 232 (383, [l0, l1, l2, l3, l4, l5, l6, l7, l8, l9, l10], [], h) Q else Tr sc d 232 (328, [l0, l1, l2, l3, l4, l5, l6, l7, l8, l9, l10], [], h) Q := t_if k_232_325 rfl
theorem k_232_328 : lk 232 328 = some (.iconst 0, 329, 0, 0, .int 0) := by decide +kernel
theorem x_232_328 : Tr sc d 232 (328, [l0, l1, l2, l3, l4, l5, l6, l7, l8, l9, l10], [], h) Q = Tr sc d 232 (329, [l0, l1, l2, l3, l4, l5, l6, l7, l8, l9, l10], [.int 0], h) Q := t_go k_232_328 rfl
theorem k_232_329 : lk 232 329 = some (.istore 6, 331, 6, 0, .null) := by decide +kernel
theorem x_232_329 : Tr sc d 232 (329, [l0, l1, l2, l3, l4, l5, l6, l7, l8, l9, l10], [.int i0], h) Q = Tr sc d 232 (331, [l0, l1, l2, l3, l4, cl2 l5, some (.int i0), l7, l8, l9, l10], [], h) Q := t_istore k_232_329 (Nat.le_of_ble_eq_true rfl)
theorem k_232_331 : lk 232 331 = some (.iconst 0, 332, 0, 0, .int 0) := by decide +kernel
theorem x_232_331 : Tr sc d 232 (331, [l0, l1, l2, l3, l4, l5, l6, l7, l8, l9, l10], [], h) Q = Tr sc d 232 (332, [l0, l1, l2, l3, l4, l5, l6, l7, l8, l9, l10], [.int 0], h) Q := t_go k_232_331 rfl
theorem k_232_332 : lk 232 332 = some (.istore 7, 334, 7, 0, .null) := by decide +kernel
theorem x_232_332 : Tr sc d 232 (332, [l0, l1, l2, l3, l4, l5, l6, l7, l8, l9, l10], [.int i0], h) Q = Tr sc d 232 (334, [l0, l1, l2, l3, l4, l5, cl2 l6, some (.int i0), l8, l9, l10], [], h) Q := t_istore k_232_332 (Nat.le_of_ble_eq_true rfl)
theorem k_232_334 : lk 232 334 = some (.iload 7, 336, 7, 0, .null) := by decide +kernel
theorem x_232_334 : Tr sc d 232 (334, [l0, l1, l2, l3, l4, l5, l6, some (.int x), l8, l9, l10], [], h) Q = Tr sc d 232 (336, [l0, l1, l2, l3, l4, l5, l6, some (.int x), l8, l9, l10], [.int x], h) Q := t_iload k_232_334 rfl
theorem k_232_336 : lk 232 336 = some (.aload_n 0, 337, 0, 0, .null) := by decide +kernel
theorem x_232_336 : Tr sc d 232 (336, [some (.ref xk), l1, l2, l3, l4, l5, l6, l7, l8, l9, l10], [.int i0], h) Q = Tr sc d 232 (337, [some (.ref xk), l1, l2, l3, l4, l5, l6, l7, l8, l9, l10], [.ref xk, .int i0], h) Q := t_aload_n k_232_336 rfl
theorem k_232_337 : lk 232 337 = some (.getfield 346, 340, 10, 50, .int 0) := by decide +kernel
theorem x_232_337 : Tr sc d 232 (337, [l0, l1, l2, l3, l4, l5, l6, l7, l8, l9, l10], [.ref k1, .int i0], h) Q = (okp h k1 10 = true ∧ Tr sc d 232 (340, [l0, l1, l2, l3, l4, l5, l6, l7, l8, l9, l10], [.int (hI h k1 50), .int i0], h) Q) := t_gd k_232_337 rfl
theorem k_232_340 : lk 232 340 = some (.if_icmp .ge 40, 343, 380, 0, .null) := by decide +kernel
theorem x_232_340 : Tr sc d 232 (340, [l0, l1, l2, l3, l4, l5, l6, l7, l8, l9, l10], [.int i1, .int i0], h) Q = if i1 ≤ i0 then Tr sc d 232 (380, [l0, l1, l2, l3, l4, l5, l6, l7, l8, l9, l10], [], h) Q else Tr sc d 232 (343, [l0, l1, l2, l3, l4, l5, l6, l7, l8, l9, l10], [], h) Q := t_if k_232_340 rfl
theorem k_232_343 : lk 232 343 = some (.aload_n 0, 344, 0, 0, .null) := by decide +kernel
theorem x_232_343 : Tr sc d 232 (343, [some (.ref xk), l1, l2, l3, l4, l5, l6, l7, l8, l9, l10], [], h) Q = Tr sc d 232 (344, [some (.ref xk), l1, l2, l3, l4, l5, l6, l7, l8, l9, l10], [.ref xk], h) Q := t_aload_n k_232_343 rfl
theorem k_232_344 : lk 232 344 = some (.getfield 107, 347, 10, 53, .null) := by decide +kernel
theorem x_232_344 : Tr sc d 232 (344, [l0, l1, l2, l3, l4, l5, l6, l7, l8, l9, l10], [.ref k0], h) Q = (okp h k0 10 = true ∧ ∃ q, hR h k0 53 = some q ∧ Tr sc d 232 (347, [l0, l1, l2, l3, l4, l5, l6, l7, l8, l9, l10], [.ref q], h) Q) := t_getr k_232_344
theorem k_232_347 : lk 232 347 = some (.iload 7, 349, 7, 0, .null) := by decide +kernel
theorem x_232_347 : Tr sc d 232 (347, [l0, l1, l2, l3, l4, l5, l6, some (.int x), l8, l9, l10], [.ref k0], h) Q = Tr sc d 232 (349, [l0, l1, l2, l3, l4, l5, l6, some (.int x), l8, l9, l10], [.int x, .ref k0], h) Q := t_iload k_232_347 rfl
theorem k_232_349 : lk 232 349 = some (.baload, 350, 0, 0, .null) := by decide +kernel
theorem x_232_349 : Tr sc d 232 (349, [l0, l1, l2, l3, l4, l5, l6, l7, l8, l9, l10], [.int i1, .ref k0], h) Q = ((okp h k0 13 && inb i1 (LN k0)) = true ∧ Tr sc d 232 (350, [l0, l1, l2, l3, l4, l5, l6, l7, l8, l9, l10], [.int (hI h k0 i1.toNatClampNeg)], h) Q) := t_gd k_232_349 rfl
theorem k_232_350 : lk 232 350 = some (.ifCond .eq 24, 353, 374, 0, .null) := by decide +kernel
theorem x_232_350 : Tr sc d 232 (350, [l0, l1, l2, l3, l4, l5, l6, l7, l8, l9, l10], [.int i0], h) Q = if i0 = 0 then Tr sc d 232 (374, [l0, l1, l2, l3, l4, l5, l6, l7, l8, l9, l10], [], h) Q else Tr sc d 232 (353, [l0, l1, l2, l3, l4, l5, l6, l7, l8, l9, l10], [], h) Q := t_if k_232_350 rfl
theorem k_232_353 : lk 232 353 = some (.aload_n 0, 354, 0, 0, .null) := by decide +kernel
theorem x_232_353 : Tr sc d 232 (353, [some (.ref xk), l1, l2, l3, l4, l5, l6, l7, l8, l9, l10], [], h) Q = Tr sc d 232 (354, [some (.ref xk), l1, l2, l3, l4, l5, l6, l7, l8, l9, l10], [.ref xk], h) Q := t_aload_n k_232_353 rfl
theorem k_232_354 : lk 232 354 = some (.iload_n 1, 355, 1, 0, .null) := by decide +kernel
theorem x_232_354 : Tr sc d 232 (354, [l0, some (.int x), l2, l3, l4, l5, l6, l7, l8, l9, l10], [.ref k0], h) Q = Tr sc d 232 (355, [l0, some (.int x), l2, l3, l4, l5, l6, l7, l8, l9, l10], [.int x, .ref k0], h) Q := t_iload_n k_232_354 rfl
theorem k_232_355 : lk 232 355 = some (.iload 7, 357, 7, 0, .null) := by decide +kernel
theorem x_232_355 : Tr sc d 232 (355, [l0, l1, l2, l3, l4, l5, l6, some (.int x), l8, l9, l10], [.int i1, .ref k0], h) Q = Tr sc d 232 (357, [l0, l1, l2, l3, l4, l5, l6, some (.int x), l8, l9, l10], [.int x, .int i1, .ref k0], h) Q := t_iload k_232_355 rfl
theorem k_232_357 : lk 232 357 = some (.invokevirtual 359, 360, 233, 2, .null) := by decide +kernel
theorem x_232_357 : Tr sc (d + 1) 232 (357, [l0, l1, l2, l3, l4, l5, l6, l7, l8, l9, l10], [.int i2, .int i1, .ref k0], h) Q = (okp h k0 10 = true ∧ Tr sc d 233 (ent0 233 [.ref k0, .int i1, .int i2] h) (fun z => Tr sc (d + 1) 232 (360, [l0, l1, l2, l3, l4, l5, l6, l7, l8, l9, l10], z.1.toList ++ [], z.2) Q)) := t_cv (as := [.int i1, .int i2]) (r := []) k_232_357 rfl rfl (Nat.le_of_ble_eq_true rfl) (Nat.le_of_ble_eq_true rfl) (Nat.le_of_ble_eq_true rfl)
theorem k_232_360 : lk 232 360 = some (.ifCond .ne 14, 363, 374, 0, .null) := by decide +kernel
theorem x_232_360 : Tr sc d 232 (360, [l0, l1, l2, l3, l4, l5, l6, l7, l8, l9, l10], [.int i0], h) Q = if i0 = 0 then Tr sc d 232 (363, [l0, l1, l2, l3, l4, l5, l6, l7, l8, l9, l10], [], h) Q else Tr sc d 232 (374, [l0, l1, l2, l3, l4, l5, l6, l7, l8, l9, l10], [], h) Q := t_if k_232_360 rfl
theorem k_232_363 : lk 232 363 = some (.aload_n 0, 364, 0, 0, .null) := by decide +kernel
theorem x_232_363 : Tr sc d 232 (363, [some (.ref xk), l1, l2, l3, l4, l5, l6, l7, l8, l9, l10], [], h) Q = Tr sc d 232 (364, [some (.ref xk), l1, l2, l3, l4, l5, l6, l7, l8, l9, l10], [.ref xk], h) Q := t_aload_n k_232_363 rfl
theorem k_232_364 : lk 232 364 = some (.getfield 107, 367, 10, 53, .null) := by decide +kernel
theorem x_232_364 : Tr sc d 232 (364, [l0, l1, l2, l3, l4, l5, l6, l7, l8, l9, l10], [.ref k0], h) Q = (okp h k0 10 = true ∧ ∃ q, hR h k0 53 = some q ∧ Tr sc d 232 (367, [l0, l1, l2, l3, l4, l5, l6, l7, l8, l9, l10], [.ref q], h) Q) := t_getr k_232_364
theorem k_232_367 : lk 232 367 = some (.iload 7, 369, 7, 0, .null) := by decide +kernel
theorem x_232_367 : Tr sc d 232 (367, [l0, l1, l2, l3, l4, l5, l6, some (.int x), l8, l9, l10], [.ref k0], h) Q = Tr sc d 232 (369, [l0, l1, l2, l3, l4, l5, l6, some (.int x), l8, l9, l10], [.int x, .ref k0], h) Q := t_iload k_232_367 rfl
theorem k_232_369 : lk 232 369 = some (.iconst 0, 370, 0, 0, .int 0) := by decide +kernel
theorem x_232_369 : Tr sc d 232 (369, [l0, l1, l2, l3, l4, l5, l6, l7, l8, l9, l10], [.int i1, .ref k0], h) Q = Tr sc d 232 (370, [l0, l1, l2, l3, l4, l5, l6, l7, l8, l9, l10], [.int 0, .int i1, .ref k0], h) Q := t_go k_232_369 rfl
theorem k_232_370 : lk 232 370 = some (.bastore, 371, 0, 0, .null) := by decide +kernel
theorem x_232_370 : Tr sc d 232 (370, [l0, l1, l2, l3, l4, l5, l6, l7, l8, l9, l10], [.int i2, .int i1, .ref k0], h) Q = ((okp h k0 13 && inb i1 (LN k0)) = true ∧ Tr sc d 232 (371, [l0, l1, l2, l3, l4, l5, l6, l7, l8, l9, l10], [], (sI h k0 i1.toNatClampNeg (vp_nar .boolean i2))) Q) := t_gd k_232_370 rfl
theorem k_232_371 : lk 232 371 = some (.iconst 1, 372, 0, 0, .int 1) := by decide +kernel
theorem x_232_371 : Tr sc d 232 (371, [l0, l1, l2, l3, l4, l5, l6, l7, l8, l9, l10], [], h) Q = Tr sc d 232 (372, [l0, l1, l2, l3, l4, l5, l6, l7, l8, l9, l10], [.int 1], h) Q := t_go k_232_371 rfl
theorem k_232_372 : lk 232 372 = some (.istore 6, 374, 6, 0, .null) := by decide +kernel
theorem x_232_372 : Tr sc d 232 (372, [l0, l1, l2, l3, l4, l5, l6, l7, l8, l9, l10], [.int i0], h) Q = Tr sc d 232 (374, [l0, l1, l2, l3, l4, cl2 l5, some (.int i0), l7, l8, l9, l10], [], h) Q := t_istore k_232_372 (Nat.le_of_ble_eq_true rfl)
theorem k_232_374 : lk 232 374 = some (.iinc 7 1, 377, 7, 0, .int 1) := by decide +kernel
theorem x_232_374 : Tr sc d 232 (374, [l0, l1, l2, l3, l4, l5, l6, some (.int x), l8, l9, l10], [], h) Q = Tr sc d 232 (377, [l0, l1, l2, l3, l4, l5, cl2 l6, some (.int (x + 1)), l8, l9, l10], [], h) Q := t_inc k_232_374 rfl (Nat.le_of_ble_eq_true rfl)
theorem k_232_377 : lk 232 377 = some (.goto (-43), 380, 334, 0, .null) := by decide +kernel
theorem x_232_377 : Tr sc d 232 (377, [l0, l1, l2, l3, l4, l5, l6, l7, l8, l9, l10], [], h) Q = Tr sc d 232 (334, [l0, l1, l2, l3, l4, l5, l6, l7, l8, l9, l10], [], h) Q := t_go k_232_377 rfl
theorem k_232_380 : lk 232 380 = some (.goto (-57), 383, 323, 0, .null) := by decide +kernel
theorem x_232_380 : Tr sc d 232 (380, [l0, l1, l2, l3, l4, l5, l6, l7, l8, l9, l10], [], h) Q = Tr sc d 232 (323, [l0, l1, l2, l3, l4, l5, l6, l7, l8, l9, l10], [], h) Q := t_go k_232_380 rfl
theorem k_232_383 : lk 232 383 = some (.iconst 0, 384, 0, 0, .int 0) := by decide +kernel
theorem x_232_383 : Tr sc d 232 (383, [l0, l1, l2, l3, l4, l5, l6, l7, l8, l9, l10], [], h) Q = Tr sc d 232 (384, [l0, l1, l2, l3, l4, l5, l6, l7, l8, l9, l10], [.int 0], h) Q := t_go k_232_383 rfl
theorem k_232_384 : lk 232 384 = some (.istore 7, 386, 7, 0, .null) := by decide +kernel
theorem x_232_384 : Tr sc d 232 (384, [l0, l1, l2, l3, l4, l5, l6, l7, l8, l9, l10], [.int i0], h) Q = Tr sc d 232 (386, [l0, l1, l2, l3, l4, l5, cl2 l6, some (.int i0), l8, l9, l10], [], h) Q := t_istore k_232_384 (Nat.le_of_ble_eq_true rfl)
theorem k_232_386 : lk 232 386 = some (.iconst 0, 387, 0, 0, .int 0) := by decide +kernel
theorem x_232_386 : Tr sc d 232 (386, [l0, l1, l2, l3, l4, l5, l6, l7, l8, l9, l10], [], h) Q = Tr sc d 232 (387, [l0, l1, l2, l3, l4, l5, l6, l7, l8, l9, l10], [.int 0], h) Q := t_go k_232_386 rfl
theorem k_232_387 : lk 232 387 = some (.istore 8, 389, 8, 0, .null) := by decide +kernel
theorem x_232_387 : Tr sc d 232 (387, [l0, l1, l2, l3, l4, l5, l6, l7, l8, l9, l10], [.int i0], h) Q = Tr sc d 232 (389, [l0, l1, l2, l3, l4, l5, l6, cl2 l7, some (.int i0), l9, l10], [], h) Q := t_istore k_232_387 (Nat.le_of_ble_eq_true rfl)
theorem k_232_389 : lk 232 389 = some (.iload 8, 391, 8, 0, .null) := by decide +kernel
theorem x_232_389 : Tr sc d 232 (389, [l0, l1, l2, l3, l4, l5, l6, l7, some (.int x), l9, l10], [], h) Q = Tr sc d 232 (391, [l0, l1, l2, l3, l4, l5, l6, l7, some (.int x), l9, l10], [.int x], h) Q := t_iload k_232_389 rfl
theorem k_232_391 : lk 232 391 = some (.aload_n 0, 392, 0, 0, .null) := by decide +kernel
theorem x_232_391 : Tr sc d 232 (391, [some (.ref xk), l1, l2, l3, l4, l5, l6, l7, l8, l9, l10], [.int i0], h) Q = Tr sc d 232 (392, [some (.ref xk), l1, l2, l3, l4, l5, l6, l7, l8, l9, l10], [.ref xk, .int i0], h) Q := t_aload_n k_232_391 rfl
theorem k_232_392 : lk 232 392 = some (.getfield 346, 395, 10, 50, .int 0) := by decide +kernel
theorem x_232_392 : Tr sc d 232 (392, [l0, l1, l2, l3, l4, l5, l6, l7, l8, l9, l10], [.ref k1, .int i0], h) Q = (okp h k1 10 = true ∧ Tr sc d 232 (395, [l0, l1, l2, l3, l4, l5, l6, l7, l8, l9, l10], [.int (hI h k1 50), .int i0], h) Q) := t_gd k_232_392 rfl
theorem k_232_395 : lk 232 395 = some (.if_icmp .ge 29, 398, 424, 0, .null) := by decide +kernel
theorem x_232_395 : Tr sc d 232 (395, [l0, l1, l2, l3, l4, l5, l6, l7, l8, l9, l10], [.int i1, .int i0], h) Q = if i1 ≤ i0 then Tr sc d 232 (424, [l0, l1, l2, l3, l4, l5, l6, l7, l8, l9, l10], [], h) Q else Tr sc d 232 (398, [l0, l1, l2, l3, l4, l5, l6, l7, l8, l9, l10], [], h) Q := t_if k_232_395 rfl
theorem k_232_398 : lk 232 398 = some (.iload 7, 400, 7, 0, .null) := by decide +kernel
theorem x_232_398 : Tr sc d 232 (398, [l0, l1, l2, l3, l4, l5, l6, some (.int x), l8, l9, l10], [], h) Q = Tr sc d 232 (400, [l0, l1, l2, l3, l4, l5, l6, some (.int x), l8, l9, l10], [.int x], h) Q := t_iload k_232_398 rfl
theorem k_232_400 : lk 232 400 = some (.aload_n 0, 401, 0, 0, .null) := by decide +kernel
theorem x_232_400 : Tr sc d 232 (400, [some (.ref xk), l1, l2, l3, l4, l5, l6, l7, l8, l9, l10], [.int i0], h) Q = Tr sc d 232 (401, [some (.ref xk), l1, l2, l3, l4, l5, l6, l7, l8, l9, l10], [.ref xk, .int i0], h) Q := t_aload_n k_232_400 rfl
theorem k_232_401 : lk 232 401 = some (.getfield 107, 404, 10, 53, .null) := by decide +kernel
theorem x_232_401 : Tr sc d 232 (401, [l0, l1, l2, l3, l4, l5, l6, l7, l8, l9, l10], [.ref k1, .int i0], h) Q = (okp h k1 10 = true ∧ ∃ q, hR h k1 53 = some q ∧ Tr sc d 232 (404, [l0, l1, l2, l3, l4, l5, l6, l7, l8, l9, l10], [.ref q, .int i0], h) Q) := t_getr k_232_401
theorem k_232_404 : lk 232 404 = some (.iload 8, 406, 8, 0, .null) := by decide +kernel
theorem x_232_404 : Tr sc d 232 (404, [l0, l1, l2, l3, l4, l5, l6, l7, some (.int x), l9, l10], [.ref k1, .int i0], h) Q = Tr sc d 232 (406, [l0, l1, l2, l3, l4, l5, l6, l7, some (.int x), l9, l10], [.int x, .ref k1, .int i0], h) Q := t_iload k_232_404 rfl
theorem k_232_406 : lk 232 406 = some (.baload, 407, 0, 0, .null) := by decide +kernel
theorem x_232_406 : Tr sc d 232 (406, [l0, l1, l2, l3, l4, l5, l6, l7, l8, l9, l10], [.int i2, .ref k1, .int i0], h) Q = ((okp h k1 13 && inb i2 (LN k1)) = true ∧ Tr sc d 232 (407, [l0, l1, l2, l3, l4, l5, l6, l7, l8, l9, l10], [.int (hI h k1 i2.toNatClampNeg), .int i0], h) Q) := t_gd k_232_406 rfl
theorem k_232_407 : lk 232 407 = some (.ifCond .eq 7, 410, 414, 0, .null) := by decide +kernel
theorem x_232_407 : Tr sc d 232 (407, [l0, l1, l2, l3, l4, l5, l6, l7, l8, l9, l10], [.int i1, .int i0], h) Q = if i1 = 0 then Tr sc d 232 (414, [l0, l1, l2, l3, l4, l5, l6, l7, l8, l9, l10], [.int i0], h) Q else Tr sc d 232 (410, [l0, l1, l2, l3, l4, l5, l6, l7, l8, l9, l10], [.int i0], h) Q := t_if k_232_407 rfl
theorem k_232_410 : lk 232 410 = some (.iconst 1, 411, 0, 0, .int 1) := by decide +kernel
theorem x_232_410 : Tr sc d 232 (410, [l0, l1, l2, l3, l4, l5, l6, l7, l8, l9, l10], [.int i0], h) Q = Tr sc d 232 (411, [l0, l1, l2, l3, l4, l5, l6, l7, l8, l9, l10], [.int 1, .int i0], h) Q := t_go k_232_410 rfl
theorem k_232_411 : lk 232 411 = some (.goto 4, 414, 415, 0, .null) := by decide +kernel
theorem x_232_411 : Tr sc d 232 (411, [l0, l1, l2, l3, l4, l5, l6, l7, l8, l9, l10], [.int i1, .int i0], h) Q = Tr sc d 232 (415, [l0, l1, l2, l3, l4, l5, l6, l7, l8, l9, l10], [.int i1, .int i0], h) Q := t_go k_232_411 rfl
theorem k_232_414 : lk 232 414 = some (.iconst 0, 415, 0, 0, .int 0) := by decide +kernel
theorem x_232_414 : Tr sc d 232 (414, [l0, l1, l2, l3, l4, l5, l6, l7, l8, l9, l10], [.int i0], h) Q = Tr sc d 232 (415, [l0, l1, l2, l3, l4, l5, l6, l7, l8, l9, l10], [.int 0, .int i0], h) Q := t_go k_232_414 rfl
theorem k_232_415 : lk 232 415 = some (.iadd, 416, 0, 0, .null) := by decide +kernel
theorem x_232_415 : Tr sc d 232 (415, [l0, l1, l2, l3, l4, l5, l6, l7, l8, l9, l10], [.int i1, .int i0], h) Q = Tr sc d 232 (416, [l0, l1, l2, l3, l4, l5, l6, l7, l8, l9, l10], [.int (i0 + i1)], h) Q := t_go k_232_415 rfl
theorem k_232_416 : lk 232 416 = some (.istore 7, 418, 7, 0, .null) := by decide +kernel
theorem x_232_416 : Tr sc d 232 (416, [l0, l1, l2, l3, l4, l5, l6, l7, l8, l9, l10], [.int i0], h) Q = Tr sc d 232 (418, [l0, l1, l2, l3, l4, l5, cl2 l6, some (.int i0), l8, l9, l10], [], h) Q := t_istore k_232_416 (Nat.le_of_ble_eq_true rfl)
theorem k_232_418 : lk 232 418 = some (.iinc 8 1, 421, 8, 0, .int 1) := by decide +kernel
theorem x_232_418 : Tr sc d 232 (418, [l0, l1, l2, l3, l4, l5, l6, l7, some (.int x), l9, l10], [], h) Q = Tr sc d 232 (421, [l0, l1, l2, l3, l4, l5, l6, cl2 l7, some (.int (x + 1)), l9, l10], [], h) Q := t_inc k_232_418 rfl (Nat.le_of_ble_eq_true rfl)
theorem k_232_421 : lk 232 421 = some (.goto (-32), 424, 389, 0, .null) := by decide +kernel
theorem x_232_421 : Tr sc d 232 (421, [l0, l1, l2, l3, l4, l5, l6, l7, l8, l9, l10], [], h) Q = Tr sc d 232 (389, [l0, l1, l2, l3, l4, l5, l6, l7, l8, l9, l10], [], h) Q := t_go k_232_421 rfl
theorem k_232_424 : lk 232 424 = some (.aload_n 0, 425, 0, 0, .null) := by decide +kernel
theorem x_232_424 : Tr sc d 232 (424, [some (.ref xk), l1, l2, l3, l4, l5, l6, l7, l8, l9, l10], [], h) Q = Tr sc d 232 (425, [some (.ref xk), l1, l2, l3, l4, l5, l6, l7, l8, l9, l10], [.ref xk], h) Q := t_aload_n k_232_424 rfl
theorem k_232_425 : lk 232 425 = some (.iload 7, 427, 7, 0, .null) := by decide +kernel
theorem x_232_425 : Tr sc d 232 (425, [l0, l1, l2, l3, l4, l5, l6, some (.int x), l8, l9, l10], [.ref k0], h) Q = Tr sc d 232 (427, [l0, l1, l2, l3, l4, l5, l6, some (.int x), l8, l9, l10], [.int x, .ref k0], h) Q := t_iload k_232_425 rfl
theorem k_232_427 : lk 232 427 = some (.iload 7, 429, 7, 0, .null) := by decide +kernel
theorem x_232_427 : Tr sc d 232 (427, [l0, l1, l2, l3, l4, l5, l6, some (.int x), l8, l9, l10], [.int i1, .ref k0], h) Q = Tr sc d 232 (429, [l0, l1, l2, l3, l4, l5, l6, some (.int x), l8, l9, l10], [.int x, .int i1, .ref k0], h) Q := t_iload k_232_427 rfl
theorem k_232_429 : lk 232 429 = some (.ifCond .le 7, 432, 436, 0, .null) := by decide +kernel
theorem x_232_429 : Tr sc d 232 (429, [l0, l1, l2, l3, l4, l5, l6, l7, l8, l9, l10], [.int i2, .int i1, .ref k0], h) Q = if i2 ≤ 0 then Tr sc d 232 (436, [l0, l1, l2, l3, l4, l5, l6, l7, l8, l9, l10], [.int i1, .ref k0], h) Q else Tr sc d 232 (432, [l0, l1, l2, l3, l4, l5, l6, l7, l8, l9, l10], [.int i1, .ref k0], h) Q := t_if k_232_429 rfl
theorem k_232_432 : lk 232 432 = some (.iconst 1, 433, 0, 0, .int 1) := by decide +kernel
theorem x_232_432 : Tr sc d 232 (432, [l0, l1, l2, l3, l4, l5, l6, l7, l8, l9, l10], [.int i1, .ref k0], h) Q = Tr sc d 232 (433, [l0, l1, l2, l3, l4, l5, l6, l7, l8, l9, l10], [.int 1, .int i1, .ref k0], h) Q := t_go k_232_432 rfl
theorem k_232_433 : lk 232 433 = some (.goto 4, 436, 437, 0, .null) := by decide +kernel
theorem x_232_433 : Tr sc d 232 (433, [l0, l1, l2, l3, l4, l5, l6, l7, l8, l9, l10], [.int i2, .int i1, .ref k0], h) Q = Tr sc d 232 (437, [l0, l1, l2, l3, l4, l5, l6, l7, l8, l9, l10], [.int i2, .int i1, .ref k0], h) Q := t_go k_232_433 rfl
theorem k_232_436 : lk 232 436 = some (.iconst 0, 437, 0, 0, .int 0) := by decide +kernel
theorem x_232_436 : Tr sc d 232 (436, [l0, l1, l2, l3, l4, l5, l6, l7, l8, l9, l10], [.int i1, .ref k0], h) Q = Tr sc d 232 (437, [l0, l1, l2, l3, l4, l5, l6, l7, l8, l9, l10], [.int 0, .int i1, .ref k0], h) Q := t_go k_232_436 rfl
theorem k_232_437 : lk 232 437 = some (.invokevirtual 162, 440, 158, 2, .null) := by decide +kernel
theorem x_232_437 : Tr sc (d + 1) 232 (437, [l0, l1, l2, l3, l4, l5, l6, l7, l8, l9, l10], [.int i2, .int i1, .ref k0], h) Q = (okp h k0 10 = true ∧ Tr sc d 158 (ent0 158 [.ref k0, .int i1, .int i2] h) (fun z => Tr sc (d + 1) 232 (440, [l0, l1, l2, l3, l4, l5, l6, l7, l8, l9, l10], z.1.toList ++ [], z.2) Q)) := t_cv (as := [.int i1, .int i2]) (r := []) k_232_437 rfl rfl (Nat.le_of_ble_eq_true rfl) (Nat.le_of_ble_eq_true rfl) (Nat.le_of_ble_eq_true rfl)
theorem k_232_440 : lk 232 440 = some (.ireturn, 441, 0, 0, .null) := by decide +kernel
theorem x_232_440 : Tr sc d 232 (440, [l0, l1, l2, l3, l4, l5, l6, l7, l8, l9, l10], [.int i0], h) Q = Q (some (.int i0), h) := t_ret k_232_440 (by rw [r_232]; rfl)
theorem e_232 : Tr sc d 232 (ent0 232 [.ref k0, .int i1, .int i2, .int i3, .int i4] h) Q = Tr sc d 232 (0, [some (.ref k0), some (.int i1), some (.int i2), some (.int i3), some (.int i4), none, none, none, none, none, none], [], h) Q := by
  have e : mL 232 = 11 := by decide +kernel
  unfold ent0
  rw [e]
  rfl
theorem r_233 : mR 233 = some .boolean := by decide +kernel
theorem k_233_0 : lk 233 0 = some (.iconst 0, 1, 0, 0, .int 0) := by decide +kernel
theorem x_233_0 : Tr sc d 233 (0, [l0, l1, l2, l3, l4, l5], [], h) Q = Tr sc d 233 (1, [l0, l1, l2, l3, l4, l5], [.int 0], h) Q := t_go k_233_0 rfl
theorem k_233_1 : lk 233 1 = some (.istore_n 3, 2, 3, 0, .null) := by decide +kernel
theorem x_233_1 : Tr sc d 233 (1, [l0, l1, l2, l3, l4, l5], [.int i0], h) Q = Tr sc d 233 (2, [l0, l1, cl2 l2, some (.int i0), l4, l5], [], h) Q := t_istore_n k_233_1 (Nat.le_of_ble_eq_true rfl)
theorem k_233_2 : lk 233 2 = some (.iconst 0, 3, 0, 0, .int 0) := by decide +kernel
theorem x_233_2 : Tr sc d 233 (2, [l0, l1, l2, l3, l4, l5], [], h) Q = Tr sc d 233 (3, [l0, l1, l2, l3, l4, l5], [.int 0], h) Q := t_go k_233_2 rfl
theorem k_233_3 : lk 233 3 = some (.istore 4, 5, 4, 0, .null) := by decide +kernel
theorem x_233_3 : Tr sc d 233 (3, [l0, l1, l2, l3, l4, l5], [.int i0], h) Q = Tr sc d 233 (5, [l0, l1, l2, cl2 l3, some (.int i0), l5], [], h) Q := t_istore k_233_3 (Nat.le_of_ble_eq_true rfl)
theorem k_233_5 : lk 233 5 = some (.iload 4, 7, 4, 0, .null) := by decide +kernel
theorem x_233_5 : Tr sc d 233 (5, [l0, l1, l2, l3, some (.int x), l5], [], h) Q = Tr sc d 233 (7, [l0, l1, l2, l3, some (.int x), l5], [.int x], h) Q := t_iload k_233_5 rfl
theorem k_233_7 : lk 233 7 = some (.aload_n 0, 8, 0, 0, .null) := by decide +kernel
theorem x_233_7 : Tr sc d 233 (7, [some (.ref xk), l1, l2, l3, l4, l5], [.int i0], h) Q = Tr sc d 233 (8, [some (.ref xk), l1, l2, l3, l4, l5], [.ref xk, .int i0], h) Q := t_aload_n k_233_7 rfl
theorem k_233_8 : lk 233 8 = some (.getfield 41, 11, 10, 18, .null) := by decide +kernel
theorem x_233_8 : Tr sc d 233 (8, [l0, l1, l2, l3, l4, l5], [.ref k1, .int i0], h) Q = (okp h k1 10 = true ∧ ∃ q, hR h k1 18 = some q ∧ Tr sc d 233 (11, [l0, l1, l2, l3, l4, l5], [.ref q, .int i0], h) Q) := t_getr k_233_8
theorem k_233_11 : lk 233 11 = some (.iload_n 1, 12, 1, 0, .null) := by decide +kernel
theorem x_233_11 : Tr sc d 233 (11, [l0, some (.int x), l2, l3, l4, l5], [.ref k1, .int i0], h) Q = Tr sc d 233 (12, [l0, some (.int x), l2, l3, l4, l5], [.int x, .ref k1, .int i0], h) Q := t_iload_n k_233_11 rfl
theorem k_233_12 : lk 233 12 = some (.iaload, 13, 0, 0, .null) := by decide +kernel
theorem x_233_12 : Tr sc d 233 (12, [l0, l1, l2, l3, l4, l5], [.int i2, .ref k1, .int i0], h) Q = (iOk sc h k1 i2 ∧ Tr sc d 233 (13, [l0, l1, l2, l3, l4, l5], [.int (iRd sc h k1 i2), .int i0], h) Q) := t_iald k_233_12
theorem k_233_13 : lk 233 13 = some (.if_icmp .ge 48, 16, 61, 0, .null) := by decide +kernel
theorem x_233_13 : Tr sc d 233 (13, [l0, l1, l2, l3, l4, l5], [.int i1, .int i0], h) Q = if i1 ≤ i0 then Tr sc d 233 (61, [l0, l1, l2, l3, l4, l5], [], h) Q else Tr sc d 233 (16, [l0, l1, l2, l3, l4, l5], [], h) Q := t_if k_233_13 rfl
theorem k_233_16 : lk 233 16 = some (.iload_n 3, 17, 3, 0, .null) := by decide +kernel
theorem x_233_16 : Tr sc d 233 (16, [l0, l1, l2, some (.int x), l4, l5], [], h) Q = Tr sc d 233 (17, [l0, l1, l2, some (.int x), l4, l5], [.int x], h) Q := t_iload_n k_233_16 rfl
theorem k_233_17 : lk 233 17 = some (.ifCond .ne 44, 20, 61, 0, .null) := by decide +kernel
theorem x_233_17 : Tr sc d 233 (17, [l0, l1, l2, l3, l4, l5], [.int i0], h) Q = if i0 = 0 then Tr sc d 233 (20, [l0, l1, l2, l3, l4, l5], [], h) Q else Tr sc d 233 (61, [l0, l1, l2, l3, l4, l5], [], h) Q := t_if k_233_17 rfl
theorem k_233_20 : lk 233 20 = some (.aload_n 0, 21, 0, 0, .null) := by decide +kernel
theorem x_233_20 : Tr sc d 233 (20, [some (.ref xk), l1, l2, l3, l4, l5], [], h) Q = Tr sc d 233 (21, [some (.ref xk), l1, l2, l3, l4, l5], [.ref xk], h) Q := t_aload_n k_233_20 rfl
theorem k_233_21 : lk 233 21 = some (.getfield 110, 24, 10, 54, .null) := by decide +kernel
theorem x_233_21 : Tr sc d 233 (21, [l0, l1, l2, l3, l4, l5], [.ref k0], h) Q = (okp h k0 10 = true ∧ ∃ q, hR h k0 54 = some q ∧ Tr sc d 233 (24, [l0, l1, l2, l3, l4, l5], [.ref q], h) Q) := t_getr k_233_21
theorem k_233_24 : lk 233 24 = some (.bipush 6, 26, 0, 0, .int 6) := by decide +kernel
theorem x_233_24 : Tr sc d 233 (24, [l0, l1, l2, l3, l4, l5], [.ref k0], h) Q = Tr sc d 233 (26, [l0, l1, l2, l3, l4, l5], [.int 6, .ref k0], h) Q := t_go k_233_24 rfl
theorem k_233_26 : lk 233 26 = some (.iload_n 2, 27, 2, 0, .null) := by decide +kernel
theorem x_233_26 : Tr sc d 233 (26, [l0, l1, some (.int x), l3, l4, l5], [.int i1, .ref k0], h) Q = Tr sc d 233 (27, [l0, l1, some (.int x), l3, l4, l5], [.int x, .int i1, .ref k0], h) Q := t_iload_n k_233_26 rfl
theorem k_233_27 : lk 233 27 = some (.imul, 28, 0, 0, .null) := by decide +kernel
theorem x_233_27 : Tr sc d 233 (27, [l0, l1, l2, l3, l4, l5], [.int i2, .int i1, .ref k0], h) Q = Tr sc d 233 (28, [l0, l1, l2, l3, l4, l5], [.int (i1 * i2), .ref k0], h) Q := t_go k_233_27 rfl
theorem k_233_28 : lk 233 28 = some (.iload 4, 30, 4, 0, .null) := by decide +kernel
theorem x_233_28 : Tr sc d 233 (28, [l0, l1, l2, l3, some (.int x), l5], [.int i1, .ref k0], h) Q = Tr sc d 233 (30, [l0, l1, l2, l3, some (.int x), l5], [.int x, .int i1, .ref k0], h) Q := t_iload k_233_28 rfl
theorem k_233_30 : lk 233 30 = some (.iadd, 31, 0, 0, .null) := by decide +kernel
theorem x_233_30 : Tr sc d 233 (30, [l0, l1, l2, l3, l4, l5], [.int i2, .int i1, .ref k0], h) Q = Tr sc d 233 (31, [l0, l1, l2, l3, l4, l5], [.int (i1 + i2), .ref k0], h) Q := t_go k_233_30 rfl
theorem k_233_31 : lk 233 31 = some (.iaload, 32, 0, 0, .null) := by decide +kernel
theorem x_233_31 : Tr sc d 233 (31, [l0, l1, l2, l3, l4, l5], [.int i1, .ref k0], h) Q = (iOk sc h k0 i1 ∧ Tr sc d 233 (32, [l0, l1, l2, l3, l4, l5], [.int (iRd sc h k0 i1)], h) Q) := t_iald k_233_31
theorem k_233_32 : lk 233 32 = some (.istore 5, 34, 5, 0, .null) := by decide +kernel
theorem x_233_32 : Tr sc d 233 (32, [l0, l1, l2, l3, l4, l5], [.int i0], h) Q = Tr sc d 233 (34, [l0, l1, l2, l3, cl2 l4, some (.int i0)], [], h) Q := t_istore k_233_32 (Nat.le_of_ble_eq_true rfl)
theorem k_233_34 : lk 233 34 = some (.iload 5, 36, 5, 0, .null) := by decide +kernel
theorem x_233_34 : Tr sc d 233 (34, [l0, l1, l2, l3, l4, some (.int x)], [], h) Q = Tr sc d 233 (36, [l0, l1, l2, l3, l4, some (.int x)], [.int x], h) Q := t_iload k_233_34 rfl
theorem k_233_36 : lk 233 36 = some (.ifCond .lt 17, 39, 53, 0, .null) := by decide +kernel
theorem x_233_36 : Tr sc d 233 (36, [l0, l1, l2, l3, l4, l5], [.int i0], h) Q = if i0 < 0 then Tr sc d 233 (53, [l0, l1, l2, l3, l4, l5], [], h) Q else Tr sc d 233 (39, [l0, l1, l2, l3, l4, l5], [], h) Q := t_if k_233_36 rfl
theorem k_233_39 : lk 233 39 = some (.aload_n 0, 40, 0, 0, .null) := by decide +kernel
theorem x_233_39 : Tr sc d 233 (39, [some (.ref xk), l1, l2, l3, l4, l5], [], h) Q = Tr sc d 233 (40, [some (.ref xk), l1, l2, l3, l4, l5], [.ref xk], h) Q := t_aload_n k_233_39 rfl
theorem k_233_40 : lk 233 40 = some (.getfield 107, 43, 10, 53, .null) := by decide +kernel
theorem x_233_40 : Tr sc d 233 (40, [l0, l1, l2, l3, l4, l5], [.ref k0], h) Q = (okp h k0 10 = true ∧ ∃ q, hR h k0 53 = some q ∧ Tr sc d 233 (43, [l0, l1, l2, l3, l4, l5], [.ref q], h) Q) := t_getr k_233_40
theorem k_233_43 : lk 233 43 = some (.iload 5, 45, 5, 0, .null) := by decide +kernel
theorem x_233_43 : Tr sc d 233 (43, [l0, l1, l2, l3, l4, some (.int x)], [.ref k0], h) Q = Tr sc d 233 (45, [l0, l1, l2, l3, l4, some (.int x)], [.int x, .ref k0], h) Q := t_iload k_233_43 rfl
theorem k_233_45 : lk 233 45 = some (.baload, 46, 0, 0, .null) := by decide +kernel
theorem x_233_45 : Tr sc d 233 (45, [l0, l1, l2, l3, l4, l5], [.int i1, .ref k0], h) Q = ((okp h k0 13 && inb i1 (LN k0)) = true ∧ Tr sc d 233 (46, [l0, l1, l2, l3, l4, l5], [.int (hI h k0 i1.toNatClampNeg)], h) Q) := t_gd k_233_45 rfl
theorem k_233_46 : lk 233 46 = some (.ifCond .eq 7, 49, 53, 0, .null) := by decide +kernel
theorem x_233_46 : Tr sc d 233 (46, [l0, l1, l2, l3, l4, l5], [.int i0], h) Q = if i0 = 0 then Tr sc d 233 (53, [l0, l1, l2, l3, l4, l5], [], h) Q else Tr sc d 233 (49, [l0, l1, l2, l3, l4, l5], [], h) Q := t_if k_233_46 rfl
theorem k_233_49 : lk 233 49 = some (.iconst 1, 50, 0, 0, .int 1) := by decide +kernel
theorem x_233_49 : Tr sc d 233 (49, [l0, l1, l2, l3, l4, l5], [], h) Q = Tr sc d 233 (50, [l0, l1, l2, l3, l4, l5], [.int 1], h) Q := t_go k_233_49 rfl
theorem k_233_50 : lk 233 50 = some (.goto 4, 53, 54, 0, .null) := by decide +kernel
theorem x_233_50 : Tr sc d 233 (50, [l0, l1, l2, l3, l4, l5], [.int i0], h) Q = Tr sc d 233 (54, [l0, l1, l2, l3, l4, l5], [.int i0], h) Q := t_go k_233_50 rfl
theorem k_233_53 : lk 233 53 = some (.iconst 0, 54, 0, 0, .int 0) := by decide +kernel
theorem x_233_53 : Tr sc d 233 (53, [l0, l1, l2, l3, l4, l5], [], h) Q = Tr sc d 233 (54, [l0, l1, l2, l3, l4, l5], [.int 0], h) Q := t_go k_233_53 rfl
theorem k_233_54 : lk 233 54 = some (.istore_n 3, 55, 3, 0, .null) := by decide +kernel
theorem x_233_54 : Tr sc d 233 (54, [l0, l1, l2, l3, l4, l5], [.int i0], h) Q = Tr sc d 233 (55, [l0, l1, cl2 l2, some (.int i0), l4, l5], [], h) Q := t_istore_n k_233_54 (Nat.le_of_ble_eq_true rfl)
theorem k_233_55 : lk 233 55 = some (.iinc 4 1, 58, 4, 0, .int 1) := by decide +kernel
theorem x_233_55 : Tr sc d 233 (55, [l0, l1, l2, l3, some (.int x), l5], [], h) Q = Tr sc d 233 (58, [l0, l1, l2, cl2 l3, some (.int (x + 1)), l5], [], h) Q := t_inc k_233_55 rfl (Nat.le_of_ble_eq_true rfl)
theorem k_233_58 : lk 233 58 = some (.goto (-53), 61, 5, 0, .null) := by decide +kernel
theorem x_233_58 : Tr sc d 233 (58, [l0, l1, l2, l3, l4, l5], [], h) Q = Tr sc d 233 (5, [l0, l1, l2, l3, l4, l5], [], h) Q := t_go k_233_58 rfl
theorem k_233_61 : lk 233 61 = some (.iload_n 3, 62, 3, 0, .null) := by decide +kernel
theorem x_233_61 : Tr sc d 233 (61, [l0, l1, l2, some (.int x), l4, l5], [], h) Q = Tr sc d 233 (62, [l0, l1, l2, some (.int x), l4, l5], [.int x], h) Q := t_iload_n k_233_61 rfl
theorem k_233_62 : lk 233 62 = some (.ireturn, 63, 0, 0, .null) := by decide +kernel
theorem x_233_62 : Tr sc d 233 (62, [l0, l1, l2, l3, l4, l5], [.int i0], h) Q = (vp_nar .boolean i0 = i0 ∧ Q (some (.int i0), h)) := t_zret k_233_62 r_233
theorem e_233 : Tr sc d 233 (ent0 233 [.ref k0, .int i1, .int i2] h) Q = Tr sc d 233 (0, [some (.ref k0), some (.int i1), some (.int i2), none, none, none], [], h) Q := by
  have e : mL 233 = 6 := by decide +kernel
  unfold ent0
  rw [e]
  rfl
theorem r_234 : mR 234 = some .int := by decide +kernel
theorem k_234_0 : lk 234 0 = some (.iload_n 2, 1, 2, 0, .null) := by decide +kernel
theorem x_234_0 : Tr sc d 234 (0, [l0, l1, some (.int x), l3, l4, l5, l6, l7, l8, l9, l10], [], h) Q = Tr sc d 234 (1, [l0, l1, some (.int x), l3, l4, l5, l6, l7, l8, l9, l10], [.int x], h) Q := t_iload_n k_234_0 rfl
theorem k_234_1 : lk 234 1 = some (.iconst 0, 2, 0, 0, .int 0) := by decide +kernel
theorem x_234_1 : Tr sc d 234 (1, [l0, l1, l2, l3, l4, l5, l6, l7, l8, l9, l10], [.int i0], h) Q = Tr sc d 234 (2, [l0, l1, l2, l3, l4, l5, l6, l7, l8, l9, l10], [.int 0, .int i0], h) Q := t_go k_234_1 rfl
theorem k_234_2 : lk 234 2 = some (.bipush 6, 4, 0, 0, .int 6) := by decide +kernel
theorem x_234_2 : Tr sc d 234 (2, [l0, l1, l2, l3, l4, l5, l6, l7, l8, l9, l10], [.int i1, .int i0], h) Q = Tr sc d 234 (4, [l0, l1, l2, l3, l4, l5, l6, l7, l8, l9, l10], [.int 6, .int i1, .int i0], h) Q := t_go k_234_2 rfl
theorem k_234_4 : lk 234 4 = some (.invokestatic 144, 7, 156, 3, .null) := by decide +kernel
theorem x_234_4 : Tr sc (d + 1) 234 (4, [l0, l1, l2, l3, l4, l5, l6, l7, l8, l9, l10], [.int i2, .int i1, .int i0], h) Q = Tr sc d 156 (ent0 156 [.int i0, .int i1, .int i2] h) (fun z => Tr sc (d + 1) 234 (7, [l0, l1, l2, l3, l4, l5, l6, l7, l8, l9, l10], z.1.toList ++ [], z.2) Q) := t_cs (as := [.int i0, .int i1, .int i2]) (r := []) k_234_4 (by decide) rfl rfl (Nat.le_of_ble_eq_true rfl) (Nat.le_of_ble_eq_true rfl)
theorem k_234_7 : lk 234 7 = some (.ifCond .ne 5, 10, 12, 0, .null) := by decide +kernel
theorem x_234_7 : Tr sc d 234 (7, [l0, l1, l2, l3, l4, l5, l6, l7, l8, l9, l10], [.int i0], h) Q = if i0 = 0 then Tr sc d 234 (10, [l0, l1, l2, l3, l4, l5, l6, l7, l8, l9, l10], [], h) Q else Tr sc d 234 (12, [l0, l1, l2, l3, l4, l5, l6, l7, l8, l9, l10], [], h) Q := t_if k_234_7 rfl
theorem k_234_10 : lk 234 10 = some (.iconst (-1), 11, 0, 0, .int (-1)) := by decide +kernel
theorem x_234_10 : Tr sc d 234 (10, [l0, l1, l2, l3, l4, l5, l6, l7, l8, l9, l10], [], h) Q = Tr sc d 234 (11, [l0, l1, l2, l3, l4, l5, l6, l7, l8, l9, l10], [.int (-1)], h) Q := t_go k_234_10 rfl
theorem k_234_11 : lk 234 11 = some (.ireturn, 12, 0, 0, .null) := by decide +kernel
theorem x_234_11 : Tr sc d 234 (11, [l0, l1, l2, l3, l4, l5, l6, l7, l8, l9, l10], [.int i0], h) Q = Q (some (.int i0), h) := t_ret k_234_11 (by rw [r_234]; rfl)
theorem k_234_12 : lk 234 12 = some (.aload_n 0, 13, 0, 0, .null) := by decide +kernel
theorem x_234_12 : Tr sc d 234 (12, [some (.ref xk), l1, l2, l3, l4, l5, l6, l7, l8, l9, l10], [], h) Q = Tr sc d 234 (13, [some (.ref xk), l1, l2, l3, l4, l5, l6, l7, l8, l9, l10], [.ref xk], h) Q := t_aload_n k_234_12 rfl
theorem k_234_13 : lk 234 13 = some (.iload_n 1, 14, 1, 0, .null) := by decide +kernel
theorem x_234_13 : Tr sc d 234 (13, [l0, some (.int x), l2, l3, l4, l5, l6, l7, l8, l9, l10], [.ref k0], h) Q = Tr sc d 234 (14, [l0, some (.int x), l2, l3, l4, l5, l6, l7, l8, l9, l10], [.int x, .ref k0], h) Q := t_iload_n k_234_13 rfl
theorem k_234_14 : lk 234 14 = some (.invokevirtual 327, 17, 217, 1, .null) := by decide +kernel
theorem x_234_14 : Tr sc (d + 1) 234 (14, [l0, l1, l2, l3, l4, l5, l6, l7, l8, l9, l10], [.int i1, .ref k0], h) Q = (okp h k0 10 = true ∧ Tr sc d 217 (ent0 217 [.ref k0, .int i1] h) (fun z => Tr sc (d + 1) 234 (17, [l0, l1, l2, l3, l4, l5, l6, l7, l8, l9, l10], z.1.toList ++ [], z.2) Q)) := t_cv (as := [.int i1]) (r := []) k_234_14 rfl rfl (Nat.le_of_ble_eq_true rfl) (Nat.le_of_ble_eq_true rfl) (Nat.le_of_ble_eq_true rfl)
theorem k_234_17 : lk 234 17 = some (.istore_n 3, 18, 3, 0, .null) := by decide +kernel
theorem x_234_17 : Tr sc d 234 (17, [l0, l1, l2, l3, l4, l5, l6, l7, l8, l9, l10], [.int i0], h) Q = Tr sc d 234 (18, [l0, l1, cl2 l2, some (.int i0), l4, l5, l6, l7, l8, l9, l10], [], h) Q := t_istore_n k_234_17 (Nat.le_of_ble_eq_true rfl)
theorem k_234_18 : lk 234 18 = some (.iload_n 3, 19, 3, 0, .null) := by decide +kernel
theorem x_234_18 : Tr sc d 234 (18, [l0, l1, l2, some (.int x), l4, l5, l6, l7, l8, l9, l10], [], h) Q = Tr sc d 234 (19, [l0, l1, l2, some (.int x), l4, l5, l6, l7, l8, l9, l10], [.int x], h) Q := t_iload_n k_234_18 rfl
theorem k_234_19 : lk 234 19 = some (.ifCond .ge 5, 22, 24, 0, .null) := by decide +kernel
theorem x_234_19 : Tr sc d 234 (19, [l0, l1, l2, l3, l4, l5, l6, l7, l8, l9, l10], [.int i0], h) Q = if 0 ≤ i0 then Tr sc d 234 (24, [l0, l1, l2, l3, l4, l5, l6, l7, l8, l9, l10], [], h) Q else Tr sc d 234 (22, [l0, l1, l2, l3, l4, l5, l6, l7, l8, l9, l10], [], h) Q := t_if k_234_19 rfl
theorem k_234_22 : lk 234 22 = some (.iload_n 3, 23, 3, 0, .null) := by decide +kernel
theorem x_234_22 : Tr sc d 234 (22, [l0, l1, l2, some (.int x), l4, l5, l6, l7, l8, l9, l10], [], h) Q = Tr sc d 234 (23, [l0, l1, l2, some (.int x), l4, l5, l6, l7, l8, l9, l10], [.int x], h) Q := t_iload_n k_234_22 rfl
theorem k_234_23 : lk 234 23 = some (.ireturn, 24, 0, 0, .null) := by decide +kernel
theorem x_234_23 : Tr sc d 234 (23, [l0, l1, l2, l3, l4, l5, l6, l7, l8, l9, l10], [.int i0], h) Q = Q (some (.int i0), h) := t_ret k_234_23 (by rw [r_234]; rfl)
theorem k_234_24 : lk 234 24 = some (.iconst 0, 25, 0, 0, .int 0) := by decide +kernel
theorem x_234_24 : Tr sc d 234 (24, [l0, l1, l2, l3, l4, l5, l6, l7, l8, l9, l10], [], h) Q = Tr sc d 234 (25, [l0, l1, l2, l3, l4, l5, l6, l7, l8, l9, l10], [.int 0], h) Q := t_go k_234_24 rfl
theorem k_234_25 : lk 234 25 = some (.istore 4, 27, 4, 0, .null) := by decide +kernel
theorem x_234_25 : Tr sc d 234 (25, [l0, l1, l2, l3, l4, l5, l6, l7, l8, l9, l10], [.int i0], h) Q = Tr sc d 234 (27, [l0, l1, l2, cl2 l3, some (.int i0), l5, l6, l7, l8, l9, l10], [], h) Q := t_istore k_234_25 (Nat.le_of_ble_eq_true rfl)
theorem k_234_27 : lk 234 27 = some (.iload 4, 29, 4, 0, .null) := by decide +kernel
theorem x_234_27 : Tr sc d 234 (27, [l0, l1, l2, l3, some (.int x), l5, l6, l7, l8, l9, l10], [], h) Q = Tr sc d 234 (29, [l0, l1, l2, l3, some (.int x), l5, l6, l7, l8, l9, l10], [.int x], h) Q := t_iload k_234_27 rfl
theorem k_234_29 : lk 234 29 = some (.sipush 1369, 32, 0, 0, .int 1369) := by decide +kernel
theorem x_234_29 : Tr sc d 234 (29, [l0, l1, l2, l3, l4, l5, l6, l7, l8, l9, l10], [.int i0], h) Q = Tr sc d 234 (32, [l0, l1, l2, l3, l4, l5, l6, l7, l8, l9, l10], [.int 1369, .int i0], h) Q := t_go k_234_29 rfl
theorem k_234_32 : lk 234 32 = some (.if_icmp .ge 31, 35, 63, 0, .null) := by decide +kernel
theorem x_234_32 : Tr sc d 234 (32, [l0, l1, l2, l3, l4, l5, l6, l7, l8, l9, l10], [.int i1, .int i0], h) Q = if i1 ≤ i0 then Tr sc d 234 (63, [l0, l1, l2, l3, l4, l5, l6, l7, l8, l9, l10], [], h) Q else Tr sc d 234 (35, [l0, l1, l2, l3, l4, l5, l6, l7, l8, l9, l10], [], h) Q := t_if k_234_32 rfl
theorem k_234_35 : lk 234 35 = some (.aload_n 0, 36, 0, 0, .null) := by decide +kernel
theorem x_234_35 : Tr sc d 234 (35, [some (.ref xk), l1, l2, l3, l4, l5, l6, l7, l8, l9, l10], [], h) Q = Tr sc d 234 (36, [some (.ref xk), l1, l2, l3, l4, l5, l6, l7, l8, l9, l10], [.ref xk], h) Q := t_aload_n k_234_35 rfl
theorem k_234_36 : lk 234 36 = some (.getfield 116, 39, 10, 56, .null) := by decide +kernel
theorem x_234_36 : Tr sc d 234 (36, [l0, l1, l2, l3, l4, l5, l6, l7, l8, l9, l10], [.ref k0], h) Q = (okp h k0 10 = true ∧ ∃ q, hR h k0 56 = some q ∧ Tr sc d 234 (39, [l0, l1, l2, l3, l4, l5, l6, l7, l8, l9, l10], [.ref q], h) Q) := t_getr k_234_36
theorem k_234_39 : lk 234 39 = some (.iload 4, 41, 4, 0, .null) := by decide +kernel
theorem x_234_39 : Tr sc d 234 (39, [l0, l1, l2, l3, some (.int x), l5, l6, l7, l8, l9, l10], [.ref k0], h) Q = Tr sc d 234 (41, [l0, l1, l2, l3, some (.int x), l5, l6, l7, l8, l9, l10], [.int x, .ref k0], h) Q := t_iload k_234_39 rfl
theorem k_234_41 : lk 234 41 = some (.aload_n 0, 42, 0, 0, .null) := by decide +kernel
theorem x_234_41 : Tr sc d 234 (41, [some (.ref xk), l1, l2, l3, l4, l5, l6, l7, l8, l9, l10], [.int i1, .ref k0], h) Q = Tr sc d 234 (42, [some (.ref xk), l1, l2, l3, l4, l5, l6, l7, l8, l9, l10], [.ref xk, .int i1, .ref k0], h) Q := t_aload_n k_234_41 rfl
theorem k_234_42 : lk 234 42 = some (.getfield 84, 45, 10, 45, .null) := by decide +kernel
theorem x_234_42 : Tr sc d 234 (42, [l0, l1, l2, l3, l4, l5, l6, l7, l8, l9, l10], [.ref k2, .int i1, .ref k0], h) Q = (okp h k2 10 = true ∧ ∃ q, hR h k2 45 = some q ∧ Tr sc d 234 (45, [l0, l1, l2, l3, l4, l5, l6, l7, l8, l9, l10], [.ref q, .int i1, .ref k0], h) Q) := t_getr k_234_42
theorem k_234_45 : lk 234 45 = some (.iload 4, 47, 4, 0, .null) := by decide +kernel
theorem x_234_45 : Tr sc d 234 (45, [l0, l1, l2, l3, some (.int x), l5, l6, l7, l8, l9, l10], [.ref k2, .int i1, .ref k0], h) Q = Tr sc d 234 (47, [l0, l1, l2, l3, some (.int x), l5, l6, l7, l8, l9, l10], [.int x, .ref k2, .int i1, .ref k0], h) Q := t_iload k_234_45 rfl
theorem k_234_47 : lk 234 47 = some (.baload, 48, 0, 0, .null) := by decide +kernel
theorem x_234_47 : Tr sc d 234 (47, [l0, l1, l2, l3, l4, l5, l6, l7, l8, l9, l10], [.int i3, .ref k2, .int i1, .ref k0], h) Q = ((okp h k2 13 && inb i3 (LN k2)) = true ∧ Tr sc d 234 (48, [l0, l1, l2, l3, l4, l5, l6, l7, l8, l9, l10], [.int (hI h k2 i3.toNatClampNeg), .int i1, .ref k0], h) Q) := t_gd k_234_47 rfl
theorem k_234_48 : lk 234 48 = some (.ifCond .eq 7, 51, 55, 0, .null) := by decide +kernel
theorem x_234_48 : Tr sc d 234 (48, [l0, l1, l2, l3, l4, l5, l6, l7, l8, l9, l10], [.int i2, .int i1, .ref k0], h) Q = if i2 = 0 then Tr sc d 234 (55, [l0, l1, l2, l3, l4, l5, l6, l7, l8, l9, l10], [.int i1, .ref k0], h) Q else Tr sc d 234 (51, [l0, l1, l2, l3, l4, l5, l6, l7, l8, l9, l10], [.int i1, .ref k0], h) Q := t_if k_234_48 rfl
theorem k_234_51 : lk 234 51 = some (.lconst 1, 52, 0, 0, .long 1) := by decide +kernel
theorem x_234_51 : Tr sc d 234 (51, [l0, l1, l2, l3, l4, l5, l6, l7, l8, l9, l10], [.int i1, .ref k0], h) Q = Tr sc d 234 (52, [l0, l1, l2, l3, l4, l5, l6, l7, l8, l9, l10], [.long 1, .int i1, .ref k0], h) Q := t_go k_234_51 rfl
theorem k_234_52 : lk 234 52 = some (.goto 4, 55, 56, 0, .null) := by decide +kernel
theorem x_234_52 : Tr sc d 234 (52, [l0, l1, l2, l3, l4, l5, l6, l7, l8, l9, l10], [.long j2, .int i1, .ref k0], h) Q = Tr sc d 234 (56, [l0, l1, l2, l3, l4, l5, l6, l7, l8, l9, l10], [.long j2, .int i1, .ref k0], h) Q := t_go k_234_52 rfl
theorem k_234_55 : lk 234 55 = some (.lconst 0, 56, 0, 0, .long 0) := by decide +kernel
theorem x_234_55 : Tr sc d 234 (55, [l0, l1, l2, l3, l4, l5, l6, l7, l8, l9, l10], [.int i1, .ref k0], h) Q = Tr sc d 234 (56, [l0, l1, l2, l3, l4, l5, l6, l7, l8, l9, l10], [.long 0, .int i1, .ref k0], h) Q := t_go k_234_55 rfl
theorem k_234_56 : lk 234 56 = some (.lastore, 57, 0, 0, .null) := by decide +kernel
theorem x_234_56 : Tr sc d 234 (56, [l0, l1, l2, l3, l4, l5, l6, l7, l8, l9, l10], [.long j2, .int i1, .ref k0], h) Q = ((okp h k0 12 && inb i1 (LN k0)) = true ∧ Tr sc d 234 (57, [l0, l1, l2, l3, l4, l5, l6, l7, l8, l9, l10], [], (sL h k0 i1.toNatClampNeg j2)) Q) := t_gd k_234_56 rfl
theorem k_234_57 : lk 234 57 = some (.iinc 4 1, 60, 4, 0, .int 1) := by decide +kernel
theorem x_234_57 : Tr sc d 234 (57, [l0, l1, l2, l3, some (.int x), l5, l6, l7, l8, l9, l10], [], h) Q = Tr sc d 234 (60, [l0, l1, l2, cl2 l3, some (.int (x + 1)), l5, l6, l7, l8, l9, l10], [], h) Q := t_inc k_234_57 rfl (Nat.le_of_ble_eq_true rfl)
theorem k_234_60 : lk 234 60 = some (.goto (-33), 63, 27, 0, .null) := by decide +kernel
theorem x_234_60 : Tr sc d 234 (60, [l0, l1, l2, l3, l4, l5, l6, l7, l8, l9, l10], [], h) Q = Tr sc d 234 (27, [l0, l1, l2, l3, l4, l5, l6, l7, l8, l9, l10], [], h) Q := t_go k_234_60 rfl
theorem k_234_63 : lk 234 63 = some (.iconst 0, 64, 0, 0, .int 0) := by decide +kernel
theorem x_234_63 : Tr sc d 234 (63, [l0, l1, l2, l3, l4, l5, l6, l7, l8, l9, l10], [], h) Q = Tr sc d 234 (64, [l0, l1, l2, l3, l4, l5, l6, l7, l8, l9, l10], [.int 0], h) Q := t_go k_234_63 rfl
theorem k_234_64 : lk 234 64 = some (.istore 4, 66, 4, 0, .null) := by decide +kernel
theorem x_234_64 : Tr sc d 234 (64, [l0, l1, l2, l3, l4, l5, l6, l7, l8, l9, l10], [.int i0], h) Q = Tr sc d 234 (66, [l0, l1, l2, cl2 l3, some (.int i0), l5, l6, l7, l8, l9, l10], [], h) Q := t_istore k_234_64 (Nat.le_of_ble_eq_true rfl)
theorem k_234_66 : lk 234 66 = some (.iload 4, 68, 4, 0, .null) := by decide +kernel
theorem x_234_66 : Tr sc d 234 (66, [l0, l1, l2, l3, some (.int x), l5, l6, l7, l8, l9, l10], [], h) Q = Tr sc d 234 (68, [l0, l1, l2, l3, some (.int x), l5, l6, l7, l8, l9, l10], [.int x], h) Q := t_iload k_234_66 rfl
theorem k_234_68 : lk 234 68 = some (.iload_n 2, 69, 2, 0, .null) := by decide +kernel
theorem x_234_68 : Tr sc d 234 (68, [l0, l1, some (.int x), l3, l4, l5, l6, l7, l8, l9, l10], [.int i0], h) Q = Tr sc d 234 (69, [l0, l1, some (.int x), l3, l4, l5, l6, l7, l8, l9, l10], [.int x, .int i0], h) Q := t_iload_n k_234_68 rfl
theorem k_234_69 : lk 234 69 = some (.if_icmp .ge 237, 72, 306, 0, .null) := by decide +kernel
theorem x_234_69 : Tr sc d 234 (69, [l0, l1, l2, l3, l4, l5, l6, l7, l8, l9, l10], [.int i1, .int i0], h) Q = if i1 ≤ i0 then Tr sc d 234 (306, [l0, l1, l2, l3, l4, l5, l6, l7, l8, l9, l10], [], h) Q else Tr sc d 234 (72, [l0, l1, l2, l3, l4, l5, l6, l7, l8, l9, l10], [], h) Q := t_if k_234_69 rfl
theorem k_234_72 : lk 234 72 = some (.iconst 0, 73, 0, 0, .int 0) := by decide +kernel
theorem x_234_72 : Tr sc d 234 (72, [l0, l1, l2, l3, l4, l5, l6, l7, l8, l9, l10], [], h) Q = Tr sc d 234 (73, [l0, l1, l2, l3, l4, l5, l6, l7, l8, l9, l10], [.int 0], h) Q := t_go k_234_72 rfl
theorem k_234_73 : lk 234 73 = some (.istore 5, 75, 5, 0, .null) := by decide +kernel
theorem x_234_73 : Tr sc d 234 (73, [l0, l1, l2, l3, l4, l5, l6, l7, l8, l9, l10], [.int i0], h) Q = Tr sc d 234 (75, [l0, l1, l2, l3, cl2 l4, some (.int i0), l6, l7, l8, l9, l10], [], h) Q := t_istore k_234_73 (Nat.le_of_ble_eq_true rfl)
theorem k_234_75 : lk 234 75 = some (.iload 5, 77, 5, 0, .null) := by decide +kernel
theorem x_234_75 : Tr sc d 234 (75, [l0, l1, l2, l3, l4, some (.int x), l6, l7, l8, l9, l10], [], h) Q = Tr sc d 234 (77, [l0, l1, l2, l3, l4, some (.int x), l6, l7, l8, l9, l10], [.int x], h) Q := t_iload k_234_75 rfl
theorem k_234_77 : lk 234 77 = some (.sipush 1369, 80, 0, 0, .int 1369) := by decide +kernel
theorem x_234_77 : Tr sc d 234 (77, [l0, l1, l2, l3, l4, l5, l6, l7, l8, l9, l10], [.int i0], h) Q = Tr sc d 234 (80, [l0, l1, l2, l3, l4, l5, l6, l7, l8, l9, l10], [.int 1369, .int i0], h) Q := t_go k_234_77 rfl
theorem k_234_80 : lk 234 80 = some (.if_icmp .ge 189, 83, 269, 0, .null) := by decide +kernel
theorem x_234_80 : Tr sc d 234 (80, [l0, l1, l2, l3, l4, l5, l6, l7, l8, l9, l10], [.int i1, .int i0], h) Q = if i1 ≤ i0 then Tr sc d 234 (269, [l0, l1, l2, l3, l4, l5, l6, l7, l8, l9, l10], [], h) Q else Tr sc d 234 (83, [l0, l1, l2, l3, l4, l5, l6, l7, l8, l9, l10], [], h) Q := t_if k_234_80 rfl
theorem k_234_83 : lk 234 83 = some (.aload_n 0, 84, 0, 0, .null) := by decide +kernel
theorem x_234_83 : Tr sc d 234 (83, [some (.ref xk), l1, l2, l3, l4, l5, l6, l7, l8, l9, l10], [], h) Q = Tr sc d 234 (84, [some (.ref xk), l1, l2, l3, l4, l5, l6, l7, l8, l9, l10], [.ref xk], h) Q := t_aload_n k_234_83 rfl
theorem k_234_84 : lk 234 84 = some (.getfield 119, 87, 10, 57, .null) := by decide +kernel
theorem x_234_84 : Tr sc d 234 (84, [l0, l1, l2, l3, l4, l5, l6, l7, l8, l9, l10], [.ref k0], h) Q = (okp h k0 10 = true ∧ ∃ q, hR h k0 57 = some q ∧ Tr sc d 234 (87, [l0, l1, l2, l3, l4, l5, l6, l7, l8, l9, l10], [.ref q], h) Q) := t_getr k_234_84
theorem k_234_87 : lk 234 87 = some (.iload 5, 89, 5, 0, .null) := by decide +kernel
theorem x_234_87 : Tr sc d 234 (87, [l0, l1, l2, l3, l4, some (.int x), l6, l7, l8, l9, l10], [.ref k0], h) Q = Tr sc d 234 (89, [l0, l1, l2, l3, l4, some (.int x), l6, l7, l8, l9, l10], [.int x, .ref k0], h) Q := t_iload k_234_87 rfl
theorem k_234_89 : lk 234 89 = some (.lconst 0, 90, 0, 0, .long 0) := by decide +kernel
theorem x_234_89 : Tr sc d 234 (89, [l0, l1, l2, l3, l4, l5, l6, l7, l8, l9, l10], [.int i1, .ref k0], h) Q = Tr sc d 234 (90, [l0, l1, l2, l3, l4, l5, l6, l7, l8, l9, l10], [.long 0, .int i1, .ref k0], h) Q := t_go k_234_89 rfl
theorem k_234_90 : lk 234 90 = some (.lastore, 91, 0, 0, .null) := by decide +kernel
theorem x_234_90 : Tr sc d 234 (90, [l0, l1, l2, l3, l4, l5, l6, l7, l8, l9, l10], [.long j2, .int i1, .ref k0], h) Q = ((okp h k0 12 && inb i1 (LN k0)) = true ∧ Tr sc d 234 (91, [l0, l1, l2, l3, l4, l5, l6, l7, l8, l9, l10], [], (sL h k0 i1.toNatClampNeg j2)) Q) := t_gd k_234_90 rfl
theorem k_234_91 : lk 234 91 = some (.iconst 0, 92, 0, 0, .int 0) := by decide +kernel
theorem x_234_91 : Tr sc d 234 (91, [l0, l1, l2, l3, l4, l5, l6, l7, l8, l9, l10], [], h) Q = Tr sc d 234 (92, [l0, l1, l2, l3, l4, l5, l6, l7, l8, l9, l10], [.int 0], h) Q := t_go k_234_91 rfl
theorem k_234_92 : lk 234 92 = some (.istore 6, 94, 6, 0, .null) := by decide +kernel
theorem x_234_92 : Tr sc d 234 (92, [l0, l1, l2, l3, l4, l5, l6, l7, l8, l9, l10], [.int i0], h) Q = Tr sc d 234 (94, [l0, l1, l2, l3, l4, cl2 l5, some (.int i0), l7, l8, l9, l10], [], h) Q := t_istore k_234_92 (Nat.le_of_ble_eq_true rfl)
theorem k_234_94 : lk 234 94 = some (.iload 6, 96, 6, 0, .null) := by decide +kernel
theorem x_234_94 : Tr sc d 234 (94, [l0, l1, l2, l3, l4, l5, some (.int x), l7, l8, l9, l10], [], h) Q = Tr sc d 234 (96, [l0, l1, l2, l3, l4, l5, some (.int x), l7, l8, l9, l10], [.int x], h) Q := t_iload k_234_94 rfl
theorem k_234_96 : lk 234 96 = some (.aload_n 0, 97, 0, 0, .null) := by decide +kernel
theorem x_234_96 : Tr sc d 234 (96, [some (.ref xk), l1, l2, l3, l4, l5, l6, l7, l8, l9, l10], [.int i0], h) Q = Tr sc d 234 (97, [some (.ref xk), l1, l2, l3, l4, l5, l6, l7, l8, l9, l10], [.ref xk, .int i0], h) Q := t_aload_n k_234_96 rfl
theorem k_234_97 : lk 234 97 = some (.getfield 41, 100, 10, 18, .null) := by decide +kernel
theorem x_234_97 : Tr sc d 234 (97, [l0, l1, l2, l3, l4, l5, l6, l7, l8, l9, l10], [.ref k1, .int i0], h) Q = (okp h k1 10 = true ∧ ∃ q, hR h k1 18 = some q ∧ Tr sc d 234 (100, [l0, l1, l2, l3, l4, l5, l6, l7, l8, l9, l10], [.ref q, .int i0], h) Q) := t_getr k_234_97
theorem k_234_100 : lk 234 100 = some (.iload_n 1, 101, 1, 0, .null) := by decide +kernel
theorem x_234_100 : Tr sc d 234 (100, [l0, some (.int x), l2, l3, l4, l5, l6, l7, l8, l9, l10], [.ref k1, .int i0], h) Q = Tr sc d 234 (101, [l0, some (.int x), l2, l3, l4, l5, l6, l7, l8, l9, l10], [.int x, .ref k1, .int i0], h) Q := t_iload_n k_234_100 rfl
theorem k_234_101 : lk 234 101 = some (.iaload, 102, 0, 0, .null) := by decide +kernel
theorem x_234_101 : Tr sc d 234 (101, [l0, l1, l2, l3, l4, l5, l6, l7, l8, l9, l10], [.int i2, .ref k1, .int i0], h) Q = (iOk sc h k1 i2 ∧ Tr sc d 234 (102, [l0, l1, l2, l3, l4, l5, l6, l7, l8, l9, l10], [.int (iRd sc h k1 i2), .int i0], h) Q) := t_iald k_234_101
theorem k_234_102 : lk 234 102 = some (.aload_n 0, 103, 0, 0, .null) := by decide +kernel
theorem x_234_102 : Tr sc d 234 (102, [some (.ref xk), l1, l2, l3, l4, l5, l6, l7, l8, l9, l10], [.int i1, .int i0], h) Q = Tr sc d 234 (103, [some (.ref xk), l1, l2, l3, l4, l5, l6, l7, l8, l9, l10], [.ref xk, .int i1, .int i0], h) Q := t_aload_n k_234_102 rfl
theorem k_234_103 : lk 234 103 = some (.getfield 41, 106, 10, 18, .null) := by decide +kernel
theorem x_234_103 : Tr sc d 234 (103, [l0, l1, l2, l3, l4, l5, l6, l7, l8, l9, l10], [.ref k2, .int i1, .int i0], h) Q = (okp h k2 10 = true ∧ ∃ q, hR h k2 18 = some q ∧ Tr sc d 234 (106, [l0, l1, l2, l3, l4, l5, l6, l7, l8, l9, l10], [.ref q, .int i1, .int i0], h) Q) := t_getr k_234_103
theorem k_234_106 : lk 234 106 = some (.iload_n 1, 107, 1, 0, .null) := by decide +kernel
theorem x_234_106 : Tr sc d 234 (106, [l0, some (.int x), l2, l3, l4, l5, l6, l7, l8, l9, l10], [.ref k2, .int i1, .int i0], h) Q = Tr sc d 234 (107, [l0, some (.int x), l2, l3, l4, l5, l6, l7, l8, l9, l10], [.int x, .ref k2, .int i1, .int i0], h) Q := t_iload_n k_234_106 rfl
theorem k_234_107 : lk 234 107 = some (.iaload, 108, 0, 0, .null) := by decide +kernel
theorem x_234_107 : Tr sc d 234 (107, [l0, l1, l2, l3, l4, l5, l6, l7, l8, l9, l10], [.int i3, .ref k2, .int i1, .int i0], h) Q = (iOk sc h k2 i3 ∧ Tr sc d 234 (108, [l0, l1, l2, l3, l4, l5, l6, l7, l8, l9, l10], [.int (iRd sc h k2 i3), .int i1, .int i0], h) Q) := t_iald k_234_107
theorem k_234_108 : lk 234 108 = some (.imul, 109, 0, 0, .null) := by decide +kernel
theorem x_234_108 : Tr sc d 234 (108, [l0, l1, l2, l3, l4, l5, l6, l7, l8, l9, l10], [.int i2, .int i1, .int i0], h) Q = Tr sc d 234 (109, [l0, l1, l2, l3, l4, l5, l6, l7, l8, l9, l10], [.int (i1 * i2), .int i0], h) Q := t_go k_234_108 rfl
theorem k_234_109 : lk 234 109 = some (.if_icmp .ge 154, 112, 263, 0, .null) := by decide +kernel
theorem x_234_109 : Tr sc d 234 (109, [l0, l1, l2, l3, l4, l5, l6, l7, l8, l9, l10], [.int i1, .int i0], h) Q = if i1 ≤ i0 then Tr sc d 234 (263, [l0, l1, l2, l3, l4, l5, l6, l7, l8, l9, l10], [], h) Q else Tr sc d 234 (112, [l0, l1, l2, l3, l4, l5, l6, l7, l8, l9, l10], [], h) Q := t_if k_234_109 rfl
theorem k_234_112 : lk 234 112 = some (.aload_n 0, 113, 0, 0, .null) := by decide +kernel
theorem x_234_112 : Tr sc d 234 (112, [some (.ref xk), l1, l2, l3, l4, l5, l6, l7, l8, l9, l10], [], h) Q = Tr sc d 234 (113, [some (.ref xk), l1, l2, l3, l4, l5, l6, l7, l8, l9, l10], [.ref xk], h) Q := t_aload_n k_234_112 rfl
theorem k_234_113 : lk 234 113 = some (.getfield 84, 116, 10, 45, .null) := by decide +kernel
theorem x_234_113 : Tr sc d 234 (113, [l0, l1, l2, l3, l4, l5, l6, l7, l8, l9, l10], [.ref k0], h) Q = (okp h k0 10 = true ∧ ∃ q, hR h k0 45 = some q ∧ Tr sc d 234 (116, [l0, l1, l2, l3, l4, l5, l6, l7, l8, l9, l10], [.ref q], h) Q) := t_getr k_234_113
theorem k_234_116 : lk 234 116 = some (.iload 5, 118, 5, 0, .null) := by decide +kernel
theorem x_234_116 : Tr sc d 234 (116, [l0, l1, l2, l3, l4, some (.int x), l6, l7, l8, l9, l10], [.ref k0], h) Q = Tr sc d 234 (118, [l0, l1, l2, l3, l4, some (.int x), l6, l7, l8, l9, l10], [.int x, .ref k0], h) Q := t_iload k_234_116 rfl
theorem k_234_118 : lk 234 118 = some (.baload, 119, 0, 0, .null) := by decide +kernel
theorem x_234_118 : Tr sc d 234 (118, [l0, l1, l2, l3, l4, l5, l6, l7, l8, l9, l10], [.int i1, .ref k0], h) Q = ((okp h k0 13 && inb i1 (LN k0)) = true ∧ Tr sc d 234 (119, [l0, l1, l2, l3, l4, l5, l6, l7, l8, l9, l10], [.int (hI h k0 i1.toNatClampNeg)], h) Q) := t_gd k_234_118 rfl
theorem k_234_119 : lk 234 119 = some (.ifCond .eq 144, 122, 263, 0, .null) := by decide +kernel
theorem x_234_119 : Tr sc d 234 (119, [l0, l1, l2, l3, l4, l5, l6, l7, l8, l9, l10], [.int i0], h) Q = if i0 = 0 then Tr sc d 234 (263, [l0, l1, l2, l3, l4, l5, l6, l7, l8, l9, l10], [], h) Q else Tr sc d 234 (122, [l0, l1, l2, l3, l4, l5, l6, l7, l8, l9, l10], [], h) Q := t_if k_234_119 rfl
theorem k_234_122 : lk 234 122 = some (.bipush 6, 124, 0, 0, .int 6) := by decide +kernel
theorem x_234_122 : Tr sc d 234 (122, [l0, l1, l2, l3, l4, l5, l6, l7, l8, l9, l10], [], h) Q = Tr sc d 234 (124, [l0, l1, l2, l3, l4, l5, l6, l7, l8, l9, l10], [.int 6], h) Q := t_go k_234_122 rfl
theorem k_234_124 : lk 234 124 = some (.iload_n 1, 125, 1, 0, .null) := by decide +kernel
theorem x_234_124 : Tr sc d 234 (124, [l0, some (.int x), l2, l3, l4, l5, l6, l7, l8, l9, l10], [.int i0], h) Q = Tr sc d 234 (125, [l0, some (.int x), l2, l3, l4, l5, l6, l7, l8, l9, l10], [.int x, .int i0], h) Q := t_iload_n k_234_124 rfl
theorem k_234_125 : lk 234 125 = some (.imul, 126, 0, 0, .null) := by decide +kernel
theorem x_234_125 : Tr sc d 234 (125, [l0, l1, l2, l3, l4, l5, l6, l7, l8, l9, l10], [.int i1, .int i0], h) Q = Tr sc d 234 (126, [l0, l1, l2, l3, l4, l5, l6, l7, l8, l9, l10], [.int (i0 * i1)], h) Q := t_go k_234_125 rfl
theorem k_234_126 : lk 234 126 = some (.iload 6, 128, 6, 0, .null) := by decide +kernel
theorem x_234_126 : Tr sc d 234 (126, [l0, l1, l2, l3, l4, l5, some (.int x), l7, l8, l9, l10], [.int i0], h) Q = Tr sc d 234 (128, [l0, l1, l2, l3, l4, l5, some (.int x), l7, l8, l9, l10], [.int x, .int i0], h) Q := t_iload k_234_126 rfl
theorem k_234_128 : lk 234 128 = some (.aload_n 0, 129, 0, 0, .null) := by decide +kernel
theorem x_234_128 : Tr sc d 234 (128, [some (.ref xk), l1, l2, l3, l4, l5, l6, l7, l8, l9, l10], [.int i1, .int i0], h) Q = Tr sc d 234 (129, [some (.ref xk), l1, l2, l3, l4, l5, l6, l7, l8, l9, l10], [.ref xk, .int i1, .int i0], h) Q := t_aload_n k_234_128 rfl
theorem k_234_129 : lk 234 129 = some (.getfield 41, 132, 10, 18, .null) := by decide +kernel
theorem x_234_129 : Tr sc d 234 (129, [l0, l1, l2, l3, l4, l5, l6, l7, l8, l9, l10], [.ref k2, .int i1, .int i0], h) Q = (okp h k2 10 = true ∧ ∃ q, hR h k2 18 = some q ∧ Tr sc d 234 (132, [l0, l1, l2, l3, l4, l5, l6, l7, l8, l9, l10], [.ref q, .int i1, .int i0], h) Q) := t_getr k_234_129
theorem k_234_132 : lk 234 132 = some (.iload_n 1, 133, 1, 0, .null) := by decide +kernel
theorem x_234_132 : Tr sc d 234 (132, [l0, some (.int x), l2, l3, l4, l5, l6, l7, l8, l9, l10], [.ref k2, .int i1, .int i0], h) Q = Tr sc d 234 (133, [l0, some (.int x), l2, l3, l4, l5, l6, l7, l8, l9, l10], [.int x, .ref k2, .int i1, .int i0], h) Q := t_iload_n k_234_132 rfl
theorem k_234_133 : lk 234 133 = some (.iaload, 134, 0, 0, .null) := by decide +kernel
theorem x_234_133 : Tr sc d 234 (133, [l0, l1, l2, l3, l4, l5, l6, l7, l8, l9, l10], [.int i3, .ref k2, .int i1, .int i0], h) Q = (iOk sc h k2 i3 ∧ Tr sc d 234 (134, [l0, l1, l2, l3, l4, l5, l6, l7, l8, l9, l10], [.int (iRd sc h k2 i3), .int i1, .int i0], h) Q) := t_iald k_234_133
theorem k_234_134 : lk 234 134 = some (.idiv, 135, 0, 0, .null) := by decide +kernel
theorem x_234_134 : Tr sc d 234 (134, [l0, l1, l2, l3, l4, l5, l6, l7, l8, l9, l10], [.int i2, .int i1, .int i0], h) Q = (¬ i2 = 0 ∧ Tr sc d 234 (135, [l0, l1, l2, l3, l4, l5, l6, l7, l8, l9, l10], [.int (i1 / i2), .int i0], h) Q) := t_ng k_234_134 rfl
theorem k_234_135 : lk 234 135 = some (.iadd, 136, 0, 0, .null) := by decide +kernel
theorem x_234_135 : Tr sc d 234 (135, [l0, l1, l2, l3, l4, l5, l6, l7, l8, l9, l10], [.int i1, .int i0], h) Q = Tr sc d 234 (136, [l0, l1, l2, l3, l4, l5, l6, l7, l8, l9, l10], [.int (i0 + i1)], h) Q := t_go k_234_135 rfl
theorem k_234_136 : lk 234 136 = some (.istore 7, 138, 7, 0, .null) := by decide +kernel
theorem x_234_136 : Tr sc d 234 (136, [l0, l1, l2, l3, l4, l5, l6, l7, l8, l9, l10], [.int i0], h) Q = Tr sc d 234 (138, [l0, l1, l2, l3, l4, l5, cl2 l6, some (.int i0), l8, l9, l10], [], h) Q := t_istore k_234_136 (Nat.le_of_ble_eq_true rfl)
theorem k_234_138 : lk 234 138 = some (.bipush 6, 140, 0, 0, .int 6) := by decide +kernel
theorem x_234_138 : Tr sc d 234 (138, [l0, l1, l2, l3, l4, l5, l6, l7, l8, l9, l10], [], h) Q = Tr sc d 234 (140, [l0, l1, l2, l3, l4, l5, l6, l7, l8, l9, l10], [.int 6], h) Q := t_go k_234_138 rfl
theorem k_234_140 : lk 234 140 = some (.iload_n 1, 141, 1, 0, .null) := by decide +kernel
theorem x_234_140 : Tr sc d 234 (140, [l0, some (.int x), l2, l3, l4, l5, l6, l7, l8, l9, l10], [.int i0], h) Q = Tr sc d 234 (141, [l0, some (.int x), l2, l3, l4, l5, l6, l7, l8, l9, l10], [.int x, .int i0], h) Q := t_iload_n k_234_140 rfl
theorem k_234_141 : lk 234 141 = some (.imul, 142, 0, 0, .null) := by decide +kernel
theorem x_234_141 : Tr sc d 234 (141, [l0, l1, l2, l3, l4, l5, l6, l7, l8, l9, l10], [.int i1, .int i0], h) Q = Tr sc d 234 (142, [l0, l1, l2, l3, l4, l5, l6, l7, l8, l9, l10], [.int (i0 * i1)], h) Q := t_go k_234_141 rfl
theorem k_234_142 : lk 234 142 = some (.iload 6, 144, 6, 0, .null) := by decide +kernel
theorem x_234_142 : Tr sc d 234 (142, [l0, l1, l2, l3, l4, l5, some (.int x), l7, l8, l9, l10], [.int i0], h) Q = Tr sc d 234 (144, [l0, l1, l2, l3, l4, l5, some (.int x), l7, l8, l9, l10], [.int x, .int i0], h) Q := t_iload k_234_142 rfl
theorem k_234_144 : lk 234 144 = some (.aload_n 0, 145, 0, 0, .null) := by decide +kernel
theorem x_234_144 : Tr sc d 234 (144, [some (.ref xk), l1, l2, l3, l4, l5, l6, l7, l8, l9, l10], [.int i1, .int i0], h) Q = Tr sc d 234 (145, [some (.ref xk), l1, l2, l3, l4, l5, l6, l7, l8, l9, l10], [.ref xk, .int i1, .int i0], h) Q := t_aload_n k_234_144 rfl
theorem k_234_145 : lk 234 145 = some (.getfield 41, 148, 10, 18, .null) := by decide +kernel
theorem x_234_145 : Tr sc d 234 (145, [l0, l1, l2, l3, l4, l5, l6, l7, l8, l9, l10], [.ref k2, .int i1, .int i0], h) Q = (okp h k2 10 = true ∧ ∃ q, hR h k2 18 = some q ∧ Tr sc d 234 (148, [l0, l1, l2, l3, l4, l5, l6, l7, l8, l9, l10], [.ref q, .int i1, .int i0], h) Q) := t_getr k_234_145
theorem k_234_148 : lk 234 148 = some (.iload_n 1, 149, 1, 0, .null) := by decide +kernel
theorem x_234_148 : Tr sc d 234 (148, [l0, some (.int x), l2, l3, l4, l5, l6, l7, l8, l9, l10], [.ref k2, .int i1, .int i0], h) Q = Tr sc d 234 (149, [l0, some (.int x), l2, l3, l4, l5, l6, l7, l8, l9, l10], [.int x, .ref k2, .int i1, .int i0], h) Q := t_iload_n k_234_148 rfl
theorem k_234_149 : lk 234 149 = some (.iaload, 150, 0, 0, .null) := by decide +kernel
theorem x_234_149 : Tr sc d 234 (149, [l0, l1, l2, l3, l4, l5, l6, l7, l8, l9, l10], [.int i3, .ref k2, .int i1, .int i0], h) Q = (iOk sc h k2 i3 ∧ Tr sc d 234 (150, [l0, l1, l2, l3, l4, l5, l6, l7, l8, l9, l10], [.int (iRd sc h k2 i3), .int i1, .int i0], h) Q) := t_iald k_234_149
theorem k_234_150 : lk 234 150 = some (.irem, 151, 0, 0, .null) := by decide +kernel
theorem x_234_150 : Tr sc d 234 (150, [l0, l1, l2, l3, l4, l5, l6, l7, l8, l9, l10], [.int i2, .int i1, .int i0], h) Q = (¬ i2 = 0 ∧ Tr sc d 234 (151, [l0, l1, l2, l3, l4, l5, l6, l7, l8, l9, l10], [.int (i1 - i1 / i2 * i2), .int i0], h) Q) := t_ng k_234_150 rfl
theorem k_234_151 : lk 234 151 = some (.iadd, 152, 0, 0, .null) := by decide +kernel
theorem x_234_151 : Tr sc d 234 (151, [l0, l1, l2, l3, l4, l5, l6, l7, l8, l9, l10], [.int i1, .int i0], h) Q = Tr sc d 234 (152, [l0, l1, l2, l3, l4, l5, l6, l7, l8, l9, l10], [.int (i0 + i1)], h) Q := t_go k_234_151 rfl
theorem k_234_152 : lk 234 152 = some (.istore 8, 154, 8, 0, .null) := by decide +kernel
theorem x_234_152 : Tr sc d 234 (152, [l0, l1, l2, l3, l4, l5, l6, l7, l8, l9, l10], [.int i0], h) Q = Tr sc d 234 (154, [l0, l1, l2, l3, l4, l5, l6, cl2 l7, some (.int i0), l9, l10], [], h) Q := t_istore k_234_152 (Nat.le_of_ble_eq_true rfl)
theorem k_234_154 : lk 234 154 = some (.aload_n 0, 155, 0, 0, .null) := by decide +kernel
theorem x_234_154 : Tr sc d 234 (154, [some (.ref xk), l1, l2, l3, l4, l5, l6, l7, l8, l9, l10], [], h) Q = Tr sc d 234 (155, [some (.ref xk), l1, l2, l3, l4, l5, l6, l7, l8, l9, l10], [.ref xk], h) Q := t_aload_n k_234_154 rfl
theorem k_234_155 : lk 234 155 = some (.getfield 38, 158, 10, 17, .null) := by decide +kernel
theorem x_234_155 : Tr sc d 234 (155, [l0, l1, l2, l3, l4, l5, l6, l7, l8, l9, l10], [.ref k0], h) Q = (okp h k0 10 = true ∧ ∃ q, hR h k0 17 = some q ∧ Tr sc d 234 (158, [l0, l1, l2, l3, l4, l5, l6, l7, l8, l9, l10], [.ref q], h) Q) := t_getr k_234_155
theorem k_234_158 : lk 234 158 = some (.iload_n 1, 159, 1, 0, .null) := by decide +kernel
theorem x_234_158 : Tr sc d 234 (158, [l0, some (.int x), l2, l3, l4, l5, l6, l7, l8, l9, l10], [.ref k0], h) Q = Tr sc d 234 (159, [l0, some (.int x), l2, l3, l4, l5, l6, l7, l8, l9, l10], [.int x, .ref k0], h) Q := t_iload_n k_234_158 rfl
theorem k_234_159 : lk 234 159 = some (.iaload, 160, 0, 0, .null) := by decide +kernel
theorem x_234_159 : Tr sc d 234 (159, [l0, l1, l2, l3, l4, l5, l6, l7, l8, l9, l10], [.int i1, .ref k0], h) Q = (iOk sc h k0 i1 ∧ Tr sc d 234 (160, [l0, l1, l2, l3, l4, l5, l6, l7, l8, l9, l10], [.int (iRd sc h k0 i1)], h) Q) := t_iald k_234_159
theorem k_234_160 : lk 234 160 = some (.iload 5, 162, 5, 0, .null) := by decide +kernel
theorem x_234_160 : Tr sc d 234 (160, [l0, l1, l2, l3, l4, some (.int x), l6, l7, l8, l9, l10], [.int i0], h) Q = Tr sc d 234 (162, [l0, l1, l2, l3, l4, some (.int x), l6, l7, l8, l9, l10], [.int x, .int i0], h) Q := t_iload k_234_160 rfl
theorem k_234_162 : lk 234 162 = some (.bipush 37, 164, 0, 0, .int 37) := by decide +kernel
theorem x_234_162 : Tr sc d 234 (162, [l0, l1, l2, l3, l4, l5, l6, l7, l8, l9, l10], [.int i1, .int i0], h) Q = Tr sc d 234 (164, [l0, l1, l2, l3, l4, l5, l6, l7, l8, l9, l10], [.int 37, .int i1, .int i0], h) Q := t_go k_234_162 rfl
theorem k_234_164 : lk 234 164 = some (.irem, 165, 0, 0, .null) := by decide +kernel
theorem x_234_164 : Tr sc d 234 (164, [l0, l1, l2, l3, l4, l5, l6, l7, l8, l9, l10], [.int i2, .int i1, .int i0], h) Q = (¬ i2 = 0 ∧ Tr sc d 234 (165, [l0, l1, l2, l3, l4, l5, l6, l7, l8, l9, l10], [.int (i1 - i1 / i2 * i2), .int i0], h) Q) := t_ng k_234_164 rfl
theorem k_234_165 : lk 234 165 = some (.bipush 18, 167, 0, 0, .int 18) := by decide +kernel
theorem x_234_165 : Tr sc d 234 (165, [l0, l1, l2, l3, l4, l5, l6, l7, l8, l9, l10], [.int i1, .int i0], h) Q = Tr sc d 234 (167, [l0, l1, l2, l3, l4, l5, l6, l7, l8, l9, l10], [.int 18, .int i1, .int i0], h) Q := t_go k_234_165 rfl
theorem k_234_167 : lk 234 167 = some (.isub, 168, 0, 0, .null) := by decide +kernel
theorem x_234_167 : Tr sc d 234 (167, [l0, l1, l2, l3, l4, l5, l6, l7, l8, l9, l10], [.int i2, .int i1, .int i0], h) Q = Tr sc d 234 (168, [l0, l1, l2, l3, l4, l5, l6, l7, l8, l9, l10], [.int (i1 - i2), .int i0], h) Q := t_go k_234_167 rfl
theorem k_234_168 : lk 234 168 = some (.imul, 169, 0, 0, .null) := by decide +kernel
theorem x_234_168 : Tr sc d 234 (168, [l0, l1, l2, l3, l4, l5, l6, l7, l8, l9, l10], [.int i1, .int i0], h) Q = Tr sc d 234 (169, [l0, l1, l2, l3, l4, l5, l6, l7, l8, l9, l10], [.int (i0 * i1)], h) Q := t_go k_234_168 rfl
theorem k_234_169 : lk 234 169 = some (.aload_n 0, 170, 0, 0, .null) := by decide +kernel
theorem x_234_169 : Tr sc d 234 (169, [some (.ref xk), l1, l2, l3, l4, l5, l6, l7, l8, l9, l10], [.int i0], h) Q = Tr sc d 234 (170, [some (.ref xk), l1, l2, l3, l4, l5, l6, l7, l8, l9, l10], [.ref xk, .int i0], h) Q := t_aload_n k_234_169 rfl
theorem k_234_170 : lk 234 170 = some (.getfield 47, 173, 10, 20, .null) := by decide +kernel
theorem x_234_170 : Tr sc d 234 (170, [l0, l1, l2, l3, l4, l5, l6, l7, l8, l9, l10], [.ref k1, .int i0], h) Q = (okp h k1 10 = true ∧ ∃ q, hR h k1 20 = some q ∧ Tr sc d 234 (173, [l0, l1, l2, l3, l4, l5, l6, l7, l8, l9, l10], [.ref q, .int i0], h) Q) := t_getr k_234_170
theorem k_234_173 : lk 234 173 = some (.iload 8, 175, 8, 0, .null) := by decide +kernel
theorem x_234_173 : Tr sc d 234 (173, [l0, l1, l2, l3, l4, l5, l6, l7, some (.int x), l9, l10], [.ref k1, .int i0], h) Q = Tr sc d 234 (175, [l0, l1, l2, l3, l4, l5, l6, l7, some (.int x), l9, l10], [.int x, .ref k1, .int i0], h) Q := t_iload k_234_173 rfl
theorem k_234_175 : lk 234 175 = some (.iaload, 176, 0, 0, .null) := by decide +kernel
theorem x_234_175 : Tr sc d 234 (175, [l0, l1, l2, l3, l4, l5, l6, l7, l8, l9, l10], [.int i2, .ref k1, .int i0], h) Q = (iOk sc h k1 i2 ∧ Tr sc d 234 (176, [l0, l1, l2, l3, l4, l5, l6, l7, l8, l9, l10], [.int (iRd sc h k1 i2), .int i0], h) Q) := t_iald k_234_175
theorem k_234_176 : lk 234 176 = some (.iadd, 177, 0, 0, .null) := by decide +kernel
theorem x_234_176 : Tr sc d 234 (176, [l0, l1, l2, l3, l4, l5, l6, l7, l8, l9, l10], [.int i1, .int i0], h) Q = Tr sc d 234 (177, [l0, l1, l2, l3, l4, l5, l6, l7, l8, l9, l10], [.int (i0 + i1)], h) Q := t_go k_234_176 rfl
theorem k_234_177 : lk 234 177 = some (.aload_n 0, 178, 0, 0, .null) := by decide +kernel
theorem x_234_177 : Tr sc d 234 (177, [some (.ref xk), l1, l2, l3, l4, l5, l6, l7, l8, l9, l10], [.int i0], h) Q = Tr sc d 234 (178, [some (.ref xk), l1, l2, l3, l4, l5, l6, l7, l8, l9, l10], [.ref xk, .int i0], h) Q := t_aload_n k_234_177 rfl
theorem k_234_178 : lk 234 178 = some (.getfield 47, 181, 10, 20, .null) := by decide +kernel
theorem x_234_178 : Tr sc d 234 (178, [l0, l1, l2, l3, l4, l5, l6, l7, l8, l9, l10], [.ref k1, .int i0], h) Q = (okp h k1 10 = true ∧ ∃ q, hR h k1 20 = some q ∧ Tr sc d 234 (181, [l0, l1, l2, l3, l4, l5, l6, l7, l8, l9, l10], [.ref q, .int i0], h) Q) := t_getr k_234_178
theorem k_234_181 : lk 234 181 = some (.iload 7, 183, 7, 0, .null) := by decide +kernel
theorem x_234_181 : Tr sc d 234 (181, [l0, l1, l2, l3, l4, l5, l6, some (.int x), l8, l9, l10], [.ref k1, .int i0], h) Q = Tr sc d 234 (183, [l0, l1, l2, l3, l4, l5, l6, some (.int x), l8, l9, l10], [.int x, .ref k1, .int i0], h) Q := t_iload k_234_181 rfl
theorem k_234_183 : lk 234 183 = some (.iaload, 184, 0, 0, .null) := by decide +kernel
theorem x_234_183 : Tr sc d 234 (183, [l0, l1, l2, l3, l4, l5, l6, l7, l8, l9, l10], [.int i2, .ref k1, .int i0], h) Q = (iOk sc h k1 i2 ∧ Tr sc d 234 (184, [l0, l1, l2, l3, l4, l5, l6, l7, l8, l9, l10], [.int (iRd sc h k1 i2), .int i0], h) Q) := t_iald k_234_183
theorem k_234_184 : lk 234 184 = some (.isub, 185, 0, 0, .null) := by decide +kernel
theorem x_234_184 : Tr sc d 234 (184, [l0, l1, l2, l3, l4, l5, l6, l7, l8, l9, l10], [.int i1, .int i0], h) Q = Tr sc d 234 (185, [l0, l1, l2, l3, l4, l5, l6, l7, l8, l9, l10], [.int (i0 - i1)], h) Q := t_go k_234_184 rfl
theorem k_234_185 : lk 234 185 = some (.istore 9, 187, 9, 0, .null) := by decide +kernel
theorem x_234_185 : Tr sc d 234 (185, [l0, l1, l2, l3, l4, l5, l6, l7, l8, l9, l10], [.int i0], h) Q = Tr sc d 234 (187, [l0, l1, l2, l3, l4, l5, l6, l7, cl2 l8, some (.int i0), l10], [], h) Q := t_istore k_234_185 (Nat.le_of_ble_eq_true rfl)
theorem k_234_187 : lk 234 187 = some (.aload_n 0, 188, 0, 0, .null) := by decide +kernel
theorem x_234_187 : Tr sc d 234 (187, [some (.ref xk), l1, l2, l3, l4, l5, l6, l7, l8, l9, l10], [], h) Q = Tr sc d 234 (188, [some (.ref xk), l1, l2, l3, l4, l5, l6, l7, l8, l9, l10], [.ref xk], h) Q := t_aload_n k_234_187 rfl
theorem k_234_188 : lk 234 188 = some (.getfield 38, 191, 10, 17, .null) := by decide +kernel
theorem x_234_188 : Tr sc d 234 (188, [l0, l1, l2, l3, l4, l5, l6, l7, l8, l9, l10], [.ref k0], h) Q = (okp h k0 10 = true ∧ ∃ q, hR h k0 17 = some q ∧ Tr sc d 234 (191, [l0, l1, l2, l3, l4, l5, l6, l7, l8, l9, l10], [.ref q], h) Q) := t_getr k_234_188
theorem k_234_191 : lk 234 191 = some (.iload_n 1, 192, 1, 0, .null) := by decide +kernel
theorem x_234_191 : Tr sc d 234 (191, [l0, some (.int x), l2, l3, l4, l5, l6, l7, l8, l9, l10], [.ref k0], h) Q = Tr sc d 234 (192, [l0, some (.int x), l2, l3, l4, l5, l6, l7, l8, l9, l10], [.int x, .ref k0], h) Q := t_iload_n k_234_191 rfl
theorem k_234_192 : lk 234 192 = some (.iaload, 193, 0, 0, .null) := by decide +kernel
theorem x_234_192 : Tr sc d 234 (192, [l0, l1, l2, l3, l4, l5, l6, l7, l8, l9, l10], [.int i1, .ref k0], h) Q = (iOk sc h k0 i1 ∧ Tr sc d 234 (193, [l0, l1, l2, l3, l4, l5, l6, l7, l8, l9, l10], [.int (iRd sc h k0 i1)], h) Q) := t_iald k_234_192
theorem k_234_193 : lk 234 193 = some (.iload 5, 195, 5, 0, .null) := by decide +kernel
theorem x_234_193 : Tr sc d 234 (193, [l0, l1, l2, l3, l4, some (.int x), l6, l7, l8, l9, l10], [.int i0], h) Q = Tr sc d 234 (195, [l0, l1, l2, l3, l4, some (.int x), l6, l7, l8, l9, l10], [.int x, .int i0], h) Q := t_iload k_234_193 rfl
theorem k_234_195 : lk 234 195 = some (.bipush 37, 197, 0, 0, .int 37) := by decide +kernel
theorem x_234_195 : Tr sc d 234 (195, [l0, l1, l2, l3, l4, l5, l6, l7, l8, l9, l10], [.int i1, .int i0], h) Q = Tr sc d 234 (197, [l0, l1, l2, l3, l4, l5, l6, l7, l8, l9, l10], [.int 37, .int i1, .int i0], h) Q := t_go k_234_195 rfl
theorem k_234_197 : lk 234 197 = some (.idiv, 198, 0, 0, .null) := by decide +kernel
theorem x_234_197 : Tr sc d 234 (197, [l0, l1, l2, l3, l4, l5, l6, l7, l8, l9, l10], [.int i2, .int i1, .int i0], h) Q = (¬ i2 = 0 ∧ Tr sc d 234 (198, [l0, l1, l2, l3, l4, l5, l6, l7, l8, l9, l10], [.int (i1 / i2), .int i0], h) Q) := t_ng k_234_197 rfl
theorem k_234_198 : lk 234 198 = some (.bipush 18, 200, 0, 0, .int 18) := by decide +kernel
theorem x_234_198 : Tr sc d 234 (198, [l0, l1, l2, l3, l4, l5, l6, l7, l8, l9, l10], [.int i1, .int i0], h) Q = Tr sc d 234 (200, [l0, l1, l2, l3, l4, l5, l6, l7, l8, l9, l10], [.int 18, .int i1, .int i0], h) Q := t_go k_234_198 rfl
theorem k_234_200 : lk 234 200 = some (.isub, 201, 0, 0, .null) := by decide +kernel
theorem x_234_200 : Tr sc d 234 (200, [l0, l1, l2, l3, l4, l5, l6, l7, l8, l9, l10], [.int i2, .int i1, .int i0], h) Q = Tr sc d 234 (201, [l0, l1, l2, l3, l4, l5, l6, l7, l8, l9, l10], [.int (i1 - i2), .int i0], h) Q := t_go k_234_200 rfl
theorem k_234_201 : lk 234 201 = some (.imul, 202, 0, 0, .null) := by decide +kernel
theorem x_234_201 : Tr sc d 234 (201, [l0, l1, l2, l3, l4, l5, l6, l7, l8, l9, l10], [.int i1, .int i0], h) Q = Tr sc d 234 (202, [l0, l1, l2, l3, l4, l5, l6, l7, l8, l9, l10], [.int (i0 * i1)], h) Q := t_go k_234_201 rfl
theorem k_234_202 : lk 234 202 = some (.aload_n 0, 203, 0, 0, .null) := by decide +kernel
theorem x_234_202 : Tr sc d 234 (202, [some (.ref xk), l1, l2, l3, l4, l5, l6, l7, l8, l9, l10], [.int i0], h) Q = Tr sc d 234 (203, [some (.ref xk), l1, l2, l3, l4, l5, l6, l7, l8, l9, l10], [.ref xk, .int i0], h) Q := t_aload_n k_234_202 rfl
theorem k_234_203 : lk 234 203 = some (.getfield 50, 206, 10, 21, .null) := by decide +kernel
theorem x_234_203 : Tr sc d 234 (203, [l0, l1, l2, l3, l4, l5, l6, l7, l8, l9, l10], [.ref k1, .int i0], h) Q = (okp h k1 10 = true ∧ ∃ q, hR h k1 21 = some q ∧ Tr sc d 234 (206, [l0, l1, l2, l3, l4, l5, l6, l7, l8, l9, l10], [.ref q, .int i0], h) Q) := t_getr k_234_203
theorem k_234_206 : lk 234 206 = some (.iload 8, 208, 8, 0, .null) := by decide +kernel
theorem x_234_206 : Tr sc d 234 (206, [l0, l1, l2, l3, l4, l5, l6, l7, some (.int x), l9, l10], [.ref k1, .int i0], h) Q = Tr sc d 234 (208, [l0, l1, l2, l3, l4, l5, l6, l7, some (.int x), l9, l10], [.int x, .ref k1, .int i0], h) Q := t_iload k_234_206 rfl
theorem k_234_208 : lk 234 208 = some (.iaload, 209, 0, 0, .null) := by decide +kernel
theorem x_234_208 : Tr sc d 234 (208, [l0, l1, l2, l3, l4, l5, l6, l7, l8, l9, l10], [.int i2, .ref k1, .int i0], h) Q = (iOk sc h k1 i2 ∧ Tr sc d 234 (209, [l0, l1, l2, l3, l4, l5, l6, l7, l8, l9, l10], [.int (iRd sc h k1 i2), .int i0], h) Q) := t_iald k_234_208
theorem k_234_209 : lk 234 209 = some (.iadd, 210, 0, 0, .null) := by decide +kernel
theorem x_234_209 : Tr sc d 234 (209, [l0, l1, l2, l3, l4, l5, l6, l7, l8, l9, l10], [.int i1, .int i0], h) Q = Tr sc d 234 (210, [l0, l1, l2, l3, l4, l5, l6, l7, l8, l9, l10], [.int (i0 + i1)], h) Q := t_go k_234_209 rfl
theorem k_234_210 : lk 234 210 = some (.aload_n 0, 211, 0, 0, .null) := by decide +kernel
theorem x_234_210 : Tr sc d 234 (210, [some (.ref xk), l1, l2, l3, l4, l5, l6, l7, l8, l9, l10], [.int i0], h) Q = Tr sc d 234 (211, [some (.ref xk), l1, l2, l3, l4, l5, l6, l7, l8, l9, l10], [.ref xk, .int i0], h) Q := t_aload_n k_234_210 rfl
theorem k_234_211 : lk 234 211 = some (.getfield 50, 214, 10, 21, .null) := by decide +kernel
theorem x_234_211 : Tr sc d 234 (211, [l0, l1, l2, l3, l4, l5, l6, l7, l8, l9, l10], [.ref k1, .int i0], h) Q = (okp h k1 10 = true ∧ ∃ q, hR h k1 21 = some q ∧ Tr sc d 234 (214, [l0, l1, l2, l3, l4, l5, l6, l7, l8, l9, l10], [.ref q, .int i0], h) Q) := t_getr k_234_211
theorem k_234_214 : lk 234 214 = some (.iload 7, 216, 7, 0, .null) := by decide +kernel
theorem x_234_214 : Tr sc d 234 (214, [l0, l1, l2, l3, l4, l5, l6, some (.int x), l8, l9, l10], [.ref k1, .int i0], h) Q = Tr sc d 234 (216, [l0, l1, l2, l3, l4, l5, l6, some (.int x), l8, l9, l10], [.int x, .ref k1, .int i0], h) Q := t_iload k_234_214 rfl
theorem k_234_216 : lk 234 216 = some (.iaload, 217, 0, 0, .null) := by decide +kernel
theorem x_234_216 : Tr sc d 234 (216, [l0, l1, l2, l3, l4, l5, l6, l7, l8, l9, l10], [.int i2, .ref k1, .int i0], h) Q = (iOk sc h k1 i2 ∧ Tr sc d 234 (217, [l0, l1, l2, l3, l4, l5, l6, l7, l8, l9, l10], [.int (iRd sc h k1 i2), .int i0], h) Q) := t_iald k_234_216
theorem k_234_217 : lk 234 217 = some (.isub, 218, 0, 0, .null) := by decide +kernel
theorem x_234_217 : Tr sc d 234 (217, [l0, l1, l2, l3, l4, l5, l6, l7, l8, l9, l10], [.int i1, .int i0], h) Q = Tr sc d 234 (218, [l0, l1, l2, l3, l4, l5, l6, l7, l8, l9, l10], [.int (i0 - i1)], h) Q := t_go k_234_217 rfl
theorem k_234_218 : lk 234 218 = some (.istore 10, 220, 10, 0, .null) := by decide +kernel
theorem x_234_218 : Tr sc d 234 (218, [l0, l1, l2, l3, l4, l5, l6, l7, l8, l9, l10], [.int i0], h) Q = Tr sc d 234 (220, [l0, l1, l2, l3, l4, l5, l6, l7, l8, cl2 l9, some (.int i0)], [], h) Q := t_istore k_234_218 (Nat.le_of_ble_eq_true rfl)
theorem k_234_220 : lk 234 220 = some (.aload_n 0, 221, 0, 0, .null) := by decide +kernel
theorem x_234_220 : Tr sc d 234 (220, [some (.ref xk), l1, l2, l3, l4, l5, l6, l7, l8, l9, l10], [], h) Q = Tr sc d 234 (221, [some (.ref xk), l1, l2, l3, l4, l5, l6, l7, l8, l9, l10], [.ref xk], h) Q := t_aload_n k_234_220 rfl
theorem k_234_221 : lk 234 221 = some (.getfield 119, 224, 10, 57, .null) := by decide +kernel
theorem x_234_221 : Tr sc d 234 (221, [l0, l1, l2, l3, l4, l5, l6, l7, l8, l9, l10], [.ref k0], h) Q = (okp h k0 10 = true ∧ ∃ q, hR h k0 57 = some q ∧ Tr sc d 234 (224, [l0, l1, l2, l3, l4, l5, l6, l7, l8, l9, l10], [.ref q], h) Q) := t_getr k_234_221
theorem k_234_224 : lk 234 224 = some (.iload 5, 226, 5, 0, .null) := by decide +kernel
theorem x_234_224 : Tr sc d 234 (224, [l0, l1, l2, l3, l4, some (.int x), l6, l7, l8, l9, l10], [.ref k0], h) Q = Tr sc d 234 (226, [l0, l1, l2, l3, l4, some (.int x), l6, l7, l8, l9, l10], [.int x, .ref k0], h) Q := t_iload k_234_224 rfl
theorem k_234_226 : lk 234 226 = some (.dup2, 227, 0, 0, .null) := by decide +kernel
theorem x_234_226 : Tr sc d 234 (226, [l0, l1, l2, l3, l4, l5, l6, l7, l8, l9, l10], [.int i1, .ref k0], h) Q = Tr sc d 234 (227, [l0, l1, l2, l3, l4, l5, l6, l7, l8, l9, l10], [.int i1, .ref k0, .int i1, .ref k0], h) Q := t_go k_234_226 rfl
theorem k_234_227 : lk 234 227 = some (.laload, 228, 0, 0, .null) := by decide +kernel
theorem x_234_227 : Tr sc d 234 (227, [l0, l1, l2, l3, l4, l5, l6, l7, l8, l9, l10], [.int i3, .ref k2, .int i1, .ref k0], h) Q = ((okp h k2 12 && inb i3 (LN k2)) = true ∧ Tr sc d 234 (228, [l0, l1, l2, l3, l4, l5, l6, l7, l8, l9, l10], [.long (hL h k2 i3.toNatClampNeg), .int i1, .ref k0], h) Q) := t_gd k_234_227 rfl
theorem k_234_228 : lk 234 228 = some (.aload_n 0, 229, 0, 0, .null) := by decide +kernel
theorem x_234_228 : Tr sc d 234 (228, [some (.ref xk), l1, l2, l3, l4, l5, l6, l7, l8, l9, l10], [.long j2, .int i1, .ref k0], h) Q = Tr sc d 234 (229, [some (.ref xk), l1, l2, l3, l4, l5, l6, l7, l8, l9, l10], [.ref xk, .long j2, .int i1, .ref k0], h) Q := t_aload_n k_234_228 rfl
theorem k_234_229 : lk 234 229 = some (.iload 9, 231, 9, 0, .null) := by decide +kernel
theorem x_234_229 : Tr sc d 234 (229, [l0, l1, l2, l3, l4, l5, l6, l7, l8, some (.int x), l10], [.ref k3, .long j2, .int i1, .ref k0], h) Q = Tr sc d 234 (231, [l0, l1, l2, l3, l4, l5, l6, l7, l8, some (.int x), l10], [.int x, .ref k3, .long j2, .int i1, .ref k0], h) Q := t_iload k_234_229 rfl
theorem k_234_231 : lk 234 231 = some (.iload 10, 233, 10, 0, .null) := by decide +kernel
theorem x_234_231 : Tr sc d 234 (231, [l0, l1, l2, l3, l4, l5, l6, l7, l8, l9, some (.int x)], [.int i4, .ref k3, .long j2, .int i1, .ref k0], h) Q = Tr sc d 234 (233, [l0, l1, l2, l3, l4, l5, l6, l7, l8, l9, some (.int x)], [.int x, .int i4, .ref k3, .long j2, .int i1, .ref k0], h) Q := t_iload k_234_231 rfl
theorem k_234_233 : lk 234 233 = some (.invokevirtual 313, 236, 212, 2, .null) := by decide +kernel
theorem x_234_233 : Tr sc (d + 1) 234 (233, [l0, l1, l2, l3, l4, l5, l6, l7, l8, l9, l10], [.int i5, .int i4, .ref k3, .long j2, .int i1, .ref k0], h) Q = (okp h k3 10 = true ∧ Tr sc d 212 (ent0 212 [.ref k3, .int i4, .int i5] h) (fun z => Tr sc (d + 1) 234 (236, [l0, l1, l2, l3, l4, l5, l6, l7, l8, l9, l10], z.1.toList ++ [.long j2, .int i1, .ref k0], z.2) Q)) := t_cv (as := [.int i4, .int i5]) (r := [.long j2, .int i1, .ref k0]) k_234_233 rfl rfl (Nat.le_of_ble_eq_true rfl) (Nat.le_of_ble_eq_true rfl) (Nat.le_of_ble_eq_true rfl)
theorem k_234_236 : lk 234 236 = some (.ifCond .eq 18, 239, 254, 0, .null) := by decide +kernel
theorem x_234_236 : Tr sc d 234 (236, [l0, l1, l2, l3, l4, l5, l6, l7, l8, l9, l10], [.int i3, .long j2, .int i1, .ref k0], h) Q = if i3 = 0 then Tr sc d 234 (254, [l0, l1, l2, l3, l4, l5, l6, l7, l8, l9, l10], [.long j2, .int i1, .ref k0], h) Q else Tr sc d 234 (239, [l0, l1, l2, l3, l4, l5, l6, l7, l8, l9, l10], [.long j2, .int i1, .ref k0], h) Q := t_if k_234_236 rfl
theorem k_234_239 : lk 234 239 = some (.aload_n 0, 240, 0, 0, .null) := by decide +kernel
theorem x_234_239 : Tr sc d 234 (239, [some (.ref xk), l1, l2, l3, l4, l5, l6, l7, l8, l9, l10], [.long j2, .int i1, .ref k0], h) Q = Tr sc d 234 (240, [some (.ref xk), l1, l2, l3, l4, l5, l6, l7, l8, l9, l10], [.ref xk, .long j2, .int i1, .ref k0], h) Q := t_aload_n k_234_239 rfl
theorem k_234_240 : lk 234 240 = some (.getfield 116, 243, 10, 56, .null) := by decide +kernel
theorem x_234_240 : Tr sc d 234 (240, [l0, l1, l2, l3, l4, l5, l6, l7, l8, l9, l10], [.ref k3, .long j2, .int i1, .ref k0], h) Q = (okp h k3 10 = true ∧ ∃ q, hR h k3 56 = some q ∧ Tr sc d 234 (243, [l0, l1, l2, l3, l4, l5, l6, l7, l8, l9, l10], [.ref q, .long j2, .int i1, .ref k0], h) Q) := t_getr k_234_240
theorem k_234_243 : lk 234 243 = some (.iload 9, 245, 9, 0, .null) := by decide +kernel
theorem x_234_243 : Tr sc d 234 (243, [l0, l1, l2, l3, l4, l5, l6, l7, l8, some (.int x), l10], [.ref k3, .long j2, .int i1, .ref k0], h) Q = Tr sc d 234 (245, [l0, l1, l2, l3, l4, l5, l6, l7, l8, some (.int x), l10], [.int x, .ref k3, .long j2, .int i1, .ref k0], h) Q := t_iload k_234_243 rfl
theorem k_234_245 : lk 234 245 = some (.iload 10, 247, 10, 0, .null) := by decide +kernel
theorem x_234_245 : Tr sc d 234 (245, [l0, l1, l2, l3, l4, l5, l6, l7, l8, l9, some (.int x)], [.int i4, .ref k3, .long j2, .int i1, .ref k0], h) Q = Tr sc d 234 (247, [l0, l1, l2, l3, l4, l5, l6, l7, l8, l9, some (.int x)], [.int x, .int i4, .ref k3, .long j2, .int i1, .ref k0], h) Q := t_iload k_234_245 rfl
theorem k_234_247 : lk 234 247 = some (.invokestatic 310, 250, 211, 2, .null) := by decide +kernel
theorem x_234_247 : Tr sc (d + 1) 234 (247, [l0, l1, l2, l3, l4, l5, l6, l7, l8, l9, l10], [.int i5, .int i4, .ref k3, .long j2, .int i1, .ref k0], h) Q = Tr sc d 211 (ent0 211 [.int i4, .int i5] h) (fun z => Tr sc (d + 1) 234 (250, [l0, l1, l2, l3, l4, l5, l6, l7, l8, l9, l10], z.1.toList ++ [.ref k3, .long j2, .int i1, .ref k0], z.2) Q) := t_cs (as := [.int i4, .int i5]) (r := [.ref k3, .long j2, .int i1, .ref k0]) k_234_247 (by decide) rfl rfl (Nat.le_of_ble_eq_true rfl) (Nat.le_of_ble_eq_true rfl)
theorem k_234_250 : lk 234 250 = some (.laload, 251, 0, 0, .null) := by decide +kernel
theorem x_234_250 : Tr sc d 234 (250, [l0, l1, l2, l3, l4, l5, l6, l7, l8, l9, l10], [.int i4, .ref k3, .long j2, .int i1, .ref k0], h) Q = ((okp h k3 12 && inb i4 (LN k3)) = true ∧ Tr sc d 234 (251, [l0, l1, l2, l3, l4, l5, l6, l7, l8, l9, l10], [.long (hL h k3 i4.toNatClampNeg), .long j2, .int i1, .ref k0], h) Q) := t_gd k_234_250 rfl
theorem k_234_251 : lk 234 251 = some (.goto 4, 254, 255, 0, .null) := by decide +kernel
theorem x_234_251 : Tr sc d 234 (251, [l0, l1, l2, l3, l4, l5, l6, l7, l8, l9, l10], [.long j3, .long j2, .int i1, .ref k0], h) Q = Tr sc d 234 (255, [l0, l1, l2, l3, l4, l5, l6, l7, l8, l9, l10], [.long j3, .long j2, .int i1, .ref k0], h) Q := t_go k_234_251 rfl
theorem k_234_254 : lk 234 254 = some (.lconst 0, 255, 0, 0, .long 0) := by decide +kernel
theorem x_234_254 : Tr sc d 234 (254, [l0, l1, l2, l3, l4, l5, l6, l7, l8, l9, l10], [.long j2, .int i1, .ref k0], h) Q = Tr sc d 234 (255, [l0, l1, l2, l3, l4, l5, l6, l7, l8, l9, l10], [.long 0, .long j2, .int i1, .ref k0], h) Q := t_go k_234_254 rfl
theorem k_234_255 : lk 234 255 = some (.ladd, 256, 0, 0, .null) := by decide +kernel
theorem x_234_255 : Tr sc d 234 (255, [l0, l1, l2, l3, l4, l5, l6, l7, l8, l9, l10], [.long j3, .long j2, .int i1, .ref k0], h) Q = Tr sc d 234 (256, [l0, l1, l2, l3, l4, l5, l6, l7, l8, l9, l10], [.long (j2 + j3), .int i1, .ref k0], h) Q := t_go k_234_255 rfl
theorem k_234_256 : lk 234 256 = some (.lastore, 257, 0, 0, .null) := by decide +kernel
theorem x_234_256 : Tr sc d 234 (256, [l0, l1, l2, l3, l4, l5, l6, l7, l8, l9, l10], [.long j2, .int i1, .ref k0], h) Q = ((okp h k0 12 && inb i1 (LN k0)) = true ∧ Tr sc d 234 (257, [l0, l1, l2, l3, l4, l5, l6, l7, l8, l9, l10], [], (sL h k0 i1.toNatClampNeg j2)) Q) := t_gd k_234_256 rfl
theorem k_234_257 : lk 234 257 = some (.iinc 6 1, 260, 6, 0, .int 1) := by decide +kernel
theorem x_234_257 : Tr sc d 234 (257, [l0, l1, l2, l3, l4, l5, some (.int x), l7, l8, l9, l10], [], h) Q = Tr sc d 234 (260, [l0, l1, l2, l3, l4, cl2 l5, some (.int (x + 1)), l7, l8, l9, l10], [], h) Q := t_inc k_234_257 rfl (Nat.le_of_ble_eq_true rfl)
theorem k_234_260 : lk 234 260 = some (.goto (-166), 263, 94, 0, .null) := by decide +kernel
theorem x_234_260 : Tr sc d 234 (260, [l0, l1, l2, l3, l4, l5, l6, l7, l8, l9, l10], [], h) Q = Tr sc d 234 (94, [l0, l1, l2, l3, l4, l5, l6, l7, l8, l9, l10], [], h) Q := t_go k_234_260 rfl
theorem k_234_263 : lk 234 263 = some (.iinc 5 1, 266, 5, 0, .int 1) := by decide +kernel
theorem x_234_263 : Tr sc d 234 (263, [l0, l1, l2, l3, l4, some (.int x), l6, l7, l8, l9, l10], [], h) Q = Tr sc d 234 (266, [l0, l1, l2, l3, cl2 l4, some (.int (x + 1)), l6, l7, l8, l9, l10], [], h) Q := t_inc k_234_263 rfl (Nat.le_of_ble_eq_true rfl)
theorem k_234_266 : lk 234 266 = some (.goto (-191), 269, 75, 0, .null) := by decide +kernel
theorem x_234_266 : Tr sc d 234 (266, [l0, l1, l2, l3, l4, l5, l6, l7, l8, l9, l10], [], h) Q = Tr sc d 234 (75, [l0, l1, l2, l3, l4, l5, l6, l7, l8, l9, l10], [], h) Q := t_go k_234_266 rfl
theorem k_234_269 : lk 234 269 = some (.iconst 0, 270, 0, 0, .int 0) := by decide +kernel
theorem x_234_269 : Tr sc d 234 (269, [l0, l1, l2, l3, l4, l5, l6, l7, l8, l9, l10], [], h) Q = Tr sc d 234 (270, [l0, l1, l2, l3, l4, l5, l6, l7, l8, l9, l10], [.int 0], h) Q := t_go k_234_269 rfl
theorem k_234_270 : lk 234 270 = some (.istore 5, 272, 5, 0, .null) := by decide +kernel
theorem x_234_270 : Tr sc d 234 (270, [l0, l1, l2, l3, l4, l5, l6, l7, l8, l9, l10], [.int i0], h) Q = Tr sc d 234 (272, [l0, l1, l2, l3, cl2 l4, some (.int i0), l6, l7, l8, l9, l10], [], h) Q := t_istore k_234_270 (Nat.le_of_ble_eq_true rfl)
theorem k_234_272 : lk 234 272 = some (.iload 5, 274, 5, 0, .null) := by decide +kernel
theorem x_234_272 : Tr sc d 234 (272, [l0, l1, l2, l3, l4, some (.int x), l6, l7, l8, l9, l10], [], h) Q = Tr sc d 234 (274, [l0, l1, l2, l3, l4, some (.int x), l6, l7, l8, l9, l10], [.int x], h) Q := t_iload k_234_272 rfl
theorem k_234_274 : lk 234 274 = some (.sipush 1369, 277, 0, 0, .int 1369) := by decide +kernel
theorem x_234_274 : Tr sc d 234 (274, [l0, l1, l2, l3, l4, l5, l6, l7, l8, l9, l10], [.int i0], h) Q = Tr sc d 234 (277, [l0, l1, l2, l3, l4, l5, l6, l7, l8, l9, l10], [.int 1369, .int i0], h) Q := t_go k_234_274 rfl
theorem k_234_277 : lk 234 277 = some (.if_icmp .ge 23, 280, 300, 0, .null) := by decide +kernel
theorem x_234_277 : Tr sc d 234 (277, [l0, l1, l2, l3, l4, l5, l6, l7, l8, l9, l10], [.int i1, .int i0], h) Q = if i1 ≤ i0 then Tr sc d 234 (300, [l0, l1, l2, l3, l4, l5, l6, l7, l8, l9, l10], [], h) Q else Tr sc d 234 (280, [l0, l1, l2, l3, l4, l5, l6, l7, l8, l9, l10], [], h) Q := t_if k_234_277 rfl
theorem k_234_280 : lk 234 280 = some (.aload_n 0, 281, 0, 0, .null) := by decide +kernel
theorem x_234_280 : Tr sc d 234 (280, [some (.ref xk), l1, l2, l3, l4, l5, l6, l7, l8, l9, l10], [], h) Q = Tr sc d 234 (281, [some (.ref xk), l1, l2, l3, l4, l5, l6, l7, l8, l9, l10], [.ref xk], h) Q := t_aload_n k_234_280 rfl
theorem k_234_281 : lk 234 281 = some (.getfield 116, 284, 10, 56, .null) := by decide +kernel
theorem x_234_281 : Tr sc d 234 (281, [l0, l1, l2, l3, l4, l5, l6, l7, l8, l9, l10], [.ref k0], h) Q = (okp h k0 10 = true ∧ ∃ q, hR h k0 56 = some q ∧ Tr sc d 234 (284, [l0, l1, l2, l3, l4, l5, l6, l7, l8, l9, l10], [.ref q], h) Q) := t_getr k_234_281
theorem k_234_284 : lk 234 284 = some (.iload 5, 286, 5, 0, .null) := by decide +kernel
theorem x_234_284 : Tr sc d 234 (284, [l0, l1, l2, l3, l4, some (.int x), l6, l7, l8, l9, l10], [.ref k0], h) Q = Tr sc d 234 (286, [l0, l1, l2, l3, l4, some (.int x), l6, l7, l8, l9, l10], [.int x, .ref k0], h) Q := t_iload k_234_284 rfl
theorem k_234_286 : lk 234 286 = some (.aload_n 0, 287, 0, 0, .null) := by decide +kernel
theorem x_234_286 : Tr sc d 234 (286, [some (.ref xk), l1, l2, l3, l4, l5, l6, l7, l8, l9, l10], [.int i1, .ref k0], h) Q = Tr sc d 234 (287, [some (.ref xk), l1, l2, l3, l4, l5, l6, l7, l8, l9, l10], [.ref xk, .int i1, .ref k0], h) Q := t_aload_n k_234_286 rfl
theorem k_234_287 : lk 234 287 = some (.getfield 119, 290, 10, 57, .null) := by decide +kernel
theorem x_234_287 : Tr sc d 234 (287, [l0, l1, l2, l3, l4, l5, l6, l7, l8, l9, l10], [.ref k2, .int i1, .ref k0], h) Q = (okp h k2 10 = true ∧ ∃ q, hR h k2 57 = some q ∧ Tr sc d 234 (290, [l0, l1, l2, l3, l4, l5, l6, l7, l8, l9, l10], [.ref q, .int i1, .ref k0], h) Q) := t_getr k_234_287
theorem k_234_290 : lk 234 290 = some (.iload 5, 292, 5, 0, .null) := by decide +kernel
theorem x_234_290 : Tr sc d 234 (290, [l0, l1, l2, l3, l4, some (.int x), l6, l7, l8, l9, l10], [.ref k2, .int i1, .ref k0], h) Q = Tr sc d 234 (292, [l0, l1, l2, l3, l4, some (.int x), l6, l7, l8, l9, l10], [.int x, .ref k2, .int i1, .ref k0], h) Q := t_iload k_234_290 rfl
theorem k_234_292 : lk 234 292 = some (.laload, 293, 0, 0, .null) := by decide +kernel
theorem x_234_292 : Tr sc d 234 (292, [l0, l1, l2, l3, l4, l5, l6, l7, l8, l9, l10], [.int i3, .ref k2, .int i1, .ref k0], h) Q = ((okp h k2 12 && inb i3 (LN k2)) = true ∧ Tr sc d 234 (293, [l0, l1, l2, l3, l4, l5, l6, l7, l8, l9, l10], [.long (hL h k2 i3.toNatClampNeg), .int i1, .ref k0], h) Q) := t_gd k_234_292 rfl
theorem k_234_293 : lk 234 293 = some (.lastore, 294, 0, 0, .null) := by decide +kernel
theorem x_234_293 : Tr sc d 234 (293, [l0, l1, l2, l3, l4, l5, l6, l7, l8, l9, l10], [.long j2, .int i1, .ref k0], h) Q = ((okp h k0 12 && inb i1 (LN k0)) = true ∧ Tr sc d 234 (294, [l0, l1, l2, l3, l4, l5, l6, l7, l8, l9, l10], [], (sL h k0 i1.toNatClampNeg j2)) Q) := t_gd k_234_293 rfl
theorem k_234_294 : lk 234 294 = some (.iinc 5 1, 297, 5, 0, .int 1) := by decide +kernel
theorem x_234_294 : Tr sc d 234 (294, [l0, l1, l2, l3, l4, some (.int x), l6, l7, l8, l9, l10], [], h) Q = Tr sc d 234 (297, [l0, l1, l2, l3, cl2 l4, some (.int (x + 1)), l6, l7, l8, l9, l10], [], h) Q := t_inc k_234_294 rfl (Nat.le_of_ble_eq_true rfl)
theorem k_234_297 : lk 234 297 = some (.goto (-25), 300, 272, 0, .null) := by decide +kernel
theorem x_234_297 : Tr sc d 234 (297, [l0, l1, l2, l3, l4, l5, l6, l7, l8, l9, l10], [], h) Q = Tr sc d 234 (272, [l0, l1, l2, l3, l4, l5, l6, l7, l8, l9, l10], [], h) Q := t_go k_234_297 rfl
theorem k_234_300 : lk 234 300 = some (.iinc 4 1, 303, 4, 0, .int 1) := by decide +kernel
theorem x_234_300 : Tr sc d 234 (300, [l0, l1, l2, l3, some (.int x), l5, l6, l7, l8, l9, l10], [], h) Q = Tr sc d 234 (303, [l0, l1, l2, cl2 l3, some (.int (x + 1)), l5, l6, l7, l8, l9, l10], [], h) Q := t_inc k_234_300 rfl (Nat.le_of_ble_eq_true rfl)
theorem k_234_303 : lk 234 303 = some (.goto (-237), 306, 66, 0, .null) := by decide +kernel
theorem x_234_303 : Tr sc d 234 (303, [l0, l1, l2, l3, l4, l5, l6, l7, l8, l9, l10], [], h) Q = Tr sc d 234 (66, [l0, l1, l2, l3, l4, l5, l6, l7, l8, l9, l10], [], h) Q := t_go k_234_303 rfl
theorem k_234_306 : lk 234 306 = some (.aload_n 0, 307, 0, 0, .null) := by decide +kernel
theorem x_234_306 : Tr sc d 234 (306, [some (.ref xk), l1, l2, l3, l4, l5, l6, l7, l8, l9, l10], [], h) Q = Tr sc d 234 (307, [some (.ref xk), l1, l2, l3, l4, l5, l6, l7, l8, l9, l10], [.ref xk], h) Q := t_aload_n k_234_306 rfl
theorem k_234_307 : lk 234 307 = some (.lconst 0, 308, 0, 0, .long 0) := by decide +kernel
theorem x_234_307 : Tr sc d 234 (307, [l0, l1, l2, l3, l4, l5, l6, l7, l8, l9, l10], [.ref k0], h) Q = Tr sc d 234 (308, [l0, l1, l2, l3, l4, l5, l6, l7, l8, l9, l10], [.long 0, .ref k0], h) Q := t_go k_234_307 rfl
theorem k_234_308 : lk 234 308 = some (.putfield 267, 311, 10, 3, .long 0) := by decide +kernel
theorem x_234_308 : Tr sc d 234 (308, [l0, l1, l2, l3, l4, l5, l6, l7, l8, l9, l10], [.long j1, .ref k0], h) Q = (okp h k0 10 = true ∧ Tr sc d 234 (311, [l0, l1, l2, l3, l4, l5, l6, l7, l8, l9, l10], [], (sL h k0 3 j1)) Q) := t_gd k_234_308 rfl
theorem k_234_311 : lk 234 311 = some (.iconst 0, 312, 0, 0, .int 0) := by decide +kernel
theorem x_234_311 : Tr sc d 234 (311, [l0, l1, l2, l3, l4, l5, l6, l7, l8, l9, l10], [], h) Q = Tr sc d 234 (312, [l0, l1, l2, l3, l4, l5, l6, l7, l8, l9, l10], [.int 0], h) Q := t_go k_234_311 rfl
theorem k_234_312 : lk 234 312 = some (.istore 4, 314, 4, 0, .null) := by decide +kernel
theorem x_234_312 : Tr sc d 234 (312, [l0, l1, l2, l3, l4, l5, l6, l7, l8, l9, l10], [.int i0], h) Q = Tr sc d 234 (314, [l0, l1, l2, cl2 l3, some (.int i0), l5, l6, l7, l8, l9, l10], [], h) Q := t_istore k_234_312 (Nat.le_of_ble_eq_true rfl)
theorem k_234_314 : lk 234 314 = some (.iload 4, 316, 4, 0, .null) := by decide +kernel
theorem x_234_314 : Tr sc d 234 (314, [l0, l1, l2, l3, some (.int x), l5, l6, l7, l8, l9, l10], [], h) Q = Tr sc d 234 (316, [l0, l1, l2, l3, some (.int x), l5, l6, l7, l8, l9, l10], [.int x], h) Q := t_iload k_234_314 rfl
theorem k_234_316 : lk 234 316 = some (.sipush 1369, 319, 0, 0, .int 1369) := by decide +kernel
theorem x_234_316 : Tr sc d 234 (316, [l0, l1, l2, l3, l4, l5, l6, l7, l8, l9, l10], [.int i0], h) Q = Tr sc d 234 (319, [l0, l1, l2, l3, l4, l5, l6, l7, l8, l9, l10], [.int 1369, .int i0], h) Q := t_go k_234_316 rfl
theorem k_234_319 : lk 234 319 = some (.if_icmp .ge 39, 322, 358, 0, .null) := by decide +kernel
theorem x_234_319 : Tr sc d 234 (319, [l0, l1, l2, l3, l4, l5, l6, l7, l8, l9, l10], [.int i1, .int i0], h) Q = if i1 ≤ i0 then Tr sc d 234 (358, [l0, l1, l2, l3, l4, l5, l6, l7, l8, l9, l10], [], h) Q else Tr sc d 234 (322, [l0, l1, l2, l3, l4, l5, l6, l7, l8, l9, l10], [], h) Q := t_if k_234_319 rfl
theorem k_234_322 : lk 234 322 = some (.aload_n 0, 323, 0, 0, .null) := by decide +kernel
theorem x_234_322 : Tr sc d 234 (322, [some (.ref xk), l1, l2, l3, l4, l5, l6, l7, l8, l9, l10], [], h) Q = Tr sc d 234 (323, [some (.ref xk), l1, l2, l3, l4, l5, l6, l7, l8, l9, l10], [.ref xk], h) Q := t_aload_n k_234_322 rfl
theorem k_234_323 : lk 234 323 = some (.dup, 324, 0, 0, .null) := by decide +kernel
theorem x_234_323 : Tr sc d 234 (323, [l0, l1, l2, l3, l4, l5, l6, l7, l8, l9, l10], [.ref k0], h) Q = Tr sc d 234 (324, [l0, l1, l2, l3, l4, l5, l6, l7, l8, l9, l10], [.ref k0, .ref k0], h) Q := t_go k_234_323 rfl
theorem k_234_324 : lk 234 324 = some (.getfield 267, 327, 10, 3, .long 0) := by decide +kernel
theorem x_234_324 : Tr sc d 234 (324, [l0, l1, l2, l3, l4, l5, l6, l7, l8, l9, l10], [.ref k1, .ref k0], h) Q = (okp h k1 10 = true ∧ Tr sc d 234 (327, [l0, l1, l2, l3, l4, l5, l6, l7, l8, l9, l10], [.long (hL h k1 3), .ref k0], h) Q) := t_gd k_234_324 rfl
theorem k_234_327 : lk 234 327 = some (.iload 4, 329, 4, 0, .null) := by decide +kernel
theorem x_234_327 : Tr sc d 234 (327, [l0, l1, l2, l3, some (.int x), l5, l6, l7, l8, l9, l10], [.long j1, .ref k0], h) Q = Tr sc d 234 (329, [l0, l1, l2, l3, some (.int x), l5, l6, l7, l8, l9, l10], [.int x, .long j1, .ref k0], h) Q := t_iload k_234_327 rfl
theorem k_234_329 : lk 234 329 = some (.iconst 0, 330, 0, 0, .int 0) := by decide +kernel
theorem x_234_329 : Tr sc d 234 (329, [l0, l1, l2, l3, l4, l5, l6, l7, l8, l9, l10], [.int i2, .long j1, .ref k0], h) Q = Tr sc d 234 (330, [l0, l1, l2, l3, l4, l5, l6, l7, l8, l9, l10], [.int 0, .int i2, .long j1, .ref k0], h) Q := t_go k_234_329 rfl
theorem k_234_330 : lk 234 330 = some (.iconst 0, 331, 0, 0, .int 0) := by decide +kernel
theorem x_234_330 : Tr sc d 234 (330, [l0, l1, l2, l3, l4, l5, l6, l7, l8, l9, l10], [.int i3, .int i2, .long j1, .ref k0], h) Q = Tr sc d 234 (331, [l0, l1, l2, l3, l4, l5, l6, l7, l8, l9, l10], [.int 0, .int i3, .int i2, .long j1, .ref k0], h) Q := t_go k_234_330 rfl
theorem k_234_331 : lk 234 331 = some (.invokestatic 310, 334, 211, 2, .null) := by decide +kernel
theorem x_234_331 : Tr sc (d + 1) 234 (331, [l0, l1, l2, l3, l4, l5, l6, l7, l8, l9, l10], [.int i4, .int i3, .int i2, .long j1, .ref k0], h) Q = Tr sc d 211 (ent0 211 [.int i3, .int i4] h) (fun z => Tr sc (d + 1) 234 (334, [l0, l1, l2, l3, l4, l5, l6, l7, l8, l9, l10], z.1.toList ++ [.int i2, .long j1, .ref k0], z.2) Q) := t_cs (as := [.int i3, .int i4]) (r := [.int i2, .long j1, .ref k0]) k_234_331 (by decide) rfl rfl (Nat.le_of_ble_eq_true rfl) (Nat.le_of_ble_eq_true rfl)
theorem k_234_334 : lk 234 334 = some (.if_icmp .ne 7, 337, 341, 0, .null) := by decide +kernel
theorem x_234_334 : Tr sc d 234 (334, [l0, l1, l2, l3, l4, l5, l6, l7, l8, l9, l10], [.int i3, .int i2, .long j1, .ref k0], h) Q = if i2 = i3 then Tr sc d 234 (337, [l0, l1, l2, l3, l4, l5, l6, l7, l8, l9, l10], [.long j1, .ref k0], h) Q else Tr sc d 234 (341, [l0, l1, l2, l3, l4, l5, l6, l7, l8, l9, l10], [.long j1, .ref k0], h) Q := t_if k_234_334 rfl
theorem k_234_337 : lk 234 337 = some (.lconst 0, 338, 0, 0, .long 0) := by decide +kernel
theorem x_234_337 : Tr sc d 234 (337, [l0, l1, l2, l3, l4, l5, l6, l7, l8, l9, l10], [.long j1, .ref k0], h) Q = Tr sc d 234 (338, [l0, l1, l2, l3, l4, l5, l6, l7, l8, l9, l10], [.long 0, .long j1, .ref k0], h) Q := t_go k_234_337 rfl
theorem k_234_338 : lk 234 338 = some (.goto 10, 341, 348, 0, .null) := by decide +kernel
theorem x_234_338 : Tr sc d 234 (338, [l0, l1, l2, l3, l4, l5, l6, l7, l8, l9, l10], [.long j2, .long j1, .ref k0], h) Q = Tr sc d 234 (348, [l0, l1, l2, l3, l4, l5, l6, l7, l8, l9, l10], [.long j2, .long j1, .ref k0], h) Q := t_go k_234_338 rfl
theorem k_234_341 : lk 234 341 = some (.aload_n 0, 342, 0, 0, .null) := by decide +kernel
theorem x_234_341 : Tr sc d 234 (341, [some (.ref xk), l1, l2, l3, l4, l5, l6, l7, l8, l9, l10], [.long j1, .ref k0], h) Q = Tr sc d 234 (342, [some (.ref xk), l1, l2, l3, l4, l5, l6, l7, l8, l9, l10], [.ref xk, .long j1, .ref k0], h) Q := t_aload_n k_234_341 rfl
theorem k_234_342 : lk 234 342 = some (.getfield 116, 345, 10, 56, .null) := by decide +kernel
theorem x_234_342 : Tr sc d 234 (342, [l0, l1, l2, l3, l4, l5, l6, l7, l8, l9, l10], [.ref k2, .long j1, .ref k0], h) Q = (okp h k2 10 = true ∧ ∃ q, hR h k2 56 = some q ∧ Tr sc d 234 (345, [l0, l1, l2, l3, l4, l5, l6, l7, l8, l9, l10], [.ref q, .long j1, .ref k0], h) Q) := t_getr k_234_342
theorem k_234_345 : lk 234 345 = some (.iload 4, 347, 4, 0, .null) := by decide +kernel
theorem x_234_345 : Tr sc d 234 (345, [l0, l1, l2, l3, some (.int x), l5, l6, l7, l8, l9, l10], [.ref k2, .long j1, .ref k0], h) Q = Tr sc d 234 (347, [l0, l1, l2, l3, some (.int x), l5, l6, l7, l8, l9, l10], [.int x, .ref k2, .long j1, .ref k0], h) Q := t_iload k_234_345 rfl
theorem k_234_347 : lk 234 347 = some (.laload, 348, 0, 0, .null) := by decide +kernel
theorem x_234_347 : Tr sc d 234 (347, [l0, l1, l2, l3, l4, l5, l6, l7, l8, l9, l10], [.int i3, .ref k2, .long j1, .ref k0], h) Q = ((okp h k2 12 && inb i3 (LN k2)) = true ∧ Tr sc d 234 (348, [l0, l1, l2, l3, l4, l5, l6, l7, l8, l9, l10], [.long (hL h k2 i3.toNatClampNeg), .long j1, .ref k0], h) Q) := t_gd k_234_347 rfl
theorem k_234_348 : lk 234 348 = some (.ladd, 349, 0, 0, .null) := by decide +kernel
theorem x_234_348 : Tr sc d 234 (348, [l0, l1, l2, l3, l4, l5, l6, l7, l8, l9, l10], [.long j2, .long j1, .ref k0], h) Q = Tr sc d 234 (349, [l0, l1, l2, l3, l4, l5, l6, l7, l8, l9, l10], [.long (j1 + j2), .ref k0], h) Q := t_go k_234_348 rfl
theorem k_234_349 : lk 234 349 = some (.putfield 267, 352, 10, 3, .long 0) := by decide +kernel
theorem x_234_349 : Tr sc d 234 (349, [l0, l1, l2, l3, l4, l5, l6, l7, l8, l9, l10], [.long j1, .ref k0], h) Q = (okp h k0 10 = true ∧ Tr sc d 234 (352, [l0, l1, l2, l3, l4, l5, l6, l7, l8, l9, l10], [], (sL h k0 3 j1)) Q) := t_gd k_234_349 rfl
theorem k_234_352 : lk 234 352 = some (.iinc 4 1, 355, 4, 0, .int 1) := by decide +kernel
theorem x_234_352 : Tr sc d 234 (352, [l0, l1, l2, l3, some (.int x), l5, l6, l7, l8, l9, l10], [], h) Q = Tr sc d 234 (355, [l0, l1, l2, cl2 l3, some (.int (x + 1)), l5, l6, l7, l8, l9, l10], [], h) Q := t_inc k_234_352 rfl (Nat.le_of_ble_eq_true rfl)
theorem k_234_355 : lk 234 355 = some (.goto (-41), 358, 314, 0, .null) := by decide +kernel
theorem x_234_355 : Tr sc d 234 (355, [l0, l1, l2, l3, l4, l5, l6, l7, l8, l9, l10], [], h) Q = Tr sc d 234 (314, [l0, l1, l2, l3, l4, l5, l6, l7, l8, l9, l10], [], h) Q := t_go k_234_355 rfl
theorem k_234_358 : lk 234 358 = some (.iconst 1, 359, 0, 0, .int 1) := by decide +kernel
theorem x_234_358 : Tr sc d 234 (358, [l0, l1, l2, l3, l4, l5, l6, l7, l8, l9, l10], [], h) Q = Tr sc d 234 (359, [l0, l1, l2, l3, l4, l5, l6, l7, l8, l9, l10], [.int 1], h) Q := t_go k_234_358 rfl
theorem k_234_359 : lk 234 359 = some (.ireturn, 360, 0, 0, .null) := by decide +kernel
theorem x_234_359 : Tr sc d 234 (359, [l0, l1, l2, l3, l4, l5, l6, l7, l8, l9, l10], [.int i0], h) Q = Q (some (.int i0), h) := t_ret k_234_359 (by rw [r_234]; rfl)
theorem e_234 : Tr sc d 234 (ent0 234 [.ref k0, .int i1, .int i2] h) Q = Tr sc d 234 (0, [some (.ref k0), some (.int i1), some (.int i2), none, none, none, none, none, none, none, none], [], h) Q := by
  have e : mL 234 = 11 := by decide +kernel
  unfold ent0
  rw [e]
  rfl
theorem r_235 : mR 235 = some .int := by decide +kernel
theorem k_235_0 : lk 235 0 = some (.aload_n 0, 1, 0, 0, .null) := by decide +kernel
theorem x_235_0 : Tr sc d 235 (0, [some (.ref xk), l1, l2, l3, l4, l5, l6, l7, l8, l9, l10, l11, l12, l13, l14, l15, l16, l17, l18, l19, l20, l21], [], h) Q = Tr sc d 235 (1, [some (.ref xk), l1, l2, l3, l4, l5, l6, l7, l8, l9, l10, l11, l12, l13, l14, l15, l16, l17, l18, l19, l20, l21], [.ref xk], h) Q := t_aload_n k_235_0 rfl
theorem k_235_1 : lk 235 1 = some (.iload_n 1, 2, 1, 0, .null) := by decide +kernel
theorem x_235_1 : Tr sc d 235 (1, [l0, some (.int x), l2, l3, l4, l5, l6, l7, l8, l9, l10, l11, l12, l13, l14, l15, l16, l17, l18, l19, l20, l21], [.ref k0], h) Q = Tr sc d 235 (2, [l0, some (.int x), l2, l3, l4, l5, l6, l7, l8, l9, l10, l11, l12, l13, l14, l15, l16, l17, l18, l19, l20, l21], [.int x, .ref k0], h) Q := t_iload_n k_235_1 rfl
theorem k_235_2 : lk 235 2 = some (.invokevirtual 220, 5, 176, 1, .null) := by decide +kernel
theorem x_235_2 : Tr sc (d + 1) 235 (2, [l0, l1, l2, l3, l4, l5, l6, l7, l8, l9, l10, l11, l12, l13, l14, l15, l16, l17, l18, l19, l20, l21], [.int i1, .ref k0], h) Q = (okp h k0 10 = true ∧ Tr sc d 176 (ent0 176 [.ref k0, .int i1] h) (fun z => Tr sc (d + 1) 235 (5, [l0, l1, l2, l3, l4, l5, l6, l7, l8, l9, l10, l11, l12, l13, l14, l15, l16, l17, l18, l19, l20, l21], z.1.toList ++ [], z.2) Q)) := t_cv (as := [.int i1]) (r := []) k_235_2 rfl rfl (Nat.le_of_ble_eq_true rfl) (Nat.le_of_ble_eq_true rfl) (Nat.le_of_ble_eq_true rfl)
theorem k_235_5 : lk 235 5 = some (.istore_n 3, 6, 3, 0, .null) := by decide +kernel
theorem x_235_5 : Tr sc d 235 (5, [l0, l1, l2, l3, l4, l5, l6, l7, l8, l9, l10, l11, l12, l13, l14, l15, l16, l17, l18, l19, l20, l21], [.int i0], h) Q = Tr sc d 235 (6, [l0, l1, cl2 l2, some (.int i0), l4, l5, l6, l7, l8, l9, l10, l11, l12, l13, l14, l15, l16, l17, l18, l19, l20, l21], [], h) Q := t_istore_n k_235_5 (Nat.le_of_ble_eq_true rfl)
theorem k_235_6 : lk 235 6 = some (.iload_n 3, 7, 3, 0, .null) := by decide +kernel
theorem x_235_6 : Tr sc d 235 (6, [l0, l1, l2, some (.int x), l4, l5, l6, l7, l8, l9, l10, l11, l12, l13, l14, l15, l16, l17, l18, l19, l20, l21], [], h) Q = Tr sc d 235 (7, [l0, l1, l2, some (.int x), l4, l5, l6, l7, l8, l9, l10, l11, l12, l13, l14, l15, l16, l17, l18, l19, l20, l21], [.int x], h) Q := t_iload_n k_235_6 rfl
theorem k_235_7 : lk 235 7 = some (.ifCond .ge 5, 10, 12, 0, .null) := by decide +kernel
theorem x_235_7 : Tr sc d 235 (7, [l0, l1, l2, l3, l4, l5, l6, l7, l8, l9, l10, l11, l12, l13, l14, l15, l16, l17, l18, l19, l20, l21], [.int i0], h) Q = if 0 ≤ i0 then Tr sc d 235 (12, [l0, l1, l2, l3, l4, l5, l6, l7, l8, l9, l10, l11, l12, l13, l14, l15, l16, l17, l18, l19, l20, l21], [], h) Q else Tr sc d 235 (10, [l0, l1, l2, l3, l4, l5, l6, l7, l8, l9, l10, l11, l12, l13, l14, l15, l16, l17, l18, l19, l20, l21], [], h) Q := t_if k_235_7 rfl
theorem k_235_10 : lk 235 10 = some (.iload_n 3, 11, 3, 0, .null) := by decide +kernel
theorem x_235_10 : Tr sc d 235 (10, [l0, l1, l2, some (.int x), l4, l5, l6, l7, l8, l9, l10, l11, l12, l13, l14, l15, l16, l17, l18, l19, l20, l21], [], h) Q = Tr sc d 235 (11, [l0, l1, l2, some (.int x), l4, l5, l6, l7, l8, l9, l10, l11, l12, l13, l14, l15, l16, l17, l18, l19, l20, l21], [.int x], h) Q := t_iload_n k_235_10 rfl
theorem k_235_11 : lk 235 11 = some (.ireturn, 12, 0, 0, .null) := by decide +kernel
theorem x_235_11 : Tr sc d 235 (11, [l0, l1, l2, l3, l4, l5, l6, l7, l8, l9, l10, l11, l12, l13, l14, l15, l16, l17, l18, l19, l20, l21], [.int i0], h) Q = Q (some (.int i0), h) := t_ret k_235_11 (by rw [r_235]; rfl)
theorem k_235_12 : lk 235 12 = some (.aload_n 0, 13, 0, 0, .null) := by decide +kernel
theorem x_235_12 : Tr sc d 235 (12, [some (.ref xk), l1, l2, l3, l4, l5, l6, l7, l8, l9, l10, l11, l12, l13, l14, l15, l16, l17, l18, l19, l20, l21], [], h) Q = Tr sc d 235 (13, [some (.ref xk), l1, l2, l3, l4, l5, l6, l7, l8, l9, l10, l11, l12, l13, l14, l15, l16, l17, l18, l19, l20, l21], [.ref xk], h) Q := t_aload_n k_235_12 rfl
theorem k_235_13 : lk 235 13 = some (.getfield 35, 16, 10, 16, .null) := by decide +kernel
theorem x_235_13 : Tr sc d 235 (13, [l0, l1, l2, l3, l4, l5, l6, l7, l8, l9, l10, l11, l12, l13, l14, l15, l16, l17, l18, l19, l20, l21], [.ref k0], h) Q = (okp h k0 10 = true ∧ ∃ q, hR h k0 16 = some q ∧ Tr sc d 235 (16, [l0, l1, l2, l3, l4, l5, l6, l7, l8, l9, l10, l11, l12, l13, l14, l15, l16, l17, l18, l19, l20, l21], [.ref q], h) Q) := t_getr k_235_13
theorem k_235_16 : lk 235 16 = some (.iload_n 1, 17, 1, 0, .null) := by decide +kernel
theorem x_235_16 : Tr sc d 235 (16, [l0, some (.int x), l2, l3, l4, l5, l6, l7, l8, l9, l10, l11, l12, l13, l14, l15, l16, l17, l18, l19, l20, l21], [.ref k0], h) Q = Tr sc d 235 (17, [l0, some (.int x), l2, l3, l4, l5, l6, l7, l8, l9, l10, l11, l12, l13, l14, l15, l16, l17, l18, l19, l20, l21], [.int x, .ref k0], h) Q := t_iload_n k_235_16 rfl
theorem k_235_17 : lk 235 17 = some (.iaload, 18, 0, 0, .null) := by decide +kernel
theorem x_235_17 : Tr sc d 235 (17, [l0, l1, l2, l3, l4, l5, l6, l7, l8, l9, l10, l11, l12, l13, l14, l15, l16, l17, l18, l19, l20, l21], [.int i1, .ref k0], h) Q = (iOk sc h k0 i1 ∧ Tr sc d 235 (18, [l0, l1, l2, l3, l4, l5, l6, l7, l8, l9, l10, l11, l12, l13, l14, l15, l16, l17, l18, l19, l20, l21], [.int (iRd sc h k0 i1)], h) Q) := t_iald k_235_17
theorem k_235_18 : lk 235 18 = some (.iconst 4, 19, 0, 0, .int 4) := by decide +kernel
theorem x_235_18 : Tr sc d 235 (18, [l0, l1, l2, l3, l4, l5, l6, l7, l8, l9, l10, l11, l12, l13, l14, l15, l16, l17, l18, l19, l20, l21], [.int i0], h) Q = Tr sc d 235 (19, [l0, l1, l2, l3, l4, l5, l6, l7, l8, l9, l10, l11, l12, l13, l14, l15, l16, l17, l18, l19, l20, l21], [.int 4, .int i0], h) Q := t_go k_235_18 rfl
theorem k_235_19 : lk 235 19 = some (.if_icmp .ne 9, 22, 28, 0, .null) := by decide +kernel
theorem x_235_19 : Tr sc d 235 (19, [l0, l1, l2, l3, l4, l5, l6, l7, l8, l9, l10, l11, l12, l13, l14, l15, l16, l17, l18, l19, l20, l21], [.int i1, .int i0], h) Q = if i0 = i1 then Tr sc d 235 (22, [l0, l1, l2, l3, l4, l5, l6, l7, l8, l9, l10, l11, l12, l13, l14, l15, l16, l17, l18, l19, l20, l21], [], h) Q else Tr sc d 235 (28, [l0, l1, l2, l3, l4, l5, l6, l7, l8, l9, l10, l11, l12, l13, l14, l15, l16, l17, l18, l19, l20, l21], [], h) Q := t_if k_235_19 rfl
theorem k_235_22 : lk 235 22 = some (.aload_n 0, 23, 0, 0, .null) := by decide +kernel
theorem x_235_22 : Tr sc d 235 (22, [some (.ref xk), l1, l2, l3, l4, l5, l6, l7, l8, l9, l10, l11, l12, l13, l14, l15, l16, l17, l18, l19, l20, l21], [], h) Q = Tr sc d 235 (23, [some (.ref xk), l1, l2, l3, l4, l5, l6, l7, l8, l9, l10, l11, l12, l13, l14, l15, l16, l17, l18, l19, l20, l21], [.ref xk], h) Q := t_aload_n k_235_22 rfl
theorem k_235_23 : lk 235 23 = some (.iconst 3, 24, 0, 0, .int 3) := by decide +kernel
theorem x_235_23 : Tr sc d 235 (23, [l0, l1, l2, l3, l4, l5, l6, l7, l8, l9, l10, l11, l12, l13, l14, l15, l16, l17, l18, l19, l20, l21], [.ref k0], h) Q = Tr sc d 235 (24, [l0, l1, l2, l3, l4, l5, l6, l7, l8, l9, l10, l11, l12, l13, l14, l15, l16, l17, l18, l19, l20, l21], [.int 3, .ref k0], h) Q := t_go k_235_23 rfl
theorem k_235_24 : lk 235 24 = some (.invokevirtual 152, 27, 157, 1, .null) := by decide +kernel
theorem x_235_24 : Tr sc (d + 1) 235 (24, [l0, l1, l2, l3, l4, l5, l6, l7, l8, l9, l10, l11, l12, l13, l14, l15, l16, l17, l18, l19, l20, l21], [.int i1, .ref k0], h) Q = (okp h k0 10 = true ∧ Tr sc d 157 (ent0 157 [.ref k0, .int i1] h) (fun z => Tr sc (d + 1) 235 (27, [l0, l1, l2, l3, l4, l5, l6, l7, l8, l9, l10, l11, l12, l13, l14, l15, l16, l17, l18, l19, l20, l21], z.1.toList ++ [], z.2) Q)) := t_cv (as := [.int i1]) (r := []) k_235_24 rfl rfl (Nat.le_of_ble_eq_true rfl) (Nat.le_of_ble_eq_true rfl) (Nat.le_of_ble_eq_true rfl)
theorem k_235_27 : lk 235 27 = some (.ireturn, 28, 0, 0, .null) := by decide +kernel
theorem x_235_27 : Tr sc d 235 (27, [l0, l1, l2, l3, l4, l5, l6, l7, l8, l9, l10, l11, l12, l13, l14, l15, l16, l17, l18, l19, l20, l21], [.int i0], h) Q = Q (some (.int i0), h) := t_ret k_235_27 (by rw [r_235]; rfl)
theorem k_235_28 : lk 235 28 = some (.aload_n 0, 29, 0, 0, .null) := by decide +kernel
theorem x_235_28 : Tr sc d 235 (28, [some (.ref xk), l1, l2, l3, l4, l5, l6, l7, l8, l9, l10, l11, l12, l13, l14, l15, l16, l17, l18, l19, l20, l21], [], h) Q = Tr sc d 235 (29, [some (.ref xk), l1, l2, l3, l4, l5, l6, l7, l8, l9, l10, l11, l12, l13, l14, l15, l16, l17, l18, l19, l20, l21], [.ref xk], h) Q := t_aload_n k_235_28 rfl
theorem k_235_29 : lk 235 29 = some (.getfield 38, 32, 10, 17, .null) := by decide +kernel
theorem x_235_29 : Tr sc d 235 (29, [l0, l1, l2, l3, l4, l5, l6, l7, l8, l9, l10, l11, l12, l13, l14, l15, l16, l17, l18, l19, l20, l21], [.ref k0], h) Q = (okp h k0 10 = true ∧ ∃ q, hR h k0 17 = some q ∧ Tr sc d 235 (32, [l0, l1, l2, l3, l4, l5, l6, l7, l8, l9, l10, l11, l12, l13, l14, l15, l16, l17, l18, l19, l20, l21], [.ref q], h) Q) := t_getr k_235_29
theorem k_235_32 : lk 235 32 = some (.iload_n 1, 33, 1, 0, .null) := by decide +kernel
theorem x_235_32 : Tr sc d 235 (32, [l0, some (.int x), l2, l3, l4, l5, l6, l7, l8, l9, l10, l11, l12, l13, l14, l15, l16, l17, l18, l19, l20, l21], [.ref k0], h) Q = Tr sc d 235 (33, [l0, some (.int x), l2, l3, l4, l5, l6, l7, l8, l9, l10, l11, l12, l13, l14, l15, l16, l17, l18, l19, l20, l21], [.int x, .ref k0], h) Q := t_iload_n k_235_32 rfl
theorem k_235_33 : lk 235 33 = some (.iaload, 34, 0, 0, .null) := by decide +kernel
theorem x_235_33 : Tr sc d 235 (33, [l0, l1, l2, l3, l4, l5, l6, l7, l8, l9, l10, l11, l12, l13, l14, l15, l16, l17, l18, l19, l20, l21], [.int i1, .ref k0], h) Q = (iOk sc h k0 i1 ∧ Tr sc d 235 (34, [l0, l1, l2, l3, l4, l5, l6, l7, l8, l9, l10, l11, l12, l13, l14, l15, l16, l17, l18, l19, l20, l21], [.int (iRd sc h k0 i1)], h) Q) := t_iald k_235_33
theorem k_235_34 : lk 235 34 = some (.i2l, 35, 0, 0, .null) := by decide +kernel
theorem x_235_34 : Tr sc d 235 (34, [l0, l1, l2, l3, l4, l5, l6, l7, l8, l9, l10, l11, l12, l13, l14, l15, l16, l17, l18, l19, l20, l21], [.int i0], h) Q = Tr sc d 235 (35, [l0, l1, l2, l3, l4, l5, l6, l7, l8, l9, l10, l11, l12, l13, l14, l15, l16, l17, l18, l19, l20, l21], [.long i0.toInt64], h) Q := t_go k_235_34 rfl
theorem k_235_35 : lk 235 35 = some (.aload_n 0, 36, 0, 0, .null) := by decide +kernel
theorem x_235_35 : Tr sc d 235 (35, [some (.ref xk), l1, l2, l3, l4, l5, l6, l7, l8, l9, l10, l11, l12, l13, l14, l15, l16, l17, l18, l19, l20, l21], [.long j0], h) Q = Tr sc d 235 (36, [some (.ref xk), l1, l2, l3, l4, l5, l6, l7, l8, l9, l10, l11, l12, l13, l14, l15, l16, l17, l18, l19, l20, l21], [.ref xk, .long j0], h) Q := t_aload_n k_235_35 rfl
theorem k_235_36 : lk 235 36 = some (.iload_n 1, 37, 1, 0, .null) := by decide +kernel
theorem x_235_36 : Tr sc d 235 (36, [l0, some (.int x), l2, l3, l4, l5, l6, l7, l8, l9, l10, l11, l12, l13, l14, l15, l16, l17, l18, l19, l20, l21], [.ref k1, .long j0], h) Q = Tr sc d 235 (37, [l0, some (.int x), l2, l3, l4, l5, l6, l7, l8, l9, l10, l11, l12, l13, l14, l15, l16, l17, l18, l19, l20, l21], [.int x, .ref k1, .long j0], h) Q := t_iload_n k_235_36 rfl
theorem k_235_37 : lk 235 37 = some (.invokevirtual 214, 40, 184, 1, .null) := by decide +kernel
theorem x_235_37 : Tr sc (d + 1) 235 (37, [l0, l1, l2, l3, l4, l5, l6, l7, l8, l9, l10, l11, l12, l13, l14, l15, l16, l17, l18, l19, l20, l21], [.int i2, .ref k1, .long j0], h) Q = (okp h k1 10 = true ∧ Tr sc d 184 (ent0 184 [.ref k1, .int i2] h) (fun z => Tr sc (d + 1) 235 (40, [l0, l1, l2, l3, l4, l5, l6, l7, l8, l9, l10, l11, l12, l13, l14, l15, l16, l17, l18, l19, l20, l21], z.1.toList ++ [.long j0], z.2) Q)) := t_cv (as := [.int i2]) (r := [.long j0]) k_235_37 rfl rfl (Nat.le_of_ble_eq_true rfl) (Nat.le_of_ble_eq_true rfl) (Nat.le_of_ble_eq_true rfl)
theorem k_235_40 : lk 235 40 = some (.i2l, 41, 0, 0, .null) := by decide +kernel
theorem x_235_40 : Tr sc d 235 (40, [l0, l1, l2, l3, l4, l5, l6, l7, l8, l9, l10, l11, l12, l13, l14, l15, l16, l17, l18, l19, l20, l21], [.int i1, .long j0], h) Q = Tr sc d 235 (41, [l0, l1, l2, l3, l4, l5, l6, l7, l8, l9, l10, l11, l12, l13, l14, l15, l16, l17, l18, l19, l20, l21], [.long i1.toInt64, .long j0], h) Q := t_go k_235_40 rfl
theorem k_235_41 : lk 235 41 = some (.lmul, 42, 0, 0, .null) := by decide +kernel
theorem x_235_41 : Tr sc d 235 (41, [l0, l1, l2, l3, l4, l5, l6, l7, l8, l9, l10, l11, l12, l13, l14, l15, l16, l17, l18, l19, l20, l21], [.long j1, .long j0], h) Q = Tr sc d 235 (42, [l0, l1, l2, l3, l4, l5, l6, l7, l8, l9, l10, l11, l12, l13, l14, l15, l16, l17, l18, l19, l20, l21], [.long (j0 * j1)], h) Q := t_go k_235_41 rfl
theorem k_235_42 : lk 235 42 = some (.lstore 4, 44, 4, 0, .null) := by decide +kernel
theorem x_235_42 : Tr sc d 235 (42, [l0, l1, l2, l3, l4, l5, l6, l7, l8, l9, l10, l11, l12, l13, l14, l15, l16, l17, l18, l19, l20, l21], [.long j0], h) Q = Tr sc d 235 (44, [l0, l1, l2, cl2 l3, some (.long j0), none, l6, l7, l8, l9, l10, l11, l12, l13, l14, l15, l16, l17, l18, l19, l20, l21], [], h) Q := t_lstore k_235_42 (Nat.le_of_ble_eq_true rfl)
theorem k_235_44 : lk 235 44 = some (.lload 4, 46, 4, 0, .null) := by decide +kernel
theorem x_235_44 : Tr sc d 235 (44, [l0, l1, l2, l3, some (.long xl), l5, l6, l7, l8, l9, l10, l11, l12, l13, l14, l15, l16, l17, l18, l19, l20, l21], [], h) Q = Tr sc d 235 (46, [l0, l1, l2, l3, some (.long xl), l5, l6, l7, l8, l9, l10, l11, l12, l13, l14, l15, l16, l17, l18, l19, l20, l21], [.long xl], h) Q := t_lload k_235_44 rfl
theorem k_235_46 : lk 235 46 = some (.lstore 6, 48, 6, 0, .null) := by decide +kernel
theorem x_235_46 : Tr sc d 235 (46, [l0, l1, l2, l3, l4, l5, l6, l7, l8, l9, l10, l11, l12, l13, l14, l15, l16, l17, l18, l19, l20, l21], [.long j0], h) Q = Tr sc d 235 (48, [l0, l1, l2, l3, l4, cl2 l5, some (.long j0), none, l8, l9, l10, l11, l12, l13, l14, l15, l16, l17, l18, l19, l20, l21], [], h) Q := t_lstore k_235_46 (Nat.le_of_ble_eq_true rfl)
theorem k_235_48 : lk 235 48 = some (.lconst 0, 49, 0, 0, .long 0) := by decide +kernel
theorem x_235_48 : Tr sc d 235 (48, [l0, l1, l2, l3, l4, l5, l6, l7, l8, l9, l10, l11, l12, l13, l14, l15, l16, l17, l18, l19, l20, l21], [], h) Q = Tr sc d 235 (49, [l0, l1, l2, l3, l4, l5, l6, l7, l8, l9, l10, l11, l12, l13, l14, l15, l16, l17, l18, l19, l20, l21], [.long 0], h) Q := t_go k_235_48 rfl
theorem k_235_49 : lk 235 49 = some (.lstore 8, 51, 8, 0, .null) := by decide +kernel
theorem x_235_49 : Tr sc d 235 (49, [l0, l1, l2, l3, l4, l5, l6, l7, l8, l9, l10, l11, l12, l13, l14, l15, l16, l17, l18, l19, l20, l21], [.long j0], h) Q = Tr sc d 235 (51, [l0, l1, l2, l3, l4, l5, l6, cl2 l7, some (.long j0), none, l10, l11, l12, l13, l14, l15, l16, l17, l18, l19, l20, l21], [], h) Q := t_lstore k_235_49 (Nat.le_of_ble_eq_true rfl)
theorem k_235_51 : lk 235 51 = some (.lconst 0, 52, 0, 0, .long 0) := by decide +kernel
theorem x_235_51 : Tr sc d 235 (51, [l0, l1, l2, l3, l4, l5, l6, l7, l8, l9, l10, l11, l12, l13, l14, l15, l16, l17, l18, l19, l20, l21], [], h) Q = Tr sc d 235 (52, [l0, l1, l2, l3, l4, l5, l6, l7, l8, l9, l10, l11, l12, l13, l14, l15, l16, l17, l18, l19, l20, l21], [.long 0], h) Q := t_go k_235_51 rfl
theorem k_235_52 : lk 235 52 = some (.lstore 10, 54, 10, 0, .null) := by decide +kernel
theorem x_235_52 : Tr sc d 235 (52, [l0, l1, l2, l3, l4, l5, l6, l7, l8, l9, l10, l11, l12, l13, l14, l15, l16, l17, l18, l19, l20, l21], [.long j0], h) Q = Tr sc d 235 (54, [l0, l1, l2, l3, l4, l5, l6, l7, l8, cl2 l9, some (.long j0), none, l12, l13, l14, l15, l16, l17, l18, l19, l20, l21], [], h) Q := t_lstore k_235_52 (Nat.le_of_ble_eq_true rfl)
theorem k_235_54 : lk 235 54 = some (.lload 4, 56, 4, 0, .null) := by decide +kernel
theorem x_235_54 : Tr sc d 235 (54, [l0, l1, l2, l3, some (.long xl), l5, l6, l7, l8, l9, l10, l11, l12, l13, l14, l15, l16, l17, l18, l19, l20, l21], [], h) Q = Tr sc d 235 (56, [l0, l1, l2, l3, some (.long xl), l5, l6, l7, l8, l9, l10, l11, l12, l13, l14, l15, l16, l17, l18, l19, l20, l21], [.long xl], h) Q := t_lload k_235_54 rfl
theorem k_235_56 : lk 235 56 = some (.lstore 12, 58, 12, 0, .null) := by decide +kernel
theorem x_235_56 : Tr sc d 235 (56, [l0, l1, l2, l3, l4, l5, l6, l7, l8, l9, l10, l11, l12, l13, l14, l15, l16, l17, l18, l19, l20, l21], [.long j0], h) Q = Tr sc d 235 (58, [l0, l1, l2, l3, l4, l5, l6, l7, l8, l9, l10, cl2 l11, some (.long j0), none, l14, l15, l16, l17, l18, l19, l20, l21], [], h) Q := t_lstore k_235_56 (Nat.le_of_ble_eq_true rfl)
theorem k_235_58 : lk 235 58 = some (.lconst 0, 59, 0, 0, .long 0) := by decide +kernel
theorem x_235_58 : Tr sc d 235 (58, [l0, l1, l2, l3, l4, l5, l6, l7, l8, l9, l10, l11, l12, l13, l14, l15, l16, l17, l18, l19, l20, l21], [], h) Q = Tr sc d 235 (59, [l0, l1, l2, l3, l4, l5, l6, l7, l8, l9, l10, l11, l12, l13, l14, l15, l16, l17, l18, l19, l20, l21], [.long 0], h) Q := t_go k_235_58 rfl
theorem k_235_59 : lk 235 59 = some (.lstore 14, 61, 14, 0, .null) := by decide +kernel
theorem x_235_59 : Tr sc d 235 (59, [l0, l1, l2, l3, l4, l5, l6, l7, l8, l9, l10, l11, l12, l13, l14, l15, l16, l17, l18, l19, l20, l21], [.long j0], h) Q = Tr sc d 235 (61, [l0, l1, l2, l3, l4, l5, l6, l7, l8, l9, l10, l11, l12, cl2 l13, some (.long j0), none, l16, l17, l18, l19, l20, l21], [], h) Q := t_lstore k_235_59 (Nat.le_of_ble_eq_true rfl)
theorem k_235_61 : lk 235 61 = some (.lconst 0, 62, 0, 0, .long 0) := by decide +kernel
theorem x_235_61 : Tr sc d 235 (61, [l0, l1, l2, l3, l4, l5, l6, l7, l8, l9, l10, l11, l12, l13, l14, l15, l16, l17, l18, l19, l20, l21], [], h) Q = Tr sc d 235 (62, [l0, l1, l2, l3, l4, l5, l6, l7, l8, l9, l10, l11, l12, l13, l14, l15, l16, l17, l18, l19, l20, l21], [.long 0], h) Q := t_go k_235_61 rfl
theorem k_235_62 : lk 235 62 = some (.lstore 16, 64, 16, 0, .null) := by decide +kernel
theorem x_235_62 : Tr sc d 235 (62, [l0, l1, l2, l3, l4, l5, l6, l7, l8, l9, l10, l11, l12, l13, l14, l15, l16, l17, l18, l19, l20, l21], [.long j0], h) Q = Tr sc d 235 (64, [l0, l1, l2, l3, l4, l5, l6, l7, l8, l9, l10, l11, l12, l13, l14, cl2 l15, some (.long j0), none, l18, l19, l20, l21], [], h) Q := t_lstore k_235_62 (Nat.le_of_ble_eq_true rfl)
theorem k_235_64 : lk 235 64 = some (.iconst 0, 65, 0, 0, .int 0) := by decide +kernel
theorem x_235_64 : Tr sc d 235 (64, [l0, l1, l2, l3, l4, l5, l6, l7, l8, l9, l10, l11, l12, l13, l14, l15, l16, l17, l18, l19, l20, l21], [], h) Q = Tr sc d 235 (65, [l0, l1, l2, l3, l4, l5, l6, l7, l8, l9, l10, l11, l12, l13, l14, l15, l16, l17, l18, l19, l20, l21], [.int 0], h) Q := t_go k_235_64 rfl
theorem k_235_65 : lk 235 65 = some (.istore 18, 67, 18, 0, .null) := by decide +kernel
theorem x_235_65 : Tr sc d 235 (65, [l0, l1, l2, l3, l4, l5, l6, l7, l8, l9, l10, l11, l12, l13, l14, l15, l16, l17, l18, l19, l20, l21], [.int i0], h) Q = Tr sc d 235 (67, [l0, l1, l2, l3, l4, l5, l6, l7, l8, l9, l10, l11, l12, l13, l14, l15, l16, cl2 l17, some (.int i0), l19, l20, l21], [], h) Q := t_istore k_235_65 (Nat.le_of_ble_eq_true rfl)
theorem k_235_67 : lk 235 67 = some (.iload 18, 69, 18, 0, .null) := by decide +kernel
theorem x_235_67 : Tr sc d 235 (67, [l0, l1, l2, l3, l4, l5, l6, l7, l8, l9, l10, l11, l12, l13, l14, l15, l16, l17, some (.int x), l19, l20, l21], [], h) Q = Tr sc d 235 (69, [l0, l1, l2, l3, l4, l5, l6, l7, l8, l9, l10, l11, l12, l13, l14, l15, l16, l17, some (.int x), l19, l20, l21], [.int x], h) Q := t_iload k_235_67 rfl
theorem k_235_69 : lk 235 69 = some (.aload_n 0, 70, 0, 0, .null) := by decide +kernel
theorem x_235_69 : Tr sc d 235 (69, [some (.ref xk), l1, l2, l3, l4, l5, l6, l7, l8, l9, l10, l11, l12, l13, l14, l15, l16, l17, l18, l19, l20, l21], [.int i0], h) Q = Tr sc d 235 (70, [some (.ref xk), l1, l2, l3, l4, l5, l6, l7, l8, l9, l10, l11, l12, l13, l14, l15, l16, l17, l18, l19, l20, l21], [.ref xk, .int i0], h) Q := t_aload_n k_235_69 rfl
theorem k_235_70 : lk 235 70 = some (.getfield 41, 73, 10, 18, .null) := by decide +kernel
theorem x_235_70 : Tr sc d 235 (70, [l0, l1, l2, l3, l4, l5, l6, l7, l8, l9, l10, l11, l12, l13, l14, l15, l16, l17, l18, l19, l20, l21], [.ref k1, .int i0], h) Q = (okp h k1 10 = true ∧ ∃ q, hR h k1 18 = some q ∧ Tr sc d 235 (73, [l0, l1, l2, l3, l4, l5, l6, l7, l8, l9, l10, l11, l12, l13, l14, l15, l16, l17, l18, l19, l20, l21], [.ref q, .int i0], h) Q) := t_getr k_235_70
theorem k_235_73 : lk 235 73 = some (.iload_n 1, 74, 1, 0, .null) := by decide +kernel
theorem x_235_73 : Tr sc d 235 (73, [l0, some (.int x), l2, l3, l4, l5, l6, l7, l8, l9, l10, l11, l12, l13, l14, l15, l16, l17, l18, l19, l20, l21], [.ref k1, .int i0], h) Q = Tr sc d 235 (74, [l0, some (.int x), l2, l3, l4, l5, l6, l7, l8, l9, l10, l11, l12, l13, l14, l15, l16, l17, l18, l19, l20, l21], [.int x, .ref k1, .int i0], h) Q := t_iload_n k_235_73 rfl
theorem k_235_74 : lk 235 74 = some (.iaload, 75, 0, 0, .null) := by decide +kernel
theorem x_235_74 : Tr sc d 235 (74, [l0, l1, l2, l3, l4, l5, l6, l7, l8, l9, l10, l11, l12, l13, l14, l15, l16, l17, l18, l19, l20, l21], [.int i2, .ref k1, .int i0], h) Q = (iOk sc h k1 i2 ∧ Tr sc d 235 (75, [l0, l1, l2, l3, l4, l5, l6, l7, l8, l9, l10, l11, l12, l13, l14, l15, l16, l17, l18, l19, l20, l21], [.int (iRd sc h k1 i2), .int i0], h) Q) := t_iald k_235_74
theorem k_235_75 : lk 235 75 = some (.if_icmp .ge 158, 78, 233, 0, .null) := by decide +kernel
theorem x_235_75 : Tr sc d 235 (75, [l0, l1, l2, l3, l4, l5, l6, l7, l8, l9, l10, l11, l12, l13, l14, l15, l16, l17, l18, l19, l20, l21], [.int i1, .int i0], h) Q = if i1 ≤ i0 then Tr sc d 235 (233, [l0, l1, l2, l3, l4, l5, l6, l7, l8, l9, l10, l11, l12, l13, l14, l15, l16, l17, l18, l19, l20, l21], [], h) Q else Tr sc d 235 (78, [l0, l1, l2, l3, l4, l5, l6, l7, l8, l9, l10, l11, l12, l13, l14, l15, l16, l17, l18, l19, l20, l21], [], h) Q := t_if k_235_75 rfl
theorem k_235_78 : lk 235 78 = some (.bipush 6, 80, 0, 0, .int 6) := by decide +kernel
theorem x_235_78 : Tr sc d 235 (78, [l0, l1, l2, l3, l4, l5, l6, l7, l8, l9, l10, l11, l12, l13, l14, l15, l16, l17, l18, l19, l20, l21], [], h) Q = Tr sc d 235 (80, [l0, l1, l2, l3, l4, l5, l6, l7, l8, l9, l10, l11, l12, l13, l14, l15, l16, l17, l18, l19, l20, l21], [.int 6], h) Q := t_go k_235_78 rfl
theorem k_235_80 : lk 235 80 = some (.iload_n 1, 81, 1, 0, .null) := by decide +kernel
theorem x_235_80 : Tr sc d 235 (80, [l0, some (.int x), l2, l3, l4, l5, l6, l7, l8, l9, l10, l11, l12, l13, l14, l15, l16, l17, l18, l19, l20, l21], [.int i0], h) Q = Tr sc d 235 (81, [l0, some (.int x), l2, l3, l4, l5, l6, l7, l8, l9, l10, l11, l12, l13, l14, l15, l16, l17, l18, l19, l20, l21], [.int x, .int i0], h) Q := t_iload_n k_235_80 rfl
theorem k_235_81 : lk 235 81 = some (.imul, 82, 0, 0, .null) := by decide +kernel
theorem x_235_81 : Tr sc d 235 (81, [l0, l1, l2, l3, l4, l5, l6, l7, l8, l9, l10, l11, l12, l13, l14, l15, l16, l17, l18, l19, l20, l21], [.int i1, .int i0], h) Q = Tr sc d 235 (82, [l0, l1, l2, l3, l4, l5, l6, l7, l8, l9, l10, l11, l12, l13, l14, l15, l16, l17, l18, l19, l20, l21], [.int (i0 * i1)], h) Q := t_go k_235_81 rfl
theorem k_235_82 : lk 235 82 = some (.iload 18, 84, 18, 0, .null) := by decide +kernel
theorem x_235_82 : Tr sc d 235 (82, [l0, l1, l2, l3, l4, l5, l6, l7, l8, l9, l10, l11, l12, l13, l14, l15, l16, l17, some (.int x), l19, l20, l21], [.int i0], h) Q = Tr sc d 235 (84, [l0, l1, l2, l3, l4, l5, l6, l7, l8, l9, l10, l11, l12, l13, l14, l15, l16, l17, some (.int x), l19, l20, l21], [.int x, .int i0], h) Q := t_iload k_235_82 rfl
theorem k_235_84 : lk 235 84 = some (.iadd, 85, 0, 0, .null) := by decide +kernel
theorem x_235_84 : Tr sc d 235 (84, [l0, l1, l2, l3, l4, l5, l6, l7, l8, l9, l10, l11, l12, l13, l14, l15, l16, l17, l18, l19, l20, l21], [.int i1, .int i0], h) Q = Tr sc d 235 (85, [l0, l1, l2, l3, l4, l5, l6, l7, l8, l9, l10, l11, l12, l13, l14, l15, l16, l17, l18, l19, l20, l21], [.int (i0 + i1)], h) Q := t_go k_235_84 rfl
theorem k_235_85 : lk 235 85 = some (.istore 19, 87, 19, 0, .null) := by decide +kernel
theorem x_235_85 : Tr sc d 235 (85, [l0, l1, l2, l3, l4, l5, l6, l7, l8, l9, l10, l11, l12, l13, l14, l15, l16, l17, l18, l19, l20, l21], [.int i0], h) Q = Tr sc d 235 (87, [l0, l1, l2, l3, l4, l5, l6, l7, l8, l9, l10, l11, l12, l13, l14, l15, l16, l17, cl2 l18, some (.int i0), l20, l21], [], h) Q := t_istore k_235_85 (Nat.le_of_ble_eq_true rfl)
theorem k_235_87 : lk 235 87 = some (.aload_n 0, 88, 0, 0, .null) := by decide +kernel
theorem x_235_87 : Tr sc d 235 (87, [some (.ref xk), l1, l2, l3, l4, l5, l6, l7, l8, l9, l10, l11, l12, l13, l14, l15, l16, l17, l18, l19, l20, l21], [], h) Q = Tr sc d 235 (88, [some (.ref xk), l1, l2, l3, l4, l5, l6, l7, l8, l9, l10, l11, l12, l13, l14, l15, l16, l17, l18, l19, l20, l21], [.ref xk], h) Q := t_aload_n k_235_87 rfl
theorem k_235_88 : lk 235 88 = some (.getfield 35, 91, 10, 16, .null) := by decide +kernel
theorem x_235_88 : Tr sc d 235 (88, [l0, l1, l2, l3, l4, l5, l6, l7, l8, l9, l10, l11, l12, l13, l14, l15, l16, l17, l18, l19, l20, l21], [.ref k0], h) Q = (okp h k0 10 = true ∧ ∃ q, hR h k0 16 = some q ∧ Tr sc d 235 (91, [l0, l1, l2, l3, l4, l5, l6, l7, l8, l9, l10, l11, l12, l13, l14, l15, l16, l17, l18, l19, l20, l21], [.ref q], h) Q) := t_getr k_235_88
theorem k_235_91 : lk 235 91 = some (.iload_n 1, 92, 1, 0, .null) := by decide +kernel
theorem x_235_91 : Tr sc d 235 (91, [l0, some (.int x), l2, l3, l4, l5, l6, l7, l8, l9, l10, l11, l12, l13, l14, l15, l16, l17, l18, l19, l20, l21], [.ref k0], h) Q = Tr sc d 235 (92, [l0, some (.int x), l2, l3, l4, l5, l6, l7, l8, l9, l10, l11, l12, l13, l14, l15, l16, l17, l18, l19, l20, l21], [.int x, .ref k0], h) Q := t_iload_n k_235_91 rfl
theorem k_235_92 : lk 235 92 = some (.iaload, 93, 0, 0, .null) := by decide +kernel
theorem x_235_92 : Tr sc d 235 (92, [l0, l1, l2, l3, l4, l5, l6, l7, l8, l9, l10, l11, l12, l13, l14, l15, l16, l17, l18, l19, l20, l21], [.int i1, .ref k0], h) Q = (iOk sc h k0 i1 ∧ Tr sc d 235 (93, [l0, l1, l2, l3, l4, l5, l6, l7, l8, l9, l10, l11, l12, l13, l14, l15, l16, l17, l18, l19, l20, l21], [.int (iRd sc h k0 i1)], h) Q) := t_iald k_235_92
theorem k_235_93 : lk 235 93 = some (.iconst 3, 94, 0, 0, .int 3) := by decide +kernel
theorem x_235_93 : Tr sc d 235 (93, [l0, l1, l2, l3, l4, l5, l6, l7, l8, l9, l10, l11, l12, l13, l14, l15, l16, l17, l18, l19, l20, l21], [.int i0], h) Q = Tr sc d 235 (94, [l0, l1, l2, l3, l4, l5, l6, l7, l8, l9, l10, l11, l12, l13, l14, l15, l16, l17, l18, l19, l20, l21], [.int 3, .int i0], h) Q := t_go k_235_93 rfl
theorem k_235_94 : lk 235 94 = some (.if_icmp .ne 14, 97, 108, 0, .null) := by decide +kernel
theorem x_235_94 : Tr sc d 235 (94, [l0, l1, l2, l3, l4, l5, l6, l7, l8, l9, l10, l11, l12, l13, l14, l15, l16, l17, l18, l19, l20, l21], [.int i1, .int i0], h) Q = if i0 = i1 then Tr sc d 235 (97, [l0, l1, l2, l3, l4, l5, l6, l7, l8, l9, l10, l11, l12, l13, l14, l15, l16, l17, l18, l19, l20, l21], [], h) Q else Tr sc d 235 (108, [l0, l1, l2, l3, l4, l5, l6, l7, l8, l9, l10, l11, l12, l13, l14, l15, l16, l17, l18, l19, l20, l21], [], h) Q := t_if k_235_94 rfl
theorem k_235_97 : lk 235 97 = some (.aload_n 0, 98, 0, 0, .null) := by decide +kernel
theorem x_235_97 : Tr sc d 235 (97, [some (.ref xk), l1, l2, l3, l4, l5, l6, l7, l8, l9, l10, l11, l12, l13, l14, l15, l16, l17, l18, l19, l20, l21], [], h) Q = Tr sc d 235 (98, [some (.ref xk), l1, l2, l3, l4, l5, l6, l7, l8, l9, l10, l11, l12, l13, l14, l15, l16, l17, l18, l19, l20, l21], [.ref xk], h) Q := t_aload_n k_235_97 rfl
theorem k_235_98 : lk 235 98 = some (.getfield 53, 101, 10, 22, .null) := by decide +kernel
theorem x_235_98 : Tr sc d 235 (98, [l0, l1, l2, l3, l4, l5, l6, l7, l8, l9, l10, l11, l12, l13, l14, l15, l16, l17, l18, l19, l20, l21], [.ref k0], h) Q = (okp h k0 10 = true ∧ ∃ q, hR h k0 22 = some q ∧ Tr sc d 235 (101, [l0, l1, l2, l3, l4, l5, l6, l7, l8, l9, l10, l11, l12, l13, l14, l15, l16, l17, l18, l19, l20, l21], [.ref q], h) Q) := t_getr k_235_98
theorem k_235_101 : lk 235 101 = some (.iload 19, 103, 19, 0, .null) := by decide +kernel
theorem x_235_101 : Tr sc d 235 (101, [l0, l1, l2, l3, l4, l5, l6, l7, l8, l9, l10, l11, l12, l13, l14, l15, l16, l17, l18, some (.int x), l20, l21], [.ref k0], h) Q = Tr sc d 235 (103, [l0, l1, l2, l3, l4, l5, l6, l7, l8, l9, l10, l11, l12, l13, l14, l15, l16, l17, l18, some (.int x), l20, l21], [.int x, .ref k0], h) Q := t_iload k_235_101 rfl
theorem k_235_103 : lk 235 103 = some (.iaload, 104, 0, 0, .null) := by decide +kernel
theorem x_235_103 : Tr sc d 235 (103, [l0, l1, l2, l3, l4, l5, l6, l7, l8, l9, l10, l11, l12, l13, l14, l15, l16, l17, l18, l19, l20, l21], [.int i1, .ref k0], h) Q = (iOk sc h k0 i1 ∧ Tr sc d 235 (104, [l0, l1, l2, l3, l4, l5, l6, l7, l8, l9, l10, l11, l12, l13, l14, l15, l16, l17, l18, l19, l20, l21], [.int (iRd sc h k0 i1)], h) Q) := t_iald k_235_103
theorem k_235_104 : lk 235 104 = some (.i2l, 105, 0, 0, .null) := by decide +kernel
theorem x_235_104 : Tr sc d 235 (104, [l0, l1, l2, l3, l4, l5, l6, l7, l8, l9, l10, l11, l12, l13, l14, l15, l16, l17, l18, l19, l20, l21], [.int i0], h) Q = Tr sc d 235 (105, [l0, l1, l2, l3, l4, l5, l6, l7, l8, l9, l10, l11, l12, l13, l14, l15, l16, l17, l18, l19, l20, l21], [.long i0.toInt64], h) Q := t_go k_235_104 rfl
theorem k_235_105 : lk 235 105 = some (.goto 4, 108, 109, 0, .null) := by decide +kernel
theorem x_235_105 : Tr sc d 235 (105, [l0, l1, l2, l3, l4, l5, l6, l7, l8, l9, l10, l11, l12, l13, l14, l15, l16, l17, l18, l19, l20, l21], [.long j0], h) Q = Tr sc d 235 (109, [l0, l1, l2, l3, l4, l5, l6, l7, l8, l9, l10, l11, l12, l13, l14, l15, l16, l17, l18, l19, l20, l21], [.long j0], h) Q := t_go k_235_105 rfl
theorem k_235_108 : lk 235 108 = some (.lconst 1, 109, 0, 0, .long 1) := by decide +kernel
theorem x_235_108 : Tr sc d 235 (108, [l0, l1, l2, l3, l4, l5, l6, l7, l8, l9, l10, l11, l12, l13, l14, l15, l16, l17, l18, l19, l20, l21], [], h) Q = Tr sc d 235 (109, [l0, l1, l2, l3, l4, l5, l6, l7, l8, l9, l10, l11, l12, l13, l14, l15, l16, l17, l18, l19, l20, l21], [.long 1], h) Q := t_go k_235_108 rfl
theorem k_235_109 : lk 235 109 = some (.lstore 20, 111, 20, 0, .null) := by decide +kernel
theorem x_235_109 : Tr sc d 235 (109, [l0, l1, l2, l3, l4, l5, l6, l7, l8, l9, l10, l11, l12, l13, l14, l15, l16, l17, l18, l19, l20, l21], [.long j0], h) Q = Tr sc d 235 (111, [l0, l1, l2, l3, l4, l5, l6, l7, l8, l9, l10, l11, l12, l13, l14, l15, l16, l17, l18, cl2 l19, some (.long j0), none], [], h) Q := t_lstore k_235_109 (Nat.le_of_ble_eq_true rfl)
theorem k_235_111 : lk 235 111 = some (.lload 6, 113, 6, 0, .null) := by decide +kernel
theorem x_235_111 : Tr sc d 235 (111, [l0, l1, l2, l3, l4, l5, some (.long xl), l7, l8, l9, l10, l11, l12, l13, l14, l15, l16, l17, l18, l19, l20, l21], [], h) Q = Tr sc d 235 (113, [l0, l1, l2, l3, l4, l5, some (.long xl), l7, l8, l9, l10, l11, l12, l13, l14, l15, l16, l17, l18, l19, l20, l21], [.long xl], h) Q := t_lload k_235_111 rfl
theorem k_235_113 : lk 235 113 = some (.lload 20, 115, 20, 0, .null) := by decide +kernel
theorem x_235_113 : Tr sc d 235 (113, [l0, l1, l2, l3, l4, l5, l6, l7, l8, l9, l10, l11, l12, l13, l14, l15, l16, l17, l18, l19, some (.long xl), l21], [.long j0], h) Q = Tr sc d 235 (115, [l0, l1, l2, l3, l4, l5, l6, l7, l8, l9, l10, l11, l12, l13, l14, l15, l16, l17, l18, l19, some (.long xl), l21], [.long xl, .long j0], h) Q := t_lload k_235_113 rfl
theorem k_235_115 : lk 235 115 = some (.aload_n 0, 116, 0, 0, .null) := by decide +kernel
theorem x_235_115 : Tr sc d 235 (115, [some (.ref xk), l1, l2, l3, l4, l5, l6, l7, l8, l9, l10, l11, l12, l13, l14, l15, l16, l17, l18, l19, l20, l21], [.long j1, .long j0], h) Q = Tr sc d 235 (116, [some (.ref xk), l1, l2, l3, l4, l5, l6, l7, l8, l9, l10, l11, l12, l13, l14, l15, l16, l17, l18, l19, l20, l21], [.ref xk, .long j1, .long j0], h) Q := t_aload_n k_235_115 rfl
theorem k_235_116 : lk 235 116 = some (.getfield 44, 119, 10, 19, .null) := by decide +kernel
theorem x_235_116 : Tr sc d 235 (116, [l0, l1, l2, l3, l4, l5, l6, l7, l8, l9, l10, l11, l12, l13, l14, l15, l16, l17, l18, l19, l20, l21], [.ref k2, .long j1, .long j0], h) Q = (okp h k2 10 = true ∧ ∃ q, hR h k2 19 = some q ∧ Tr sc d 235 (119, [l0, l1, l2, l3, l4, l5, l6, l7, l8, l9, l10, l11, l12, l13, l14, l15, l16, l17, l18, l19, l20, l21], [.ref q, .long j1, .long j0], h) Q) := t_getr k_235_116
theorem k_235_119 : lk 235 119 = some (.iload 19, 121, 19, 0, .null) := by decide +kernel
theorem x_235_119 : Tr sc d 235 (119, [l0, l1, l2, l3, l4, l5, l6, l7, l8, l9, l10, l11, l12, l13, l14, l15, l16, l17, l18, some (.int x), l20, l21], [.ref k2, .long j1, .long j0], h) Q = Tr sc d 235 (121, [l0, l1, l2, l3, l4, l5, l6, l7, l8, l9, l10, l11, l12, l13, l14, l15, l16, l17, l18, some (.int x), l20, l21], [.int x, .ref k2, .long j1, .long j0], h) Q := t_iload k_235_119 rfl
theorem k_235_121 : lk 235 121 = some (.iaload, 122, 0, 0, .null) := by decide +kernel
theorem x_235_121 : Tr sc d 235 (121, [l0, l1, l2, l3, l4, l5, l6, l7, l8, l9, l10, l11, l12, l13, l14, l15, l16, l17, l18, l19, l20, l21], [.int i3, .ref k2, .long j1, .long j0], h) Q = (iOk sc h k2 i3 ∧ Tr sc d 235 (122, [l0, l1, l2, l3, l4, l5, l6, l7, l8, l9, l10, l11, l12, l13, l14, l15, l16, l17, l18, l19, l20, l21], [.int (iRd sc h k2 i3), .long j1, .long j0], h) Q) := t_iald k_235_121
theorem k_235_122 : lk 235 122 = some (.iconst 1, 123, 0, 0, .int 1) := by decide +kernel
theorem x_235_122 : Tr sc d 235 (122, [l0, l1, l2, l3, l4, l5, l6, l7, l8, l9, l10, l11, l12, l13, l14, l15, l16, l17, l18, l19, l20, l21], [.int i2, .long j1, .long j0], h) Q = Tr sc d 235 (123, [l0, l1, l2, l3, l4, l5, l6, l7, l8, l9, l10, l11, l12, l13, l14, l15, l16, l17, l18, l19, l20, l21], [.int 1, .int i2, .long j1, .long j0], h) Q := t_go k_235_122 rfl
theorem k_235_123 : lk 235 123 = some (.iconst 0, 124, 0, 0, .int 0) := by decide +kernel
theorem x_235_123 : Tr sc d 235 (123, [l0, l1, l2, l3, l4, l5, l6, l7, l8, l9, l10, l11, l12, l13, l14, l15, l16, l17, l18, l19, l20, l21], [.int i3, .int i2, .long j1, .long j0], h) Q = Tr sc d 235 (124, [l0, l1, l2, l3, l4, l5, l6, l7, l8, l9, l10, l11, l12, l13, l14, l15, l16, l17, l18, l19, l20, l21], [.int 0, .int i3, .int i2, .long j1, .long j0], h) Q := t_go k_235_123 rfl
theorem k_235_124 : lk 235 124 = some (.invokestatic 250, 127, 177, 3, .null) := by decide +kernel
theorem x_235_124 : Tr sc (d + 1) 235 (124, [l0, l1, l2, l3, l4, l5, l6, l7, l8, l9, l10, l11, l12, l13, l14, l15, l16, l17, l18, l19, l20, l21], [.int i4, .int i3, .int i2, .long j1, .long j0], h) Q = Tr sc d 177 (ent0 177 [.int i2, .int i3, .int i4] h) (fun z => Tr sc (d + 1) 235 (127, [l0, l1, l2, l3, l4, l5, l6, l7, l8, l9, l10, l11, l12, l13, l14, l15, l16, l17, l18, l19, l20, l21], z.1.toList ++ [.long j1, .long j0], z.2) Q) := t_cs (as := [.int i2, .int i3, .int i4]) (r := [.long j1, .long j0]) k_235_124 (by decide) rfl rfl (Nat.le_of_ble_eq_true rfl) (Nat.le_of_ble_eq_true rfl)
theorem k_235_127 : lk 235 127 = some (.i2l, 128, 0, 0, .null) := by decide +kernel
theorem x_235_127 : Tr sc d 235 (127, [l0, l1, l2, l3, l4, l5, l6, l7, l8, l9, l10, l11, l12, l13, l14, l15, l16, l17, l18, l19, l20, l21], [.int i2, .long j1, .long j0], h) Q = Tr sc d 235 (128, [l0, l1, l2, l3, l4, l5, l6, l7, l8, l9, l10, l11, l12, l13, l14, l15, l16, l17, l18, l19, l20, l21], [.long i2.toInt64, .long j1, .long j0], h) Q := t_go k_235_127 rfl
theorem k_235_128 : lk 235 128 = some (.lmul, 129, 0, 0, .null) := by decide +kernel
theorem x_235_128 : Tr sc d 235 (128, [l0, l1, l2, l3, l4, l5, l6, l7, l8, l9, l10, l11, l12, l13, l14, l15, l16, l17, l18, l19, l20, l21], [.long j2, .long j1, .long j0], h) Q = Tr sc d 235 (129, [l0, l1, l2, l3, l4, l5, l6, l7, l8, l9, l10, l11, l12, l13, l14, l15, l16, l17, l18, l19, l20, l21], [.long (j1 * j2), .long j0], h) Q := t_go k_235_128 rfl
theorem k_235_129 : lk 235 129 = some (.lsub, 130, 0, 0, .null) := by decide +kernel
theorem x_235_129 : Tr sc d 235 (129, [l0, l1, l2, l3, l4, l5, l6, l7, l8, l9, l10, l11, l12, l13, l14, l15, l16, l17, l18, l19, l20, l21], [.long j1, .long j0], h) Q = Tr sc d 235 (130, [l0, l1, l2, l3, l4, l5, l6, l7, l8, l9, l10, l11, l12, l13, l14, l15, l16, l17, l18, l19, l20, l21], [.long (j0 - j1)], h) Q := t_go k_235_129 rfl
theorem k_235_130 : lk 235 130 = some (.lstore 6, 132, 6, 0, .null) := by decide +kernel
theorem x_235_130 : Tr sc d 235 (130, [l0, l1, l2, l3, l4, l5, l6, l7, l8, l9, l10, l11, l12, l13, l14, l15, l16, l17, l18, l19, l20, l21], [.long j0], h) Q = Tr sc d 235 (132, [l0, l1, l2, l3, l4, cl2 l5, some (.long j0), none, l8, l9, l10, l11, l12, l13, l14, l15, l16, l17, l18, l19, l20, l21], [], h) Q := t_lstore k_235_130 (Nat.le_of_ble_eq_true rfl)
theorem k_235_132 : lk 235 132 = some (.lload 10, 134, 10, 0, .null) := by decide +kernel
theorem x_235_132 : Tr sc d 235 (132, [l0, l1, l2, l3, l4, l5, l6, l7, l8, l9, some (.long xl), l11, l12, l13, l14, l15, l16, l17, l18, l19, l20, l21], [], h) Q = Tr sc d 235 (134, [l0, l1, l2, l3, l4, l5, l6, l7, l8, l9, some (.long xl), l11, l12, l13, l14, l15, l16, l17, l18, l19, l20, l21], [.long xl], h) Q := t_lload k_235_132 rfl
theorem k_235_134 : lk 235 134 = some (.lload 20, 136, 20, 0, .null) := by decide +kernel
theorem x_235_134 : Tr sc d 235 (134, [l0, l1, l2, l3, l4, l5, l6, l7, l8, l9, l10, l11, l12, l13, l14, l15, l16, l17, l18, l19, some (.long xl), l21], [.long j0], h) Q = Tr sc d 235 (136, [l0, l1, l2, l3, l4, l5, l6, l7, l8, l9, l10, l11, l12, l13, l14, l15, l16, l17, l18, l19, some (.long xl), l21], [.long xl, .long j0], h) Q := t_lload k_235_134 rfl
theorem k_235_136 : lk 235 136 = some (.aload_n 0, 137, 0, 0, .null) := by decide +kernel
theorem x_235_136 : Tr sc d 235 (136, [some (.ref xk), l1, l2, l3, l4, l5, l6, l7, l8, l9, l10, l11, l12, l13, l14, l15, l16, l17, l18, l19, l20, l21], [.long j1, .long j0], h) Q = Tr sc d 235 (137, [some (.ref xk), l1, l2, l3, l4, l5, l6, l7, l8, l9, l10, l11, l12, l13, l14, l15, l16, l17, l18, l19, l20, l21], [.ref xk, .long j1, .long j0], h) Q := t_aload_n k_235_136 rfl
theorem k_235_137 : lk 235 137 = some (.getfield 44, 140, 10, 19, .null) := by decide +kernel
theorem x_235_137 : Tr sc d 235 (137, [l0, l1, l2, l3, l4, l5, l6, l7, l8, l9, l10, l11, l12, l13, l14, l15, l16, l17, l18, l19, l20, l21], [.ref k2, .long j1, .long j0], h) Q = (okp h k2 10 = true ∧ ∃ q, hR h k2 19 = some q ∧ Tr sc d 235 (140, [l0, l1, l2, l3, l4, l5, l6, l7, l8, l9, l10, l11, l12, l13, l14, l15, l16, l17, l18, l19, l20, l21], [.ref q, .long j1, .long j0], h) Q) := t_getr k_235_137
theorem k_235_140 : lk 235 140 = some (.iload 19, 142, 19, 0, .null) := by decide +kernel
theorem x_235_140 : Tr sc d 235 (140, [l0, l1, l2, l3, l4, l5, l6, l7, l8, l9, l10, l11, l12, l13, l14, l15, l16, l17, l18, some (.int x), l20, l21], [.ref k2, .long j1, .long j0], h) Q = Tr sc d 235 (142, [l0, l1, l2, l3, l4, l5, l6, l7, l8, l9, l10, l11, l12, l13, l14, l15, l16, l17, l18, some (.int x), l20, l21], [.int x, .ref k2, .long j1, .long j0], h) Q := t_iload k_235_140 rfl
theorem k_235_142 : lk 235 142 = some (.iaload, 143, 0, 0, .null) := by decide +kernel
theorem x_235_142 : Tr sc d 235 (142, [l0, l1, l2, l3, l4, l5, l6, l7, l8, l9, l10, l11, l12, l13, l14, l15, l16, l17, l18, l19, l20, l21], [.int i3, .ref k2, .long j1, .long j0], h) Q = (iOk sc h k2 i3 ∧ Tr sc d 235 (143, [l0, l1, l2, l3, l4, l5, l6, l7, l8, l9, l10, l11, l12, l13, l14, l15, l16, l17, l18, l19, l20, l21], [.int (iRd sc h k2 i3), .long j1, .long j0], h) Q) := t_iald k_235_142
theorem k_235_143 : lk 235 143 = some (.iconst 1, 144, 0, 0, .int 1) := by decide +kernel
theorem x_235_143 : Tr sc d 235 (143, [l0, l1, l2, l3, l4, l5, l6, l7, l8, l9, l10, l11, l12, l13, l14, l15, l16, l17, l18, l19, l20, l21], [.int i2, .long j1, .long j0], h) Q = Tr sc d 235 (144, [l0, l1, l2, l3, l4, l5, l6, l7, l8, l9, l10, l11, l12, l13, l14, l15, l16, l17, l18, l19, l20, l21], [.int 1, .int i2, .long j1, .long j0], h) Q := t_go k_235_143 rfl
theorem k_235_144 : lk 235 144 = some (.iconst 0, 145, 0, 0, .int 0) := by decide +kernel
theorem x_235_144 : Tr sc d 235 (144, [l0, l1, l2, l3, l4, l5, l6, l7, l8, l9, l10, l11, l12, l13, l14, l15, l16, l17, l18, l19, l20, l21], [.int i3, .int i2, .long j1, .long j0], h) Q = Tr sc d 235 (145, [l0, l1, l2, l3, l4, l5, l6, l7, l8, l9, l10, l11, l12, l13, l14, l15, l16, l17, l18, l19, l20, l21], [.int 0, .int i3, .int i2, .long j1, .long j0], h) Q := t_go k_235_144 rfl
theorem k_235_145 : lk 235 145 = some (.invokestatic 254, 148, 178, 3, .null) := by decide +kernel
theorem x_235_145 : Tr sc (d + 1) 235 (145, [l0, l1, l2, l3, l4, l5, l6, l7, l8, l9, l10, l11, l12, l13, l14, l15, l16, l17, l18, l19, l20, l21], [.int i4, .int i3, .int i2, .long j1, .long j0], h) Q = Tr sc d 178 (ent0 178 [.int i2, .int i3, .int i4] h) (fun z => Tr sc (d + 1) 235 (148, [l0, l1, l2, l3, l4, l5, l6, l7, l8, l9, l10, l11, l12, l13, l14, l15, l16, l17, l18, l19, l20, l21], z.1.toList ++ [.long j1, .long j0], z.2) Q) := t_cs (as := [.int i2, .int i3, .int i4]) (r := [.long j1, .long j0]) k_235_145 (by decide) rfl rfl (Nat.le_of_ble_eq_true rfl) (Nat.le_of_ble_eq_true rfl)
theorem k_235_148 : lk 235 148 = some (.i2l, 149, 0, 0, .null) := by decide +kernel
theorem x_235_148 : Tr sc d 235 (148, [l0, l1, l2, l3, l4, l5, l6, l7, l8, l9, l10, l11, l12, l13, l14, l15, l16, l17, l18, l19, l20, l21], [.int i2, .long j1, .long j0], h) Q = Tr sc d 235 (149, [l0, l1, l2, l3, l4, l5, l6, l7, l8, l9, l10, l11, l12, l13, l14, l15, l16, l17, l18, l19, l20, l21], [.long i2.toInt64, .long j1, .long j0], h) Q := t_go k_235_148 rfl
theorem k_235_149 : lk 235 149 = some (.lmul, 150, 0, 0, .null) := by decide +kernel
theorem x_235_149 : Tr sc d 235 (149, [l0, l1, l2, l3, l4, l5, l6, l7, l8, l9, l10, l11, l12, l13, l14, l15, l16, l17, l18, l19, l20, l21], [.long j2, .long j1, .long j0], h) Q = Tr sc d 235 (150, [l0, l1, l2, l3, l4, l5, l6, l7, l8, l9, l10, l11, l12, l13, l14, l15, l16, l17, l18, l19, l20, l21], [.long (j1 * j2), .long j0], h) Q := t_go k_235_149 rfl
theorem k_235_150 : lk 235 150 = some (.lsub, 151, 0, 0, .null) := by decide +kernel
theorem x_235_150 : Tr sc d 235 (150, [l0, l1, l2, l3, l4, l5, l6, l7, l8, l9, l10, l11, l12, l13, l14, l15, l16, l17, l18, l19, l20, l21], [.long j1, .long j0], h) Q = Tr sc d 235 (151, [l0, l1, l2, l3, l4, l5, l6, l7, l8, l9, l10, l11, l12, l13, l14, l15, l16, l17, l18, l19, l20, l21], [.long (j0 - j1)], h) Q := t_go k_235_150 rfl
theorem k_235_151 : lk 235 151 = some (.lstore 10, 153, 10, 0, .null) := by decide +kernel
theorem x_235_151 : Tr sc d 235 (151, [l0, l1, l2, l3, l4, l5, l6, l7, l8, l9, l10, l11, l12, l13, l14, l15, l16, l17, l18, l19, l20, l21], [.long j0], h) Q = Tr sc d 235 (153, [l0, l1, l2, l3, l4, l5, l6, l7, l8, cl2 l9, some (.long j0), none, l12, l13, l14, l15, l16, l17, l18, l19, l20, l21], [], h) Q := t_lstore k_235_151 (Nat.le_of_ble_eq_true rfl)
theorem k_235_153 : lk 235 153 = some (.lload 8, 155, 8, 0, .null) := by decide +kernel
theorem x_235_153 : Tr sc d 235 (153, [l0, l1, l2, l3, l4, l5, l6, l7, some (.long xl), l9, l10, l11, l12, l13, l14, l15, l16, l17, l18, l19, l20, l21], [], h) Q = Tr sc d 235 (155, [l0, l1, l2, l3, l4, l5, l6, l7, some (.long xl), l9, l10, l11, l12, l13, l14, l15, l16, l17, l18, l19, l20, l21], [.long xl], h) Q := t_lload k_235_153 rfl
theorem k_235_155 : lk 235 155 = some (.lload 20, 157, 20, 0, .null) := by decide +kernel
theorem x_235_155 : Tr sc d 235 (155, [l0, l1, l2, l3, l4, l5, l6, l7, l8, l9, l10, l11, l12, l13, l14, l15, l16, l17, l18, l19, some (.long xl), l21], [.long j0], h) Q = Tr sc d 235 (157, [l0, l1, l2, l3, l4, l5, l6, l7, l8, l9, l10, l11, l12, l13, l14, l15, l16, l17, l18, l19, some (.long xl), l21], [.long xl, .long j0], h) Q := t_lload k_235_155 rfl
theorem k_235_157 : lk 235 157 = some (.aload_n 0, 158, 0, 0, .null) := by decide +kernel
theorem x_235_157 : Tr sc d 235 (157, [some (.ref xk), l1, l2, l3, l4, l5, l6, l7, l8, l9, l10, l11, l12, l13, l14, l15, l16, l17, l18, l19, l20, l21], [.long j1, .long j0], h) Q = Tr sc d 235 (158, [some (.ref xk), l1, l2, l3, l4, l5, l6, l7, l8, l9, l10, l11, l12, l13, l14, l15, l16, l17, l18, l19, l20, l21], [.ref xk, .long j1, .long j0], h) Q := t_aload_n k_235_157 rfl
theorem k_235_158 : lk 235 158 = some (.getfield 44, 161, 10, 19, .null) := by decide +kernel
theorem x_235_158 : Tr sc d 235 (158, [l0, l1, l2, l3, l4, l5, l6, l7, l8, l9, l10, l11, l12, l13, l14, l15, l16, l17, l18, l19, l20, l21], [.ref k2, .long j1, .long j0], h) Q = (okp h k2 10 = true ∧ ∃ q, hR h k2 19 = some q ∧ Tr sc d 235 (161, [l0, l1, l2, l3, l4, l5, l6, l7, l8, l9, l10, l11, l12, l13, l14, l15, l16, l17, l18, l19, l20, l21], [.ref q, .long j1, .long j0], h) Q) := t_getr k_235_158
theorem k_235_161 : lk 235 161 = some (.iload 19, 163, 19, 0, .null) := by decide +kernel
theorem x_235_161 : Tr sc d 235 (161, [l0, l1, l2, l3, l4, l5, l6, l7, l8, l9, l10, l11, l12, l13, l14, l15, l16, l17, l18, some (.int x), l20, l21], [.ref k2, .long j1, .long j0], h) Q = Tr sc d 235 (163, [l0, l1, l2, l3, l4, l5, l6, l7, l8, l9, l10, l11, l12, l13, l14, l15, l16, l17, l18, some (.int x), l20, l21], [.int x, .ref k2, .long j1, .long j0], h) Q := t_iload k_235_161 rfl
theorem k_235_163 : lk 235 163 = some (.iaload, 164, 0, 0, .null) := by decide +kernel
theorem x_235_163 : Tr sc d 235 (163, [l0, l1, l2, l3, l4, l5, l6, l7, l8, l9, l10, l11, l12, l13, l14, l15, l16, l17, l18, l19, l20, l21], [.int i3, .ref k2, .long j1, .long j0], h) Q = (iOk sc h k2 i3 ∧ Tr sc d 235 (164, [l0, l1, l2, l3, l4, l5, l6, l7, l8, l9, l10, l11, l12, l13, l14, l15, l16, l17, l18, l19, l20, l21], [.int (iRd sc h k2 i3), .long j1, .long j0], h) Q) := t_iald k_235_163
theorem k_235_164 : lk 235 164 = some (.iconst 0, 165, 0, 0, .int 0) := by decide +kernel
theorem x_235_164 : Tr sc d 235 (164, [l0, l1, l2, l3, l4, l5, l6, l7, l8, l9, l10, l11, l12, l13, l14, l15, l16, l17, l18, l19, l20, l21], [.int i2, .long j1, .long j0], h) Q = Tr sc d 235 (165, [l0, l1, l2, l3, l4, l5, l6, l7, l8, l9, l10, l11, l12, l13, l14, l15, l16, l17, l18, l19, l20, l21], [.int 0, .int i2, .long j1, .long j0], h) Q := t_go k_235_164 rfl
theorem k_235_165 : lk 235 165 = some (.iconst 1, 166, 0, 0, .int 1) := by decide +kernel
theorem x_235_165 : Tr sc d 235 (165, [l0, l1, l2, l3, l4, l5, l6, l7, l8, l9, l10, l11, l12, l13, l14, l15, l16, l17, l18, l19, l20, l21], [.int i3, .int i2, .long j1, .long j0], h) Q = Tr sc d 235 (166, [l0, l1, l2, l3, l4, l5, l6, l7, l8, l9, l10, l11, l12, l13, l14, l15, l16, l17, l18, l19, l20, l21], [.int 1, .int i3, .int i2, .long j1, .long j0], h) Q := t_go k_235_165 rfl
theorem k_235_166 : lk 235 166 = some (.invokestatic 250, 169, 177, 3, .null) := by decide +kernel
theorem x_235_166 : Tr sc (d + 1) 235 (166, [l0, l1, l2, l3, l4, l5, l6, l7, l8, l9, l10, l11, l12, l13, l14, l15, l16, l17, l18, l19, l20, l21], [.int i4, .int i3, .int i2, .long j1, .long j0], h) Q = Tr sc d 177 (ent0 177 [.int i2, .int i3, .int i4] h) (fun z => Tr sc (d + 1) 235 (169, [l0, l1, l2, l3, l4, l5, l6, l7, l8, l9, l10, l11, l12, l13, l14, l15, l16, l17, l18, l19, l20, l21], z.1.toList ++ [.long j1, .long j0], z.2) Q) := t_cs (as := [.int i2, .int i3, .int i4]) (r := [.long j1, .long j0]) k_235_166 (by decide) rfl rfl (Nat.le_of_ble_eq_true rfl) (Nat.le_of_ble_eq_true rfl)
theorem k_235_169 : lk 235 169 = some (.i2l, 170, 0, 0, .null) := by decide +kernel
theorem x_235_169 : Tr sc d 235 (169, [l0, l1, l2, l3, l4, l5, l6, l7, l8, l9, l10, l11, l12, l13, l14, l15, l16, l17, l18, l19, l20, l21], [.int i2, .long j1, .long j0], h) Q = Tr sc d 235 (170, [l0, l1, l2, l3, l4, l5, l6, l7, l8, l9, l10, l11, l12, l13, l14, l15, l16, l17, l18, l19, l20, l21], [.long i2.toInt64, .long j1, .long j0], h) Q := t_go k_235_169 rfl
theorem k_235_170 : lk 235 170 = some (.lmul, 171, 0, 0, .null) := by decide +kernel
theorem x_235_170 : Tr sc d 235 (170, [l0, l1, l2, l3, l4, l5, l6, l7, l8, l9, l10, l11, l12, l13, l14, l15, l16, l17, l18, l19, l20, l21], [.long j2, .long j1, .long j0], h) Q = Tr sc d 235 (171, [l0, l1, l2, l3, l4, l5, l6, l7, l8, l9, l10, l11, l12, l13, l14, l15, l16, l17, l18, l19, l20, l21], [.long (j1 * j2), .long j0], h) Q := t_go k_235_170 rfl
theorem k_235_171 : lk 235 171 = some (.lsub, 172, 0, 0, .null) := by decide +kernel
theorem x_235_171 : Tr sc d 235 (171, [l0, l1, l2, l3, l4, l5, l6, l7, l8, l9, l10, l11, l12, l13, l14, l15, l16, l17, l18, l19, l20, l21], [.long j1, .long j0], h) Q = Tr sc d 235 (172, [l0, l1, l2, l3, l4, l5, l6, l7, l8, l9, l10, l11, l12, l13, l14, l15, l16, l17, l18, l19, l20, l21], [.long (j0 - j1)], h) Q := t_go k_235_171 rfl
theorem k_235_172 : lk 235 172 = some (.lstore 8, 174, 8, 0, .null) := by decide +kernel
theorem x_235_172 : Tr sc d 235 (172, [l0, l1, l2, l3, l4, l5, l6, l7, l8, l9, l10, l11, l12, l13, l14, l15, l16, l17, l18, l19, l20, l21], [.long j0], h) Q = Tr sc d 235 (174, [l0, l1, l2, l3, l4, l5, l6, cl2 l7, some (.long j0), none, l10, l11, l12, l13, l14, l15, l16, l17, l18, l19, l20, l21], [], h) Q := t_lstore k_235_172 (Nat.le_of_ble_eq_true rfl)
theorem k_235_174 : lk 235 174 = some (.lload 12, 176, 12, 0, .null) := by decide +kernel
theorem x_235_174 : Tr sc d 235 (174, [l0, l1, l2, l3, l4, l5, l6, l7, l8, l9, l10, l11, some (.long xl), l13, l14, l15, l16, l17, l18, l19, l20, l21], [], h) Q = Tr sc d 235 (176, [l0, l1, l2, l3, l4, l5, l6, l7, l8, l9, l10, l11, some (.long xl), l13, l14, l15, l16, l17, l18, l19, l20, l21], [.long xl], h) Q := t_lload k_235_174 rfl
theorem k_235_176 : lk 235 176 = some (.lload 20, 178, 20, 0, .null) := by decide +kernel
theorem x_235_176 : Tr sc d 235 (176, [l0, l1, l2, l3, l4, l5, l6, l7, l8, l9, l10, l11, l12, l13, l14, l15, l16, l17, l18, l19, some (.long xl), l21], [.long j0], h) Q = Tr sc d 235 (178, [l0, l1, l2, l3, l4, l5, l6, l7, l8, l9, l10, l11, l12, l13, l14, l15, l16, l17, l18, l19, some (.long xl), l21], [.long xl, .long j0], h) Q := t_lload k_235_176 rfl
theorem k_235_178 : lk 235 178 = some (.aload_n 0, 179, 0, 0, .null) := by decide +kernel
theorem x_235_178 : Tr sc d 235 (178, [some (.ref xk), l1, l2, l3, l4, l5, l6, l7, l8, l9, l10, l11, l12, l13, l14, l15, l16, l17, l18, l19, l20, l21], [.long j1, .long j0], h) Q = Tr sc d 235 (179, [some (.ref xk), l1, l2, l3, l4, l5, l6, l7, l8, l9, l10, l11, l12, l13, l14, l15, l16, l17, l18, l19, l20, l21], [.ref xk, .long j1, .long j0], h) Q := t_aload_n k_235_178 rfl
theorem k_235_179 : lk 235 179 = some (.getfield 44, 182, 10, 19, .null) := by decide +kernel
theorem x_235_179 : Tr sc d 235 (179, [l0, l1, l2, l3, l4, l5, l6, l7, l8, l9, l10, l11, l12, l13, l14, l15, l16, l17, l18, l19, l20, l21], [.ref k2, .long j1, .long j0], h) Q = (okp h k2 10 = true ∧ ∃ q, hR h k2 19 = some q ∧ Tr sc d 235 (182, [l0, l1, l2, l3, l4, l5, l6, l7, l8, l9, l10, l11, l12, l13, l14, l15, l16, l17, l18, l19, l20, l21], [.ref q, .long j1, .long j0], h) Q) := t_getr k_235_179
theorem k_235_182 : lk 235 182 = some (.iload 19, 184, 19, 0, .null) := by decide +kernel
theorem x_235_182 : Tr sc d 235 (182, [l0, l1, l2, l3, l4, l5, l6, l7, l8, l9, l10, l11, l12, l13, l14, l15, l16, l17, l18, some (.int x), l20, l21], [.ref k2, .long j1, .long j0], h) Q = Tr sc d 235 (184, [l0, l1, l2, l3, l4, l5, l6, l7, l8, l9, l10, l11, l12, l13, l14, l15, l16, l17, l18, some (.int x), l20, l21], [.int x, .ref k2, .long j1, .long j0], h) Q := t_iload k_235_182 rfl
theorem k_235_184 : lk 235 184 = some (.iaload, 185, 0, 0, .null) := by decide +kernel
theorem x_235_184 : Tr sc d 235 (184, [l0, l1, l2, l3, l4, l5, l6, l7, l8, l9, l10, l11, l12, l13, l14, l15, l16, l17, l18, l19, l20, l21], [.int i3, .ref k2, .long j1, .long j0], h) Q = (iOk sc h k2 i3 ∧ Tr sc d 235 (185, [l0, l1, l2, l3, l4, l5, l6, l7, l8, l9, l10, l11, l12, l13, l14, l15, l16, l17, l18, l19, l20, l21], [.int (iRd sc h k2 i3), .long j1, .long j0], h) Q) := t_iald k_235_184
theorem k_235_185 : lk 235 185 = some (.iconst 0, 186, 0, 0, .int 0) := by decide +kernel
theorem x_235_185 : Tr sc d 235 (185, [l0, l1, l2, l3, l4, l5, l6, l7, l8, l9, l10, l11, l12, l13, l14, l15, l16, l17, l18, l19, l20, l21], [.int i2, .long j1, .long j0], h) Q = Tr sc d 235 (186, [l0, l1, l2, l3, l4, l5, l6, l7, l8, l9, l10, l11, l12, l13, l14, l15, l16, l17, l18, l19, l20, l21], [.int 0, .int i2, .long j1, .long j0], h) Q := t_go k_235_185 rfl
theorem k_235_186 : lk 235 186 = some (.iconst 1, 187, 0, 0, .int 1) := by decide +kernel
theorem x_235_186 : Tr sc d 235 (186, [l0, l1, l2, l3, l4, l5, l6, l7, l8, l9, l10, l11, l12, l13, l14, l15, l16, l17, l18, l19, l20, l21], [.int i3, .int i2, .long j1, .long j0], h) Q = Tr sc d 235 (187, [l0, l1, l2, l3, l4, l5, l6, l7, l8, l9, l10, l11, l12, l13, l14, l15, l16, l17, l18, l19, l20, l21], [.int 1, .int i3, .int i2, .long j1, .long j0], h) Q := t_go k_235_186 rfl
theorem k_235_187 : lk 235 187 = some (.invokestatic 254, 190, 178, 3, .null) := by decide +kernel
theorem x_235_187 : Tr sc (d + 1) 235 (187, [l0, l1, l2, l3, l4, l5, l6, l7, l8, l9, l10, l11, l12, l13, l14, l15, l16, l17, l18, l19, l20, l21], [.int i4, .int i3, .int i2, .long j1, .long j0], h) Q = Tr sc d 178 (ent0 178 [.int i2, .int i3, .int i4] h) (fun z => Tr sc (d + 1) 235 (190, [l0, l1, l2, l3, l4, l5, l6, l7, l8, l9, l10, l11, l12, l13, l14, l15, l16, l17, l18, l19, l20, l21], z.1.toList ++ [.long j1, .long j0], z.2) Q) := t_cs (as := [.int i2, .int i3, .int i4]) (r := [.long j1, .long j0]) k_235_187 (by decide) rfl rfl (Nat.le_of_ble_eq_true rfl) (Nat.le_of_ble_eq_true rfl)
theorem k_235_190 : lk 235 190 = some (.i2l, 191, 0, 0, .null) := by decide +kernel
theorem x_235_190 : Tr sc d 235 (190, [l0, l1, l2, l3, l4, l5, l6, l7, l8, l9, l10, l11, l12, l13, l14, l15, l16, l17, l18, l19, l20, l21], [.int i2, .long j1, .long j0], h) Q = Tr sc d 235 (191, [l0, l1, l2, l3, l4, l5, l6, l7, l8, l9, l10, l11, l12, l13, l14, l15, l16, l17, l18, l19, l20, l21], [.long i2.toInt64, .long j1, .long j0], h) Q := t_go k_235_190 rfl
theorem k_235_191 : lk 235 191 = some (.lmul, 192, 0, 0, .null) := by decide +kernel
theorem x_235_191 : Tr sc d 235 (191, [l0, l1, l2, l3, l4, l5, l6, l7, l8, l9, l10, l11, l12, l13, l14, l15, l16, l17, l18, l19, l20, l21], [.long j2, .long j1, .long j0], h) Q = Tr sc d 235 (192, [l0, l1, l2, l3, l4, l5, l6, l7, l8, l9, l10, l11, l12, l13, l14, l15, l16, l17, l18, l19, l20, l21], [.long (j1 * j2), .long j0], h) Q := t_go k_235_191 rfl
theorem k_235_192 : lk 235 192 = some (.lsub, 193, 0, 0, .null) := by decide +kernel
theorem x_235_192 : Tr sc d 235 (192, [l0, l1, l2, l3, l4, l5, l6, l7, l8, l9, l10, l11, l12, l13, l14, l15, l16, l17, l18, l19, l20, l21], [.long j1, .long j0], h) Q = Tr sc d 235 (193, [l0, l1, l2, l3, l4, l5, l6, l7, l8, l9, l10, l11, l12, l13, l14, l15, l16, l17, l18, l19, l20, l21], [.long (j0 - j1)], h) Q := t_go k_235_192 rfl
theorem k_235_193 : lk 235 193 = some (.lstore 12, 195, 12, 0, .null) := by decide +kernel
theorem x_235_193 : Tr sc d 235 (193, [l0, l1, l2, l3, l4, l5, l6, l7, l8, l9, l10, l11, l12, l13, l14, l15, l16, l17, l18, l19, l20, l21], [.long j0], h) Q = Tr sc d 235 (195, [l0, l1, l2, l3, l4, l5, l6, l7, l8, l9, l10, cl2 l11, some (.long j0), none, l14, l15, l16, l17, l18, l19, l20, l21], [], h) Q := t_lstore k_235_193 (Nat.le_of_ble_eq_true rfl)
theorem k_235_195 : lk 235 195 = some (.lload 14, 197, 14, 0, .null) := by decide +kernel
theorem x_235_195 : Tr sc d 235 (195, [l0, l1, l2, l3, l4, l5, l6, l7, l8, l9, l10, l11, l12, l13, some (.long xl), l15, l16, l17, l18, l19, l20, l21], [], h) Q = Tr sc d 235 (197, [l0, l1, l2, l3, l4, l5, l6, l7, l8, l9, l10, l11, l12, l13, some (.long xl), l15, l16, l17, l18, l19, l20, l21], [.long xl], h) Q := t_lload k_235_195 rfl
theorem k_235_197 : lk 235 197 = some (.lload 20, 199, 20, 0, .null) := by decide +kernel
theorem x_235_197 : Tr sc d 235 (197, [l0, l1, l2, l3, l4, l5, l6, l7, l8, l9, l10, l11, l12, l13, l14, l15, l16, l17, l18, l19, some (.long xl), l21], [.long j0], h) Q = Tr sc d 235 (199, [l0, l1, l2, l3, l4, l5, l6, l7, l8, l9, l10, l11, l12, l13, l14, l15, l16, l17, l18, l19, some (.long xl), l21], [.long xl, .long j0], h) Q := t_lload k_235_197 rfl
theorem k_235_199 : lk 235 199 = some (.aload_n 0, 200, 0, 0, .null) := by decide +kernel
theorem x_235_199 : Tr sc d 235 (199, [some (.ref xk), l1, l2, l3, l4, l5, l6, l7, l8, l9, l10, l11, l12, l13, l14, l15, l16, l17, l18, l19, l20, l21], [.long j1, .long j0], h) Q = Tr sc d 235 (200, [some (.ref xk), l1, l2, l3, l4, l5, l6, l7, l8, l9, l10, l11, l12, l13, l14, l15, l16, l17, l18, l19, l20, l21], [.ref xk, .long j1, .long j0], h) Q := t_aload_n k_235_199 rfl
theorem k_235_200 : lk 235 200 = some (.getfield 47, 203, 10, 20, .null) := by decide +kernel
theorem x_235_200 : Tr sc d 235 (200, [l0, l1, l2, l3, l4, l5, l6, l7, l8, l9, l10, l11, l12, l13, l14, l15, l16, l17, l18, l19, l20, l21], [.ref k2, .long j1, .long j0], h) Q = (okp h k2 10 = true ∧ ∃ q, hR h k2 20 = some q ∧ Tr sc d 235 (203, [l0, l1, l2, l3, l4, l5, l6, l7, l8, l9, l10, l11, l12, l13, l14, l15, l16, l17, l18, l19, l20, l21], [.ref q, .long j1, .long j0], h) Q) := t_getr k_235_200
theorem k_235_203 : lk 235 203 = some (.iload 19, 205, 19, 0, .null) := by decide +kernel
theorem x_235_203 : Tr sc d 235 (203, [l0, l1, l2, l3, l4, l5, l6, l7, l8, l9, l10, l11, l12, l13, l14, l15, l16, l17, l18, some (.int x), l20, l21], [.ref k2, .long j1, .long j0], h) Q = Tr sc d 235 (205, [l0, l1, l2, l3, l4, l5, l6, l7, l8, l9, l10, l11, l12, l13, l14, l15, l16, l17, l18, some (.int x), l20, l21], [.int x, .ref k2, .long j1, .long j0], h) Q := t_iload k_235_203 rfl
theorem k_235_205 : lk 235 205 = some (.iaload, 206, 0, 0, .null) := by decide +kernel
theorem x_235_205 : Tr sc d 235 (205, [l0, l1, l2, l3, l4, l5, l6, l7, l8, l9, l10, l11, l12, l13, l14, l15, l16, l17, l18, l19, l20, l21], [.int i3, .ref k2, .long j1, .long j0], h) Q = (iOk sc h k2 i3 ∧ Tr sc d 235 (206, [l0, l1, l2, l3, l4, l5, l6, l7, l8, l9, l10, l11, l12, l13, l14, l15, l16, l17, l18, l19, l20, l21], [.int (iRd sc h k2 i3), .long j1, .long j0], h) Q) := t_iald k_235_205
theorem k_235_206 : lk 235 206 = some (.i2l, 207, 0, 0, .null) := by decide +kernel
theorem x_235_206 : Tr sc d 235 (206, [l0, l1, l2, l3, l4, l5, l6, l7, l8, l9, l10, l11, l12, l13, l14, l15, l16, l17, l18, l19, l20, l21], [.int i2, .long j1, .long j0], h) Q = Tr sc d 235 (207, [l0, l1, l2, l3, l4, l5, l6, l7, l8, l9, l10, l11, l12, l13, l14, l15, l16, l17, l18, l19, l20, l21], [.long i2.toInt64, .long j1, .long j0], h) Q := t_go k_235_206 rfl
theorem k_235_207 : lk 235 207 = some (.lmul, 208, 0, 0, .null) := by decide +kernel
theorem x_235_207 : Tr sc d 235 (207, [l0, l1, l2, l3, l4, l5, l6, l7, l8, l9, l10, l11, l12, l13, l14, l15, l16, l17, l18, l19, l20, l21], [.long j2, .long j1, .long j0], h) Q = Tr sc d 235 (208, [l0, l1, l2, l3, l4, l5, l6, l7, l8, l9, l10, l11, l12, l13, l14, l15, l16, l17, l18, l19, l20, l21], [.long (j1 * j2), .long j0], h) Q := t_go k_235_207 rfl
theorem k_235_208 : lk 235 208 = some (.ladd, 209, 0, 0, .null) := by decide +kernel
theorem x_235_208 : Tr sc d 235 (208, [l0, l1, l2, l3, l4, l5, l6, l7, l8, l9, l10, l11, l12, l13, l14, l15, l16, l17, l18, l19, l20, l21], [.long j1, .long j0], h) Q = Tr sc d 235 (209, [l0, l1, l2, l3, l4, l5, l6, l7, l8, l9, l10, l11, l12, l13, l14, l15, l16, l17, l18, l19, l20, l21], [.long (j0 + j1)], h) Q := t_go k_235_208 rfl
theorem k_235_209 : lk 235 209 = some (.lstore 14, 211, 14, 0, .null) := by decide +kernel
theorem x_235_209 : Tr sc d 235 (209, [l0, l1, l2, l3, l4, l5, l6, l7, l8, l9, l10, l11, l12, l13, l14, l15, l16, l17, l18, l19, l20, l21], [.long j0], h) Q = Tr sc d 235 (211, [l0, l1, l2, l3, l4, l5, l6, l7, l8, l9, l10, l11, l12, cl2 l13, some (.long j0), none, l16, l17, l18, l19, l20, l21], [], h) Q := t_lstore k_235_209 (Nat.le_of_ble_eq_true rfl)
theorem k_235_211 : lk 235 211 = some (.lload 16, 213, 16, 0, .null) := by decide +kernel
theorem x_235_211 : Tr sc d 235 (211, [l0, l1, l2, l3, l4, l5, l6, l7, l8, l9, l10, l11, l12, l13, l14, l15, some (.long xl), l17, l18, l19, l20, l21], [], h) Q = Tr sc d 235 (213, [l0, l1, l2, l3, l4, l5, l6, l7, l8, l9, l10, l11, l12, l13, l14, l15, some (.long xl), l17, l18, l19, l20, l21], [.long xl], h) Q := t_lload k_235_211 rfl
theorem k_235_213 : lk 235 213 = some (.lload 20, 215, 20, 0, .null) := by decide +kernel
theorem x_235_213 : Tr sc d 235 (213, [l0, l1, l2, l3, l4, l5, l6, l7, l8, l9, l10, l11, l12, l13, l14, l15, l16, l17, l18, l19, some (.long xl), l21], [.long j0], h) Q = Tr sc d 235 (215, [l0, l1, l2, l3, l4, l5, l6, l7, l8, l9, l10, l11, l12, l13, l14, l15, l16, l17, l18, l19, some (.long xl), l21], [.long xl, .long j0], h) Q := t_lload k_235_213 rfl
theorem k_235_215 : lk 235 215 = some (.aload_n 0, 216, 0, 0, .null) := by decide +kernel
theorem x_235_215 : Tr sc d 235 (215, [some (.ref xk), l1, l2, l3, l4, l5, l6, l7, l8, l9, l10, l11, l12, l13, l14, l15, l16, l17, l18, l19, l20, l21], [.long j1, .long j0], h) Q = Tr sc d 235 (216, [some (.ref xk), l1, l2, l3, l4, l5, l6, l7, l8, l9, l10, l11, l12, l13, l14, l15, l16, l17, l18, l19, l20, l21], [.ref xk, .long j1, .long j0], h) Q := t_aload_n k_235_215 rfl
theorem k_235_216 : lk 235 216 = some (.getfield 50, 219, 10, 21, .null) := by decide +kernel
theorem x_235_216 : Tr sc d 235 (216, [l0, l1, l2, l3, l4, l5, l6, l7, l8, l9, l10, l11, l12, l13, l14, l15, l16, l17, l18, l19, l20, l21], [.ref k2, .long j1, .long j0], h) Q = (okp h k2 10 = true ∧ ∃ q, hR h k2 21 = some q ∧ Tr sc d 235 (219, [l0, l1, l2, l3, l4, l5, l6, l7, l8, l9, l10, l11, l12, l13, l14, l15, l16, l17, l18, l19, l20, l21], [.ref q, .long j1, .long j0], h) Q) := t_getr k_235_216
theorem k_235_219 : lk 235 219 = some (.iload 19, 221, 19, 0, .null) := by decide +kernel
theorem x_235_219 : Tr sc d 235 (219, [l0, l1, l2, l3, l4, l5, l6, l7, l8, l9, l10, l11, l12, l13, l14, l15, l16, l17, l18, some (.int x), l20, l21], [.ref k2, .long j1, .long j0], h) Q = Tr sc d 235 (221, [l0, l1, l2, l3, l4, l5, l6, l7, l8, l9, l10, l11, l12, l13, l14, l15, l16, l17, l18, some (.int x), l20, l21], [.int x, .ref k2, .long j1, .long j0], h) Q := t_iload k_235_219 rfl
theorem k_235_221 : lk 235 221 = some (.iaload, 222, 0, 0, .null) := by decide +kernel
theorem x_235_221 : Tr sc d 235 (221, [l0, l1, l2, l3, l4, l5, l6, l7, l8, l9, l10, l11, l12, l13, l14, l15, l16, l17, l18, l19, l20, l21], [.int i3, .ref k2, .long j1, .long j0], h) Q = (iOk sc h k2 i3 ∧ Tr sc d 235 (222, [l0, l1, l2, l3, l4, l5, l6, l7, l8, l9, l10, l11, l12, l13, l14, l15, l16, l17, l18, l19, l20, l21], [.int (iRd sc h k2 i3), .long j1, .long j0], h) Q) := t_iald k_235_221
theorem k_235_222 : lk 235 222 = some (.i2l, 223, 0, 0, .null) := by decide +kernel
theorem x_235_222 : Tr sc d 235 (222, [l0, l1, l2, l3, l4, l5, l6, l7, l8, l9, l10, l11, l12, l13, l14, l15, l16, l17, l18, l19, l20, l21], [.int i2, .long j1, .long j0], h) Q = Tr sc d 235 (223, [l0, l1, l2, l3, l4, l5, l6, l7, l8, l9, l10, l11, l12, l13, l14, l15, l16, l17, l18, l19, l20, l21], [.long i2.toInt64, .long j1, .long j0], h) Q := t_go k_235_222 rfl
theorem k_235_223 : lk 235 223 = some (.lmul, 224, 0, 0, .null) := by decide +kernel
theorem x_235_223 : Tr sc d 235 (223, [l0, l1, l2, l3, l4, l5, l6, l7, l8, l9, l10, l11, l12, l13, l14, l15, l16, l17, l18, l19, l20, l21], [.long j2, .long j1, .long j0], h) Q = Tr sc d 235 (224, [l0, l1, l2, l3, l4, l5, l6, l7, l8, l9, l10, l11, l12, l13, l14, l15, l16, l17, l18, l19, l20, l21], [.long (j1 * j2), .long j0], h) Q := t_go k_235_223 rfl
theorem k_235_224 : lk 235 224 = some (.ladd, 225, 0, 0, .null) := by decide +kernel
theorem x_235_224 : Tr sc d 235 (224, [l0, l1, l2, l3, l4, l5, l6, l7, l8, l9, l10, l11, l12, l13, l14, l15, l16, l17, l18, l19, l20, l21], [.long j1, .long j0], h) Q = Tr sc d 235 (225, [l0, l1, l2, l3, l4, l5, l6, l7, l8, l9, l10, l11, l12, l13, l14, l15, l16, l17, l18, l19, l20, l21], [.long (j0 + j1)], h) Q := t_go k_235_224 rfl
theorem k_235_225 : lk 235 225 = some (.lstore 16, 227, 16, 0, .null) := by decide +kernel
theorem x_235_225 : Tr sc d 235 (225, [l0, l1, l2, l3, l4, l5, l6, l7, l8, l9, l10, l11, l12, l13, l14, l15, l16, l17, l18, l19, l20, l21], [.long j0], h) Q = Tr sc d 235 (227, [l0, l1, l2, l3, l4, l5, l6, l7, l8, l9, l10, l11, l12, l13, l14, cl2 l15, some (.long j0), none, l18, l19, l20, l21], [], h) Q := t_lstore k_235_225 (Nat.le_of_ble_eq_true rfl)
theorem k_235_227 : lk 235 227 = some (.iinc 18 1, 230, 18, 0, .int 1) := by decide +kernel
theorem x_235_227 : Tr sc d 235 (227, [l0, l1, l2, l3, l4, l5, l6, l7, l8, l9, l10, l11, l12, l13, l14, l15, l16, l17, some (.int x), l19, l20, l21], [], h) Q = Tr sc d 235 (230, [l0, l1, l2, l3, l4, l5, l6, l7, l8, l9, l10, l11, l12, l13, l14, l15, l16, cl2 l17, some (.int (x + 1)), l19, l20, l21], [], h) Q := t_inc k_235_227 rfl (Nat.le_of_ble_eq_true rfl)
theorem k_235_230 : lk 235 230 = some (.goto (-163), 233, 67, 0, .null) := by decide +kernel
theorem x_235_230 : Tr sc d 235 (230, [l0, l1, l2, l3, l4, l5, l6, l7, l8, l9, l10, l11, l12, l13, l14, l15, l16, l17, l18, l19, l20, l21], [], h) Q = Tr sc d 235 (67, [l0, l1, l2, l3, l4, l5, l6, l7, l8, l9, l10, l11, l12, l13, l14, l15, l16, l17, l18, l19, l20, l21], [], h) Q := t_go k_235_230 rfl
theorem k_235_233 : lk 235 233 = some (.aload_n 0, 234, 0, 0, .null) := by decide +kernel
theorem x_235_233 : Tr sc d 235 (233, [some (.ref xk), l1, l2, l3, l4, l5, l6, l7, l8, l9, l10, l11, l12, l13, l14, l15, l16, l17, l18, l19, l20, l21], [], h) Q = Tr sc d 235 (234, [some (.ref xk), l1, l2, l3, l4, l5, l6, l7, l8, l9, l10, l11, l12, l13, l14, l15, l16, l17, l18, l19, l20, l21], [.ref xk], h) Q := t_aload_n k_235_233 rfl
theorem k_235_234 : lk 235 234 = some (.iload_n 2, 235, 2, 0, .null) := by decide +kernel
theorem x_235_234 : Tr sc d 235 (234, [l0, l1, some (.int x), l3, l4, l5, l6, l7, l8, l9, l10, l11, l12, l13, l14, l15, l16, l17, l18, l19, l20, l21], [.ref k0], h) Q = Tr sc d 235 (235, [l0, l1, some (.int x), l3, l4, l5, l6, l7, l8, l9, l10, l11, l12, l13, l14, l15, l16, l17, l18, l19, l20, l21], [.int x, .ref k0], h) Q := t_iload_n k_235_234 rfl
theorem k_235_235 : lk 235 235 = some (.ifCond .eq 17, 238, 252, 0, .null) := by decide +kernel
theorem x_235_235 : Tr sc d 235 (235, [l0, l1, l2, l3, l4, l5, l6, l7, l8, l9, l10, l11, l12, l13, l14, l15, l16, l17, l18, l19, l20, l21], [.int i1, .ref k0], h) Q = if i1 = 0 then Tr sc d 235 (252, [l0, l1, l2, l3, l4, l5, l6, l7, l8, l9, l10, l11, l12, l13, l14, l15, l16, l17, l18, l19, l20, l21], [.ref k0], h) Q else Tr sc d 235 (238, [l0, l1, l2, l3, l4, l5, l6, l7, l8, l9, l10, l11, l12, l13, l14, l15, l16, l17, l18, l19, l20, l21], [.ref k0], h) Q := t_if k_235_235 rfl
theorem k_235_238 : lk 235 238 = some (.lload 6, 240, 6, 0, .null) := by decide +kernel
theorem x_235_238 : Tr sc d 235 (238, [l0, l1, l2, l3, l4, l5, some (.long xl), l7, l8, l9, l10, l11, l12, l13, l14, l15, l16, l17, l18, l19, l20, l21], [.ref k0], h) Q = Tr sc d 235 (240, [l0, l1, l2, l3, l4, l5, some (.long xl), l7, l8, l9, l10, l11, l12, l13, l14, l15, l16, l17, l18, l19, l20, l21], [.long xl, .ref k0], h) Q := t_lload k_235_238 rfl
theorem k_235_240 : lk 235 240 = some (.lload 16, 242, 16, 0, .null) := by decide +kernel
theorem x_235_240 : Tr sc d 235 (240, [l0, l1, l2, l3, l4, l5, l6, l7, l8, l9, l10, l11, l12, l13, l14, l15, some (.long xl), l17, l18, l19, l20, l21], [.long j1, .ref k0], h) Q = Tr sc d 235 (242, [l0, l1, l2, l3, l4, l5, l6, l7, l8, l9, l10, l11, l12, l13, l14, l15, some (.long xl), l17, l18, l19, l20, l21], [.long xl, .long j1, .ref k0], h) Q := t_lload k_235_240 rfl
theorem k_235_242 : lk 235 242 = some (.lmul, 243, 0, 0, .null) := by decide +kernel
theorem x_235_242 : Tr sc d 235 (242, [l0, l1, l2, l3, l4, l5, l6, l7, l8, l9, l10, l11, l12, l13, l14, l15, l16, l17, l18, l19, l20, l21], [.long j2, .long j1, .ref k0], h) Q = Tr sc d 235 (243, [l0, l1, l2, l3, l4, l5, l6, l7, l8, l9, l10, l11, l12, l13, l14, l15, l16, l17, l18, l19, l20, l21], [.long (j1 * j2), .ref k0], h) Q := t_go k_235_242 rfl
theorem k_235_243 : lk 235 243 = some (.lload 10, 245, 10, 0, .null) := by decide +kernel
theorem x_235_243 : Tr sc d 235 (243, [l0, l1, l2, l3, l4, l5, l6, l7, l8, l9, some (.long xl), l11, l12, l13, l14, l15, l16, l17, l18, l19, l20, l21], [.long j1, .ref k0], h) Q = Tr sc d 235 (245, [l0, l1, l2, l3, l4, l5, l6, l7, l8, l9, some (.long xl), l11, l12, l13, l14, l15, l16, l17, l18, l19, l20, l21], [.long xl, .long j1, .ref k0], h) Q := t_lload k_235_243 rfl
theorem k_235_245 : lk 235 245 = some (.lload 14, 247, 14, 0, .null) := by decide +kernel
theorem x_235_245 : Tr sc d 235 (245, [l0, l1, l2, l3, l4, l5, l6, l7, l8, l9, l10, l11, l12, l13, some (.long xl), l15, l16, l17, l18, l19, l20, l21], [.long j2, .long j1, .ref k0], h) Q = Tr sc d 235 (247, [l0, l1, l2, l3, l4, l5, l6, l7, l8, l9, l10, l11, l12, l13, some (.long xl), l15, l16, l17, l18, l19, l20, l21], [.long xl, .long j2, .long j1, .ref k0], h) Q := t_lload k_235_245 rfl
theorem k_235_247 : lk 235 247 = some (.lmul, 248, 0, 0, .null) := by decide +kernel
theorem x_235_247 : Tr sc d 235 (247, [l0, l1, l2, l3, l4, l5, l6, l7, l8, l9, l10, l11, l12, l13, l14, l15, l16, l17, l18, l19, l20, l21], [.long j3, .long j2, .long j1, .ref k0], h) Q = Tr sc d 235 (248, [l0, l1, l2, l3, l4, l5, l6, l7, l8, l9, l10, l11, l12, l13, l14, l15, l16, l17, l18, l19, l20, l21], [.long (j2 * j3), .long j1, .ref k0], h) Q := t_go k_235_247 rfl
theorem k_235_248 : lk 235 248 = some (.lsub, 249, 0, 0, .null) := by decide +kernel
theorem x_235_248 : Tr sc d 235 (248, [l0, l1, l2, l3, l4, l5, l6, l7, l8, l9, l10, l11, l12, l13, l14, l15, l16, l17, l18, l19, l20, l21], [.long j2, .long j1, .ref k0], h) Q = Tr sc d 235 (249, [l0, l1, l2, l3, l4, l5, l6, l7, l8, l9, l10, l11, l12, l13, l14, l15, l16, l17, l18, l19, l20, l21], [.long (j1 - j2), .ref k0], h) Q := t_go k_235_248 rfl
theorem k_235_249 : lk 235 249 = some (.goto 14, 252, 263, 0, .null) := by decide +kernel
theorem x_235_249 : Tr sc d 235 (249, [l0, l1, l2, l3, l4, l5, l6, l7, l8, l9, l10, l11, l12, l13, l14, l15, l16, l17, l18, l19, l20, l21], [.long j1, .ref k0], h) Q = Tr sc d 235 (263, [l0, l1, l2, l3, l4, l5, l6, l7, l8, l9, l10, l11, l12, l13, l14, l15, l16, l17, l18, l19, l20, l21], [.long j1, .ref k0], h) Q := t_go k_235_249 rfl
theorem k_235_252 : lk 235 252 = some (.lload 12, 254, 12, 0, .null) := by decide +kernel
theorem x_235_252 : Tr sc d 235 (252, [l0, l1, l2, l3, l4, l5, l6, l7, l8, l9, l10, l11, some (.long xl), l13, l14, l15, l16, l17, l18, l19, l20, l21], [.ref k0], h) Q = Tr sc d 235 (254, [l0, l1, l2, l3, l4, l5, l6, l7, l8, l9, l10, l11, some (.long xl), l13, l14, l15, l16, l17, l18, l19, l20, l21], [.long xl, .ref k0], h) Q := t_lload k_235_252 rfl
theorem k_235_254 : lk 235 254 = some (.lload 14, 256, 14, 0, .null) := by decide +kernel
theorem x_235_254 : Tr sc d 235 (254, [l0, l1, l2, l3, l4, l5, l6, l7, l8, l9, l10, l11, l12, l13, some (.long xl), l15, l16, l17, l18, l19, l20, l21], [.long j1, .ref k0], h) Q = Tr sc d 235 (256, [l0, l1, l2, l3, l4, l5, l6, l7, l8, l9, l10, l11, l12, l13, some (.long xl), l15, l16, l17, l18, l19, l20, l21], [.long xl, .long j1, .ref k0], h) Q := t_lload k_235_254 rfl
theorem k_235_256 : lk 235 256 = some (.lmul, 257, 0, 0, .null) := by decide +kernel
theorem x_235_256 : Tr sc d 235 (256, [l0, l1, l2, l3, l4, l5, l6, l7, l8, l9, l10, l11, l12, l13, l14, l15, l16, l17, l18, l19, l20, l21], [.long j2, .long j1, .ref k0], h) Q = Tr sc d 235 (257, [l0, l1, l2, l3, l4, l5, l6, l7, l8, l9, l10, l11, l12, l13, l14, l15, l16, l17, l18, l19, l20, l21], [.long (j1 * j2), .ref k0], h) Q := t_go k_235_256 rfl
theorem k_235_257 : lk 235 257 = some (.lload 8, 259, 8, 0, .null) := by decide +kernel
theorem x_235_257 : Tr sc d 235 (257, [l0, l1, l2, l3, l4, l5, l6, l7, some (.long xl), l9, l10, l11, l12, l13, l14, l15, l16, l17, l18, l19, l20, l21], [.long j1, .ref k0], h) Q = Tr sc d 235 (259, [l0, l1, l2, l3, l4, l5, l6, l7, some (.long xl), l9, l10, l11, l12, l13, l14, l15, l16, l17, l18, l19, l20, l21], [.long xl, .long j1, .ref k0], h) Q := t_lload k_235_257 rfl
theorem k_235_259 : lk 235 259 = some (.lload 16, 261, 16, 0, .null) := by decide +kernel
theorem x_235_259 : Tr sc d 235 (259, [l0, l1, l2, l3, l4, l5, l6, l7, l8, l9, l10, l11, l12, l13, l14, l15, some (.long xl), l17, l18, l19, l20, l21], [.long j2, .long j1, .ref k0], h) Q = Tr sc d 235 (261, [l0, l1, l2, l3, l4, l5, l6, l7, l8, l9, l10, l11, l12, l13, l14, l15, some (.long xl), l17, l18, l19, l20, l21], [.long xl, .long j2, .long j1, .ref k0], h) Q := t_lload k_235_259 rfl
theorem k_235_261 : lk 235 261 = some (.lmul, 262, 0, 0, .null) := by decide +kernel
theorem x_235_261 : Tr sc d 235 (261, [l0, l1, l2, l3, l4, l5, l6, l7, l8, l9, l10, l11, l12, l13, l14, l15, l16, l17, l18, l19, l20, l21], [.long j3, .long j2, .long j1, .ref k0], h) Q = Tr sc d 235 (262, [l0, l1, l2, l3, l4, l5, l6, l7, l8, l9, l10, l11, l12, l13, l14, l15, l16, l17, l18, l19, l20, l21], [.long (j2 * j3), .long j1, .ref k0], h) Q := t_go k_235_261 rfl
theorem k_235_262 : lk 235 262 = some (.lsub, 263, 0, 0, .null) := by decide +kernel
theorem x_235_262 : Tr sc d 235 (262, [l0, l1, l2, l3, l4, l5, l6, l7, l8, l9, l10, l11, l12, l13, l14, l15, l16, l17, l18, l19, l20, l21], [.long j2, .long j1, .ref k0], h) Q = Tr sc d 235 (263, [l0, l1, l2, l3, l4, l5, l6, l7, l8, l9, l10, l11, l12, l13, l14, l15, l16, l17, l18, l19, l20, l21], [.long (j1 - j2), .ref k0], h) Q := t_go k_235_262 rfl
theorem k_235_263 : lk 235 263 = some (.lload 6, 265, 6, 0, .null) := by decide +kernel
theorem x_235_263 : Tr sc d 235 (263, [l0, l1, l2, l3, l4, l5, some (.long xl), l7, l8, l9, l10, l11, l12, l13, l14, l15, l16, l17, l18, l19, l20, l21], [.long j1, .ref k0], h) Q = Tr sc d 235 (265, [l0, l1, l2, l3, l4, l5, some (.long xl), l7, l8, l9, l10, l11, l12, l13, l14, l15, l16, l17, l18, l19, l20, l21], [.long xl, .long j1, .ref k0], h) Q := t_lload k_235_263 rfl
theorem k_235_265 : lk 235 265 = some (.lload 12, 267, 12, 0, .null) := by decide +kernel
theorem x_235_265 : Tr sc d 235 (265, [l0, l1, l2, l3, l4, l5, l6, l7, l8, l9, l10, l11, some (.long xl), l13, l14, l15, l16, l17, l18, l19, l20, l21], [.long j2, .long j1, .ref k0], h) Q = Tr sc d 235 (267, [l0, l1, l2, l3, l4, l5, l6, l7, l8, l9, l10, l11, some (.long xl), l13, l14, l15, l16, l17, l18, l19, l20, l21], [.long xl, .long j2, .long j1, .ref k0], h) Q := t_lload k_235_265 rfl
theorem k_235_267 : lk 235 267 = some (.lmul, 268, 0, 0, .null) := by decide +kernel
theorem x_235_267 : Tr sc d 235 (267, [l0, l1, l2, l3, l4, l5, l6, l7, l8, l9, l10, l11, l12, l13, l14, l15, l16, l17, l18, l19, l20, l21], [.long j3, .long j2, .long j1, .ref k0], h) Q = Tr sc d 235 (268, [l0, l1, l2, l3, l4, l5, l6, l7, l8, l9, l10, l11, l12, l13, l14, l15, l16, l17, l18, l19, l20, l21], [.long (j2 * j3), .long j1, .ref k0], h) Q := t_go k_235_267 rfl
theorem k_235_268 : lk 235 268 = some (.lload 8, 270, 8, 0, .null) := by decide +kernel
theorem x_235_268 : Tr sc d 235 (268, [l0, l1, l2, l3, l4, l5, l6, l7, some (.long xl), l9, l10, l11, l12, l13, l14, l15, l16, l17, l18, l19, l20, l21], [.long j2, .long j1, .ref k0], h) Q = Tr sc d 235 (270, [l0, l1, l2, l3, l4, l5, l6, l7, some (.long xl), l9, l10, l11, l12, l13, l14, l15, l16, l17, l18, l19, l20, l21], [.long xl, .long j2, .long j1, .ref k0], h) Q := t_lload k_235_268 rfl
theorem k_235_270 : lk 235 270 = some (.lload 10, 272, 10, 0, .null) := by decide +kernel
theorem x_235_270 : Tr sc d 235 (270, [l0, l1, l2, l3, l4, l5, l6, l7, l8, l9, some (.long xl), l11, l12, l13, l14, l15, l16, l17, l18, l19, l20, l21], [.long j3, .long j2, .long j1, .ref k0], h) Q = Tr sc d 235 (272, [l0, l1, l2, l3, l4, l5, l6, l7, l8, l9, some (.long xl), l11, l12, l13, l14, l15, l16, l17, l18, l19, l20, l21], [.long xl, .long j3, .long j2, .long j1, .ref k0], h) Q := t_lload k_235_270 rfl
theorem k_235_272 : lk 235 272 = some (.lmul, 273, 0, 0, .null) := by decide +kernel
theorem x_235_272 : Tr sc d 235 (272, [l0, l1, l2, l3, l4, l5, l6, l7, l8, l9, l10, l11, l12, l13, l14, l15, l16, l17, l18, l19, l20, l21], [.long j4, .long j3, .long j2, .long j1, .ref k0], h) Q = Tr sc d 235 (273, [l0, l1, l2, l3, l4, l5, l6, l7, l8, l9, l10, l11, l12, l13, l14, l15, l16, l17, l18, l19, l20, l21], [.long (j3 * j4), .long j2, .long j1, .ref k0], h) Q := t_go k_235_272 rfl
theorem k_235_273 : lk 235 273 = some (.lsub, 274, 0, 0, .null) := by decide +kernel
theorem x_235_273 : Tr sc d 235 (273, [l0, l1, l2, l3, l4, l5, l6, l7, l8, l9, l10, l11, l12, l13, l14, l15, l16, l17, l18, l19, l20, l21], [.long j3, .long j2, .long j1, .ref k0], h) Q = Tr sc d 235 (274, [l0, l1, l2, l3, l4, l5, l6, l7, l8, l9, l10, l11, l12, l13, l14, l15, l16, l17, l18, l19, l20, l21], [.long (j2 - j3), .long j1, .ref k0], h) Q := t_go k_235_273 rfl
theorem k_235_274 : lk 235 274 = some (.invokevirtual 263, 277, 159, 2, .null) := by decide +kernel
theorem x_235_274 : Tr sc (d + 1) 235 (274, [l0, l1, l2, l3, l4, l5, l6, l7, l8, l9, l10, l11, l12, l13, l14, l15, l16, l17, l18, l19, l20, l21], [.long j2, .long j1, .ref k0], h) Q = (okp h k0 10 = true ∧ Tr sc d 159 (ent0 159 [.ref k0, .long j1, .long j2] h) (fun z => Tr sc (d + 1) 235 (277, [l0, l1, l2, l3, l4, l5, l6, l7, l8, l9, l10, l11, l12, l13, l14, l15, l16, l17, l18, l19, l20, l21], z.1.toList ++ [], z.2) Q)) := t_cv (as := [.long j1, .long j2]) (r := []) k_235_274 rfl rfl (Nat.le_of_ble_eq_true rfl) (Nat.le_of_ble_eq_true rfl) (Nat.le_of_ble_eq_true rfl)
theorem k_235_277 : lk 235 277 = some (.ireturn, 278, 0, 0, .null) := by decide +kernel
theorem x_235_277 : Tr sc d 235 (277, [l0, l1, l2, l3, l4, l5, l6, l7, l8, l9, l10, l11, l12, l13, l14, l15, l16, l17, l18, l19, l20, l21], [.int i0], h) Q = Q (some (.int i0), h) := t_ret k_235_277 (by rw [r_235]; rfl)
theorem e_235 : Tr sc d 235 (ent0 235 [.ref k0, .int i1, .int i2] h) Q = Tr sc d 235 (0, [some (.ref k0), some (.int i1), some (.int i2), none, none, none, none, none, none, none, none, none, none, none, none, none, none, none, none, none, none, none], [], h) Q := by
  have e : mL 235 = 22 := by decide +kernel
  unfold ent0
  rw [e]
  rfl
theorem r_236 : mR 236 = some .int := by decide +kernel
theorem k_236_0 : lk 236 0 = some (.aload_n 0, 1, 0, 0, .null) := by decide +kernel
theorem x_236_0 : Tr sc d 236 (0, [some (.ref xk), l1, l2, l3, l4, l5, l6], [], h) Q = Tr sc d 236 (1, [some (.ref xk), l1, l2, l3, l4, l5, l6], [.ref xk], h) Q := t_aload_n k_236_0 rfl
theorem k_236_1 : lk 236 1 = some (.iload_n 1, 2, 1, 0, .null) := by decide +kernel
theorem x_236_1 : Tr sc d 236 (1, [l0, some (.int x), l2, l3, l4, l5, l6], [.ref k0], h) Q = Tr sc d 236 (2, [l0, some (.int x), l2, l3, l4, l5, l6], [.int x, .ref k0], h) Q := t_iload_n k_236_1 rfl
theorem k_236_2 : lk 236 2 = some (.iload_n 2, 3, 2, 0, .null) := by decide +kernel
theorem x_236_2 : Tr sc d 236 (2, [l0, l1, some (.int x), l3, l4, l5, l6], [.int i1, .ref k0], h) Q = Tr sc d 236 (3, [l0, l1, some (.int x), l3, l4, l5, l6], [.int x, .int i1, .ref k0], h) Q := t_iload_n k_236_2 rfl
theorem k_236_3 : lk 236 3 = some (.iconst 5, 4, 0, 0, .int 5) := by decide +kernel
theorem x_236_3 : Tr sc d 236 (3, [l0, l1, l2, l3, l4, l5, l6], [.int i2, .int i1, .ref k0], h) Q = Tr sc d 236 (4, [l0, l1, l2, l3, l4, l5, l6], [.int 5, .int i2, .int i1, .ref k0], h) Q := t_go k_236_3 rfl
theorem k_236_4 : lk 236 4 = some (.invokevirtual 304, 7, 205, 3, .null) := by decide +kernel
theorem x_236_4 : Tr sc (d + 1) 236 (4, [l0, l1, l2, l3, l4, l5, l6], [.int i3, .int i2, .int i1, .ref k0], h) Q = (okp h k0 10 = true ∧ Tr sc d 205 (ent0 205 [.ref k0, .int i1, .int i2, .int i3] h) (fun z => Tr sc (d + 1) 236 (7, [l0, l1, l2, l3, l4, l5, l6], z.1.toList ++ [], z.2) Q)) := t_cv (as := [.int i1, .int i2, .int i3]) (r := []) k_236_4 rfl rfl (Nat.le_of_ble_eq_true rfl) (Nat.le_of_ble_eq_true rfl) (Nat.le_of_ble_eq_true rfl)
theorem k_236_7 : lk 236 7 = some (.istore 5, 9, 5, 0, .null) := by decide +kernel
theorem x_236_7 : Tr sc d 236 (7, [l0, l1, l2, l3, l4, l5, l6], [.int i0], h) Q = Tr sc d 236 (9, [l0, l1, l2, l3, cl2 l4, some (.int i0), l6], [], h) Q := t_istore k_236_7 (Nat.le_of_ble_eq_true rfl)
theorem k_236_9 : lk 236 9 = some (.iload 5, 11, 5, 0, .null) := by decide +kernel
theorem x_236_9 : Tr sc d 236 (9, [l0, l1, l2, l3, l4, some (.int x), l6], [], h) Q = Tr sc d 236 (11, [l0, l1, l2, l3, l4, some (.int x), l6], [.int x], h) Q := t_iload k_236_9 rfl
theorem k_236_11 : lk 236 11 = some (.ifCond .ge 6, 14, 17, 0, .null) := by decide +kernel
theorem x_236_11 : Tr sc d 236 (11, [l0, l1, l2, l3, l4, l5, l6], [.int i0], h) Q = if 0 ≤ i0 then Tr sc d 236 (17, [l0, l1, l2, l3, l4, l5, l6], [], h) Q else Tr sc d 236 (14, [l0, l1, l2, l3, l4, l5, l6], [], h) Q := t_if k_236_11 rfl
theorem k_236_14 : lk 236 14 = some (.iload 5, 16, 5, 0, .null) := by decide +kernel
theorem x_236_14 : Tr sc d 236 (14, [l0, l1, l2, l3, l4, some (.int x), l6], [], h) Q = Tr sc d 236 (16, [l0, l1, l2, l3, l4, some (.int x), l6], [.int x], h) Q := t_iload k_236_14 rfl
theorem k_236_16 : lk 236 16 = some (.ireturn, 17, 0, 0, .null) := by decide +kernel
theorem x_236_16 : Tr sc d 236 (16, [l0, l1, l2, l3, l4, l5, l6], [.int i0], h) Q = Q (some (.int i0), h) := t_ret k_236_16 (by rw [r_236]; rfl)
theorem k_236_17 : lk 236 17 = some (.aload_n 0, 18, 0, 0, .null) := by decide +kernel
theorem x_236_17 : Tr sc d 236 (17, [some (.ref xk), l1, l2, l3, l4, l5, l6], [], h) Q = Tr sc d 236 (18, [some (.ref xk), l1, l2, l3, l4, l5, l6], [.ref xk], h) Q := t_aload_n k_236_17 rfl
theorem k_236_18 : lk 236 18 = some (.getfield 35, 21, 10, 16, .null) := by decide +kernel
theorem x_236_18 : Tr sc d 236 (18, [l0, l1, l2, l3, l4, l5, l6], [.ref k0], h) Q = (okp h k0 10 = true ∧ ∃ q, hR h k0 16 = some q ∧ Tr sc d 236 (21, [l0, l1, l2, l3, l4, l5, l6], [.ref q], h) Q) := t_getr k_236_18
theorem k_236_21 : lk 236 21 = some (.iload_n 1, 22, 1, 0, .null) := by decide +kernel
theorem x_236_21 : Tr sc d 236 (21, [l0, some (.int x), l2, l3, l4, l5, l6], [.ref k0], h) Q = Tr sc d 236 (22, [l0, some (.int x), l2, l3, l4, l5, l6], [.int x, .ref k0], h) Q := t_iload_n k_236_21 rfl
theorem k_236_22 : lk 236 22 = some (.iaload, 23, 0, 0, .null) := by decide +kernel
theorem x_236_22 : Tr sc d 236 (22, [l0, l1, l2, l3, l4, l5, l6], [.int i1, .ref k0], h) Q = (iOk sc h k0 i1 ∧ Tr sc d 236 (23, [l0, l1, l2, l3, l4, l5, l6], [.int (iRd sc h k0 i1)], h) Q) := t_iald k_236_22
theorem k_236_23 : lk 236 23 = some (.iconst 3, 24, 0, 0, .int 3) := by decide +kernel
theorem x_236_23 : Tr sc d 236 (23, [l0, l1, l2, l3, l4, l5, l6], [.int i0], h) Q = Tr sc d 236 (24, [l0, l1, l2, l3, l4, l5, l6], [.int 3, .int i0], h) Q := t_go k_236_23 rfl
theorem k_236_24 : lk 236 24 = some (.if_icmp .eq 9, 27, 33, 0, .null) := by decide +kernel
theorem x_236_24 : Tr sc d 236 (24, [l0, l1, l2, l3, l4, l5, l6], [.int i1, .int i0], h) Q = if i0 = i1 then Tr sc d 236 (33, [l0, l1, l2, l3, l4, l5, l6], [], h) Q else Tr sc d 236 (27, [l0, l1, l2, l3, l4, l5, l6], [], h) Q := t_if k_236_24 rfl
theorem k_236_27 : lk 236 27 = some (.aload_n 0, 28, 0, 0, .null) := by decide +kernel
theorem x_236_27 : Tr sc d 236 (27, [some (.ref xk), l1, l2, l3, l4, l5, l6], [], h) Q = Tr sc d 236 (28, [some (.ref xk), l1, l2, l3, l4, l5, l6], [.ref xk], h) Q := t_aload_n k_236_27 rfl
theorem k_236_28 : lk 236 28 = some (.iconst 3, 29, 0, 0, .int 3) := by decide +kernel
theorem x_236_28 : Tr sc d 236 (28, [l0, l1, l2, l3, l4, l5, l6], [.ref k0], h) Q = Tr sc d 236 (29, [l0, l1, l2, l3, l4, l5, l6], [.int 3, .ref k0], h) Q := t_go k_236_28 rfl
theorem k_236_29 : lk 236 29 = some (.invokevirtual 152, 32, 157, 1, .null) := by decide +kernel
theorem x_236_29 : Tr sc (d + 1) 236 (29, [l0, l1, l2, l3, l4, l5, l6], [.int i1, .ref k0], h) Q = (okp h k0 10 = true ∧ Tr sc d 157 (ent0 157 [.ref k0, .int i1] h) (fun z => Tr sc (d + 1) 236 (32, [l0, l1, l2, l3, l4, l5, l6], z.1.toList ++ [], z.2) Q)) := t_cv (as := [.int i1]) (r := []) k_236_29 rfl rfl (Nat.le_of_ble_eq_true rfl) (Nat.le_of_ble_eq_true rfl) (Nat.le_of_ble_eq_true rfl)
theorem k_236_32 : lk 236 32 = some (.ireturn, 33, 0, 0, .null) := by decide +kernel
theorem x_236_32 : Tr sc d 236 (32, [l0, l1, l2, l3, l4, l5, l6], [.int i0], h) Q = Q (some (.int i0), h) := t_ret k_236_32 (by rw [r_236]; rfl)
theorem k_236_33 : lk 236 33 = some (.aload_n 0, 34, 0, 0, .null) := by decide +kernel
theorem x_236_33 : Tr sc d 236 (33, [some (.ref xk), l1, l2, l3, l4, l5, l6], [], h) Q = Tr sc d 236 (34, [some (.ref xk), l1, l2, l3, l4, l5, l6], [.ref xk], h) Q := t_aload_n k_236_33 rfl
theorem k_236_34 : lk 236 34 = some (.iload_n 1, 35, 1, 0, .null) := by decide +kernel
theorem x_236_34 : Tr sc d 236 (34, [l0, some (.int x), l2, l3, l4, l5, l6], [.ref k0], h) Q = Tr sc d 236 (35, [l0, some (.int x), l2, l3, l4, l5, l6], [.int x, .ref k0], h) Q := t_iload_n k_236_34 rfl
theorem k_236_35 : lk 236 35 = some (.iload_n 2, 36, 2, 0, .null) := by decide +kernel
theorem x_236_35 : Tr sc d 236 (35, [l0, l1, some (.int x), l3, l4, l5, l6], [.int i1, .ref k0], h) Q = Tr sc d 236 (36, [l0, l1, some (.int x), l3, l4, l5, l6], [.int x, .int i1, .ref k0], h) Q := t_iload_n k_236_35 rfl
theorem k_236_36 : lk 236 36 = some (.invokevirtual 273, 39, 201, 2, .null) := by decide +kernel
theorem x_236_36 : Tr sc (d + 1) 236 (36, [l0, l1, l2, l3, l4, l5, l6], [.int i2, .int i1, .ref k0], h) Q = (okp h k0 10 = true ∧ Tr sc d 201 (ent0 201 [.ref k0, .int i1, .int i2] h) (fun z => Tr sc (d + 1) 236 (39, [l0, l1, l2, l3, l4, l5, l6], z.1.toList ++ [], z.2) Q)) := t_cv (as := [.int i1, .int i2]) (r := []) k_236_36 rfl rfl (Nat.le_of_ble_eq_true rfl) (Nat.le_of_ble_eq_true rfl) (Nat.le_of_ble_eq_true rfl)
theorem k_236_39 : lk 236 39 = some (.aload_n 0, 40, 0, 0, .null) := by decide +kernel
theorem x_236_39 : Tr sc d 236 (39, [some (.ref xk), l1, l2, l3, l4, l5, l6], [], h) Q = Tr sc d 236 (40, [some (.ref xk), l1, l2, l3, l4, l5, l6], [.ref xk], h) Q := t_aload_n k_236_39 rfl
theorem k_236_40 : lk 236 40 = some (.lconst 0, 41, 0, 0, .long 0) := by decide +kernel
theorem x_236_40 : Tr sc d 236 (40, [l0, l1, l2, l3, l4, l5, l6], [.ref k0], h) Q = Tr sc d 236 (41, [l0, l1, l2, l3, l4, l5, l6], [.long 0, .ref k0], h) Q := t_go k_236_40 rfl
theorem k_236_41 : lk 236 41 = some (.putfield 267, 44, 10, 3, .long 0) := by decide +kernel
theorem x_236_41 : Tr sc d 236 (41, [l0, l1, l2, l3, l4, l5, l6], [.long j1, .ref k0], h) Q = (okp h k0 10 = true ∧ Tr sc d 236 (44, [l0, l1, l2, l3, l4, l5, l6], [], (sL h k0 3 j1)) Q) := t_gd k_236_41 rfl
theorem k_236_44 : lk 236 44 = some (.iconst 0, 45, 0, 0, .int 0) := by decide +kernel
theorem x_236_44 : Tr sc d 236 (44, [l0, l1, l2, l3, l4, l5, l6], [], h) Q = Tr sc d 236 (45, [l0, l1, l2, l3, l4, l5, l6], [.int 0], h) Q := t_go k_236_44 rfl
theorem k_236_45 : lk 236 45 = some (.istore 6, 47, 6, 0, .null) := by decide +kernel
theorem x_236_45 : Tr sc d 236 (45, [l0, l1, l2, l3, l4, l5, l6], [.int i0], h) Q = Tr sc d 236 (47, [l0, l1, l2, l3, l4, cl2 l5, some (.int i0)], [], h) Q := t_istore k_236_45 (Nat.le_of_ble_eq_true rfl)
theorem k_236_47 : lk 236 47 = some (.iload 6, 49, 6, 0, .null) := by decide +kernel
theorem x_236_47 : Tr sc d 236 (47, [l0, l1, l2, l3, l4, l5, some (.int x)], [], h) Q = Tr sc d 236 (49, [l0, l1, l2, l3, l4, l5, some (.int x)], [.int x], h) Q := t_iload k_236_47 rfl
theorem k_236_49 : lk 236 49 = some (.aload_n 0, 50, 0, 0, .null) := by decide +kernel
theorem x_236_49 : Tr sc d 236 (49, [some (.ref xk), l1, l2, l3, l4, l5, l6], [.int i0], h) Q = Tr sc d 236 (50, [some (.ref xk), l1, l2, l3, l4, l5, l6], [.ref xk, .int i0], h) Q := t_aload_n k_236_49 rfl
theorem k_236_50 : lk 236 50 = some (.getfield 270, 53, 10, 31, .int 0) := by decide +kernel
theorem x_236_50 : Tr sc d 236 (50, [l0, l1, l2, l3, l4, l5, l6], [.ref k1, .int i0], h) Q = (okp h k1 10 = true ∧ Tr sc d 236 (53, [l0, l1, l2, l3, l4, l5, l6], [.int (hI h k1 31), .int i0], h) Q) := t_gd k_236_50 rfl
theorem k_236_53 : lk 236 53 = some (.if_icmp .ge 52, 56, 105, 0, .null) := by decide +kernel
theorem x_236_53 : Tr sc d 236 (53, [l0, l1, l2, l3, l4, l5, l6], [.int i1, .int i0], h) Q = if i1 ≤ i0 then Tr sc d 236 (105, [l0, l1, l2, l3, l4, l5, l6], [], h) Q else Tr sc d 236 (56, [l0, l1, l2, l3, l4, l5, l6], [], h) Q := t_if k_236_53 rfl
theorem k_236_56 : lk 236 56 = some (.aload_n 0, 57, 0, 0, .null) := by decide +kernel
theorem x_236_56 : Tr sc d 236 (56, [some (.ref xk), l1, l2, l3, l4, l5, l6], [], h) Q = Tr sc d 236 (57, [some (.ref xk), l1, l2, l3, l4, l5, l6], [.ref xk], h) Q := t_aload_n k_236_56 rfl
theorem k_236_57 : lk 236 57 = some (.dup, 58, 0, 0, .null) := by decide +kernel
theorem x_236_57 : Tr sc d 236 (57, [l0, l1, l2, l3, l4, l5, l6], [.ref k0], h) Q = Tr sc d 236 (58, [l0, l1, l2, l3, l4, l5, l6], [.ref k0, .ref k0], h) Q := t_go k_236_57 rfl
theorem k_236_58 : lk 236 58 = some (.getfield 267, 61, 10, 3, .long 0) := by decide +kernel
theorem x_236_58 : Tr sc d 236 (58, [l0, l1, l2, l3, l4, l5, l6], [.ref k1, .ref k0], h) Q = (okp h k1 10 = true ∧ Tr sc d 236 (61, [l0, l1, l2, l3, l4, l5, l6], [.long (hL h k1 3), .ref k0], h) Q) := t_gd k_236_58 rfl
theorem k_236_61 : lk 236 61 = some (.aload_n 0, 62, 0, 0, .null) := by decide +kernel
theorem x_236_61 : Tr sc d 236 (61, [some (.ref xk), l1, l2, l3, l4, l5, l6], [.long j1, .ref k0], h) Q = Tr sc d 236 (62, [some (.ref xk), l1, l2, l3, l4, l5, l6], [.ref xk, .long j1, .ref k0], h) Q := t_aload_n k_236_61 rfl
theorem k_236_62 : lk 236 62 = some (.getfield 63, 65, 10, 32, .null) := by decide +kernel
theorem x_236_62 : Tr sc d 236 (62, [l0, l1, l2, l3, l4, l5, l6], [.ref k2, .long j1, .ref k0], h) Q = (okp h k2 10 = true ∧ ∃ q, hR h k2 32 = some q ∧ Tr sc d 236 (65, [l0, l1, l2, l3, l4, l5, l6], [.ref q, .long j1, .ref k0], h) Q) := t_getr k_236_62
theorem k_236_65 : lk 236 65 = some (.iload 6, 67, 6, 0, .null) := by decide +kernel
theorem x_236_65 : Tr sc d 236 (65, [l0, l1, l2, l3, l4, l5, some (.int x)], [.ref k2, .long j1, .ref k0], h) Q = Tr sc d 236 (67, [l0, l1, l2, l3, l4, l5, some (.int x)], [.int x, .ref k2, .long j1, .ref k0], h) Q := t_iload k_236_65 rfl
theorem k_236_67 : lk 236 67 = some (.iaload, 68, 0, 0, .null) := by decide +kernel
theorem x_236_67 : Tr sc d 236 (67, [l0, l1, l2, l3, l4, l5, l6], [.int i3, .ref k2, .long j1, .ref k0], h) Q = (iOk sc h k2 i3 ∧ Tr sc d 236 (68, [l0, l1, l2, l3, l4, l5, l6], [.int (iRd sc h k2 i3), .long j1, .ref k0], h) Q) := t_iald k_236_67
theorem k_236_68 : lk 236 68 = some (.iload_n 3, 69, 3, 0, .null) := by decide +kernel
theorem x_236_68 : Tr sc d 236 (68, [l0, l1, l2, some (.int x), l4, l5, l6], [.int i2, .long j1, .ref k0], h) Q = Tr sc d 236 (69, [l0, l1, l2, some (.int x), l4, l5, l6], [.int x, .int i2, .long j1, .ref k0], h) Q := t_iload_n k_236_68 rfl
theorem k_236_69 : lk 236 69 = some (.if_icmp .ne 25, 72, 94, 0, .null) := by decide +kernel
theorem x_236_69 : Tr sc d 236 (69, [l0, l1, l2, l3, l4, l5, l6], [.int i3, .int i2, .long j1, .ref k0], h) Q = if i2 = i3 then Tr sc d 236 (72, [l0, l1, l2, l3, l4, l5, l6], [.long j1, .ref k0], h) Q else Tr sc d 236 (94, [l0, l1, l2, l3, l4, l5, l6], [.long j1, .ref k0], h) Q := t_if k_236_69 rfl
theorem k_236_72 : lk 236 72 = some (.aload_n 0, 73, 0, 0, .null) := by decide +kernel
theorem x_236_72 : Tr sc d 236 (72, [some (.ref xk), l1, l2, l3, l4, l5, l6], [.long j1, .ref k0], h) Q = Tr sc d 236 (73, [some (.ref xk), l1, l2, l3, l4, l5, l6], [.ref xk, .long j1, .ref k0], h) Q := t_aload_n k_236_72 rfl
theorem k_236_73 : lk 236 73 = some (.getfield 66, 76, 10, 33, .null) := by decide +kernel
theorem x_236_73 : Tr sc d 236 (73, [l0, l1, l2, l3, l4, l5, l6], [.ref k2, .long j1, .ref k0], h) Q = (okp h k2 10 = true ∧ ∃ q, hR h k2 33 = some q ∧ Tr sc d 236 (76, [l0, l1, l2, l3, l4, l5, l6], [.ref q, .long j1, .ref k0], h) Q) := t_getr k_236_73
theorem k_236_76 : lk 236 76 = some (.iload 6, 78, 6, 0, .null) := by decide +kernel
theorem x_236_76 : Tr sc d 236 (76, [l0, l1, l2, l3, l4, l5, some (.int x)], [.ref k2, .long j1, .ref k0], h) Q = Tr sc d 236 (78, [l0, l1, l2, l3, l4, l5, some (.int x)], [.int x, .ref k2, .long j1, .ref k0], h) Q := t_iload k_236_76 rfl
theorem k_236_78 : lk 236 78 = some (.iaload, 79, 0, 0, .null) := by decide +kernel
theorem x_236_78 : Tr sc d 236 (78, [l0, l1, l2, l3, l4, l5, l6], [.int i3, .ref k2, .long j1, .ref k0], h) Q = (iOk sc h k2 i3 ∧ Tr sc d 236 (79, [l0, l1, l2, l3, l4, l5, l6], [.int (iRd sc h k2 i3), .long j1, .ref k0], h) Q) := t_iald k_236_78
theorem k_236_79 : lk 236 79 = some (.iload 4, 81, 4, 0, .null) := by decide +kernel
theorem x_236_79 : Tr sc d 236 (79, [l0, l1, l2, l3, some (.int x), l5, l6], [.int i2, .long j1, .ref k0], h) Q = Tr sc d 236 (81, [l0, l1, l2, l3, some (.int x), l5, l6], [.int x, .int i2, .long j1, .ref k0], h) Q := t_iload k_236_79 rfl
theorem k_236_81 : lk 236 81 = some (.if_icmp .ne 13, 84, 94, 0, .null) := by decide +kernel
theorem x_236_81 : Tr sc d 236 (81, [l0, l1, l2, l3, l4, l5, l6], [.int i3, .int i2, .long j1, .ref k0], h) Q = if i2 = i3 then Tr sc d 236 (84, [l0, l1, l2, l3, l4, l5, l6], [.long j1, .ref k0], h) Q else Tr sc d 236 (94, [l0, l1, l2, l3, l4, l5, l6], [.long j1, .ref k0], h) Q := t_if k_236_81 rfl
theorem k_236_84 : lk 236 84 = some (.aload_n 0, 85, 0, 0, .null) := by decide +kernel
theorem x_236_84 : Tr sc d 236 (84, [some (.ref xk), l1, l2, l3, l4, l5, l6], [.long j1, .ref k0], h) Q = Tr sc d 236 (85, [some (.ref xk), l1, l2, l3, l4, l5, l6], [.ref xk, .long j1, .ref k0], h) Q := t_aload_n k_236_84 rfl
theorem k_236_85 : lk 236 85 = some (.getfield 72, 88, 10, 35, .null) := by decide +kernel
theorem x_236_85 : Tr sc d 236 (85, [l0, l1, l2, l3, l4, l5, l6], [.ref k2, .long j1, .ref k0], h) Q = (okp h k2 10 = true ∧ ∃ q, hR h k2 35 = some q ∧ Tr sc d 236 (88, [l0, l1, l2, l3, l4, l5, l6], [.ref q, .long j1, .ref k0], h) Q) := t_getr k_236_85
theorem k_236_88 : lk 236 88 = some (.iload 6, 90, 6, 0, .null) := by decide +kernel
theorem x_236_88 : Tr sc d 236 (88, [l0, l1, l2, l3, l4, l5, some (.int x)], [.ref k2, .long j1, .ref k0], h) Q = Tr sc d 236 (90, [l0, l1, l2, l3, l4, l5, some (.int x)], [.int x, .ref k2, .long j1, .ref k0], h) Q := t_iload k_236_88 rfl
theorem k_236_90 : lk 236 90 = some (.laload, 91, 0, 0, .null) := by decide +kernel
theorem x_236_90 : Tr sc d 236 (90, [l0, l1, l2, l3, l4, l5, l6], [.int i3, .ref k2, .long j1, .ref k0], h) Q = ((okp h k2 12 && inb i3 (LN k2)) = true ∧ Tr sc d 236 (91, [l0, l1, l2, l3, l4, l5, l6], [.long (hL h k2 i3.toNatClampNeg), .long j1, .ref k0], h) Q) := t_gd k_236_90 rfl
theorem k_236_91 : lk 236 91 = some (.goto 4, 94, 95, 0, .null) := by decide +kernel
theorem x_236_91 : Tr sc d 236 (91, [l0, l1, l2, l3, l4, l5, l6], [.long j2, .long j1, .ref k0], h) Q = Tr sc d 236 (95, [l0, l1, l2, l3, l4, l5, l6], [.long j2, .long j1, .ref k0], h) Q := t_go k_236_91 rfl
theorem k_236_94 : lk 236 94 = some (.lconst 0, 95, 0, 0, .long 0) := by decide +kernel
theorem x_236_94 : Tr sc d 236 (94, [l0, l1, l2, l3, l4, l5, l6], [.long j1, .ref k0], h) Q = Tr sc d 236 (95, [l0, l1, l2, l3, l4, l5, l6], [.long 0, .long j1, .ref k0], h) Q := t_go k_236_94 rfl
theorem k_236_95 : lk 236 95 = some (.ladd, 96, 0, 0, .null) := by decide +kernel
theorem x_236_95 : Tr sc d 236 (95, [l0, l1, l2, l3, l4, l5, l6], [.long j2, .long j1, .ref k0], h) Q = Tr sc d 236 (96, [l0, l1, l2, l3, l4, l5, l6], [.long (j1 + j2), .ref k0], h) Q := t_go k_236_95 rfl
theorem k_236_96 : lk 236 96 = some (.putfield 267, 99, 10, 3, .long 0) := by decide +kernel
theorem x_236_96 : Tr sc d 236 (96, [l0, l1, l2, l3, l4, l5, l6], [.long j1, .ref k0], h) Q = (okp h k0 10 = true ∧ Tr sc d 236 (99, [l0, l1, l2, l3, l4, l5, l6], [], (sL h k0 3 j1)) Q) := t_gd k_236_96 rfl
theorem k_236_99 : lk 236 99 = some (.iinc 6 1, 102, 6, 0, .int 1) := by decide +kernel
theorem x_236_99 : Tr sc d 236 (99, [l0, l1, l2, l3, l4, l5, some (.int x)], [], h) Q = Tr sc d 236 (102, [l0, l1, l2, l3, l4, cl2 l5, some (.int (x + 1))], [], h) Q := t_inc k_236_99 rfl (Nat.le_of_ble_eq_true rfl)
theorem k_236_102 : lk 236 102 = some (.goto (-55), 105, 47, 0, .null) := by decide +kernel
theorem x_236_102 : Tr sc d 236 (102, [l0, l1, l2, l3, l4, l5, l6], [], h) Q = Tr sc d 236 (47, [l0, l1, l2, l3, l4, l5, l6], [], h) Q := t_go k_236_102 rfl
theorem k_236_105 : lk 236 105 = some (.iconst 1, 106, 0, 0, .int 1) := by decide +kernel
theorem x_236_105 : Tr sc d 236 (105, [l0, l1, l2, l3, l4, l5, l6], [], h) Q = Tr sc d 236 (106, [l0, l1, l2, l3, l4, l5, l6], [.int 1], h) Q := t_go k_236_105 rfl
theorem k_236_106 : lk 236 106 = some (.ireturn, 107, 0, 0, .null) := by decide +kernel
theorem x_236_106 : Tr sc d 236 (106, [l0, l1, l2, l3, l4, l5, l6], [.int i0], h) Q = Q (some (.int i0), h) := t_ret k_236_106 (by rw [r_236]; rfl)
theorem e_236 : Tr sc d 236 (ent0 236 [.ref k0, .int i1, .int i2, .int i3, .int i4] h) Q = Tr sc d 236 (0, [some (.ref k0), some (.int i1), some (.int i2), some (.int i3), some (.int i4), none, none], [], h) Q := by
  have e : mL 236 = 7 := by decide +kernel
  unfold ent0
  rw [e]
  rfl
theorem r_237 : mR 237 = some .int := by decide +kernel
theorem k_237_0 : lk 237 0 = some (.aload_n 0, 1, 0, 0, .null) := by decide +kernel
theorem x_237_0 : Tr sc d 237 (0, [some (.ref xk), l1, l2, l3, l4, l5, l6, l7], [], h) Q = Tr sc d 237 (1, [some (.ref xk), l1, l2, l3, l4, l5, l6, l7], [.ref xk], h) Q := t_aload_n k_237_0 rfl
theorem k_237_1 : lk 237 1 = some (.iload_n 1, 2, 1, 0, .null) := by decide +kernel
theorem x_237_1 : Tr sc d 237 (1, [l0, some (.int x), l2, l3, l4, l5, l6, l7], [.ref k0], h) Q = Tr sc d 237 (2, [l0, some (.int x), l2, l3, l4, l5, l6, l7], [.int x, .ref k0], h) Q := t_iload_n k_237_1 rfl
theorem k_237_2 : lk 237 2 = some (.iload_n 2, 3, 2, 0, .null) := by decide +kernel
theorem x_237_2 : Tr sc d 237 (2, [l0, l1, some (.int x), l3, l4, l5, l6, l7], [.int i1, .ref k0], h) Q = Tr sc d 237 (3, [l0, l1, some (.int x), l3, l4, l5, l6, l7], [.int x, .int i1, .ref k0], h) Q := t_iload_n k_237_2 rfl
theorem k_237_3 : lk 237 3 = some (.iconst 3, 4, 0, 0, .int 3) := by decide +kernel
theorem x_237_3 : Tr sc d 237 (3, [l0, l1, l2, l3, l4, l5, l6, l7], [.int i2, .int i1, .ref k0], h) Q = Tr sc d 237 (4, [l0, l1, l2, l3, l4, l5, l6, l7], [.int 3, .int i2, .int i1, .ref k0], h) Q := t_go k_237_3 rfl
theorem k_237_4 : lk 237 4 = some (.invokevirtual 304, 7, 205, 3, .null) := by decide +kernel
theorem x_237_4 : Tr sc (d + 1) 237 (4, [l0, l1, l2, l3, l4, l5, l6, l7], [.int i3, .int i2, .int i1, .ref k0], h) Q = (okp h k0 10 = true ∧ Tr sc d 205 (ent0 205 [.ref k0, .int i1, .int i2, .int i3] h) (fun z => Tr sc (d + 1) 237 (7, [l0, l1, l2, l3, l4, l5, l6, l7], z.1.toList ++ [], z.2) Q)) := t_cv (as := [.int i1, .int i2, .int i3]) (r := []) k_237_4 rfl rfl (Nat.le_of_ble_eq_true rfl) (Nat.le_of_ble_eq_true rfl) (Nat.le_of_ble_eq_true rfl)
theorem k_237_7 : lk 237 7 = some (.istore_n 3, 8, 3, 0, .null) := by decide +kernel
theorem x_237_7 : Tr sc d 237 (7, [l0, l1, l2, l3, l4, l5, l6, l7], [.int i0], h) Q = Tr sc d 237 (8, [l0, l1, cl2 l2, some (.int i0), l4, l5, l6, l7], [], h) Q := t_istore_n k_237_7 (Nat.le_of_ble_eq_true rfl)
theorem k_237_8 : lk 237 8 = some (.iload_n 3, 9, 3, 0, .null) := by decide +kernel
theorem x_237_8 : Tr sc d 237 (8, [l0, l1, l2, some (.int x), l4, l5, l6, l7], [], h) Q = Tr sc d 237 (9, [l0, l1, l2, some (.int x), l4, l5, l6, l7], [.int x], h) Q := t_iload_n k_237_8 rfl
theorem k_237_9 : lk 237 9 = some (.ifCond .ge 5, 12, 14, 0, .null) := by decide +kernel
theorem x_237_9 : Tr sc d 237 (9, [l0, l1, l2, l3, l4, l5, l6, l7], [.int i0], h) Q = if 0 ≤ i0 then Tr sc d 237 (14, [l0, l1, l2, l3, l4, l5, l6, l7], [], h) Q else Tr sc d 237 (12, [l0, l1, l2, l3, l4, l5, l6, l7], [], h) Q := t_if k_237_9 rfl
theorem k_237_12 : lk 237 12 = some (.iload_n 3, 13, 3, 0, .null) := by decide +kernel
theorem x_237_12 : Tr sc d 237 (12, [l0, l1, l2, some (.int x), l4, l5, l6, l7], [], h) Q = Tr sc d 237 (13, [l0, l1, l2, some (.int x), l4, l5, l6, l7], [.int x], h) Q := t_iload_n k_237_12 rfl
theorem k_237_13 : lk 237 13 = some (.ireturn, 14, 0, 0, .null) := by decide +kernel
theorem x_237_13 : Tr sc d 237 (13, [l0, l1, l2, l3, l4, l5, l6, l7], [.int i0], h) Q = Q (some (.int i0), h) := t_ret k_237_13 (by rw [r_237]; rfl)
theorem k_237_14 : lk 237 14 = some (.aload_n 0, 15, 0, 0, .null) := by decide +kernel
theorem x_237_14 : Tr sc d 237 (14, [some (.ref xk), l1, l2, l3, l4, l5, l6, l7], [], h) Q = Tr sc d 237 (15, [some (.ref xk), l1, l2, l3, l4, l5, l6, l7], [.ref xk], h) Q := t_aload_n k_237_14 rfl
theorem k_237_15 : lk 237 15 = some (.iload_n 1, 16, 1, 0, .null) := by decide +kernel
theorem x_237_15 : Tr sc d 237 (15, [l0, some (.int x), l2, l3, l4, l5, l6, l7], [.ref k0], h) Q = Tr sc d 237 (16, [l0, some (.int x), l2, l3, l4, l5, l6, l7], [.int x, .ref k0], h) Q := t_iload_n k_237_15 rfl
theorem k_237_16 : lk 237 16 = some (.iload_n 2, 17, 2, 0, .null) := by decide +kernel
theorem x_237_16 : Tr sc d 237 (16, [l0, l1, some (.int x), l3, l4, l5, l6, l7], [.int i1, .ref k0], h) Q = Tr sc d 237 (17, [l0, l1, some (.int x), l3, l4, l5, l6, l7], [.int x, .int i1, .ref k0], h) Q := t_iload_n k_237_16 rfl
theorem k_237_17 : lk 237 17 = some (.invokevirtual 307, 20, 203, 2, .null) := by decide +kernel
theorem x_237_17 : Tr sc (d + 1) 237 (17, [l0, l1, l2, l3, l4, l5, l6, l7], [.int i2, .int i1, .ref k0], h) Q = (okp h k0 10 = true ∧ Tr sc d 203 (ent0 203 [.ref k0, .int i1, .int i2] h) (fun z => Tr sc (d + 1) 237 (20, [l0, l1, l2, l3, l4, l5, l6, l7], z.1.toList ++ [], z.2) Q)) := t_cv (as := [.int i1, .int i2]) (r := []) k_237_17 rfl rfl (Nat.le_of_ble_eq_true rfl) (Nat.le_of_ble_eq_true rfl) (Nat.le_of_ble_eq_true rfl)
theorem k_237_20 : lk 237 20 = some (.aload_n 0, 21, 0, 0, .null) := by decide +kernel
theorem x_237_20 : Tr sc d 237 (20, [some (.ref xk), l1, l2, l3, l4, l5, l6, l7], [], h) Q = Tr sc d 237 (21, [some (.ref xk), l1, l2, l3, l4, l5, l6, l7], [.ref xk], h) Q := t_aload_n k_237_20 rfl
theorem k_237_21 : lk 237 21 = some (.getfield 283, 24, 10, 36, .int 0) := by decide +kernel
theorem x_237_21 : Tr sc d 237 (21, [l0, l1, l2, l3, l4, l5, l6, l7], [.ref k0], h) Q = (okp h k0 10 = true ∧ Tr sc d 237 (24, [l0, l1, l2, l3, l4, l5, l6, l7], [.int (hI h k0 36)], h) Q) := t_gd k_237_21 rfl
theorem k_237_24 : lk 237 24 = some (.ifCond .ne 5, 27, 29, 0, .null) := by decide +kernel
theorem x_237_24 : Tr sc d 237 (24, [l0, l1, l2, l3, l4, l5, l6, l7], [.int i0], h) Q = if i0 = 0 then Tr sc d 237 (27, [l0, l1, l2, l3, l4, l5, l6, l7], [], h) Q else Tr sc d 237 (29, [l0, l1, l2, l3, l4, l5, l6, l7], [], h) Q := t_if k_237_24 rfl
theorem k_237_27 : lk 237 27 = some (.iconst 0, 28, 0, 0, .int 0) := by decide +kernel
theorem x_237_27 : Tr sc d 237 (27, [l0, l1, l2, l3, l4, l5, l6, l7], [], h) Q = Tr sc d 237 (28, [l0, l1, l2, l3, l4, l5, l6, l7], [.int 0], h) Q := t_go k_237_27 rfl
theorem k_237_28 : lk 237 28 = some (.ireturn, 29, 0, 0, .null) := by decide +kernel
theorem x_237_28 : Tr sc d 237 (28, [l0, l1, l2, l3, l4, l5, l6, l7], [.int i0], h) Q = Q (some (.int i0), h) := t_ret k_237_28 (by rw [r_237]; rfl)
theorem k_237_29 : lk 237 29 = some (.aload_n 0, 30, 0, 0, .null) := by decide +kernel
theorem x_237_29 : Tr sc d 237 (29, [some (.ref xk), l1, l2, l3, l4, l5, l6, l7], [], h) Q = Tr sc d 237 (30, [some (.ref xk), l1, l2, l3, l4, l5, l6, l7], [.ref xk], h) Q := t_aload_n k_237_29 rfl
theorem k_237_30 : lk 237 30 = some (.getfield 295, 33, 10, 42, .int 0) := by decide +kernel
theorem x_237_30 : Tr sc d 237 (30, [l0, l1, l2, l3, l4, l5, l6, l7], [.ref k0], h) Q = (okp h k0 10 = true ∧ Tr sc d 237 (33, [l0, l1, l2, l3, l4, l5, l6, l7], [.int (hI h k0 42)], h) Q) := t_gd k_237_30 rfl
theorem k_237_33 : lk 237 33 = some (.aload_n 0, 34, 0, 0, .null) := by decide +kernel
theorem x_237_33 : Tr sc d 237 (33, [some (.ref xk), l1, l2, l3, l4, l5, l6, l7], [.int i0], h) Q = Tr sc d 237 (34, [some (.ref xk), l1, l2, l3, l4, l5, l6, l7], [.ref xk, .int i0], h) Q := t_aload_n k_237_33 rfl
theorem k_237_34 : lk 237 34 = some (.getfield 292, 37, 10, 41, .int 0) := by decide +kernel
theorem x_237_34 : Tr sc d 237 (34, [l0, l1, l2, l3, l4, l5, l6, l7], [.ref k1, .int i0], h) Q = (okp h k1 10 = true ∧ Tr sc d 237 (37, [l0, l1, l2, l3, l4, l5, l6, l7], [.int (hI h k1 41), .int i0], h) Q) := t_gd k_237_34 rfl
theorem k_237_37 : lk 237 37 = some (.isub, 38, 0, 0, .null) := by decide +kernel
theorem x_237_37 : Tr sc d 237 (37, [l0, l1, l2, l3, l4, l5, l6, l7], [.int i1, .int i0], h) Q = Tr sc d 237 (38, [l0, l1, l2, l3, l4, l5, l6, l7], [.int (i0 - i1)], h) Q := t_go k_237_37 rfl
theorem k_237_38 : lk 237 38 = some (.iconst 3, 39, 0, 0, .int 3) := by decide +kernel
theorem x_237_38 : Tr sc d 237 (38, [l0, l1, l2, l3, l4, l5, l6, l7], [.int i0], h) Q = Tr sc d 237 (39, [l0, l1, l2, l3, l4, l5, l6, l7], [.int 3, .int i0], h) Q := t_go k_237_38 rfl
theorem k_237_39 : lk 237 39 = some (.iadd, 40, 0, 0, .null) := by decide +kernel
theorem x_237_39 : Tr sc d 237 (39, [l0, l1, l2, l3, l4, l5, l6, l7], [.int i1, .int i0], h) Q = Tr sc d 237 (40, [l0, l1, l2, l3, l4, l5, l6, l7], [.int (i0 + i1)], h) Q := t_go k_237_39 rfl
theorem k_237_40 : lk 237 40 = some (.istore 4, 42, 4, 0, .null) := by decide +kernel
theorem x_237_40 : Tr sc d 237 (40, [l0, l1, l2, l3, l4, l5, l6, l7], [.int i0], h) Q = Tr sc d 237 (42, [l0, l1, l2, cl2 l3, some (.int i0), l5, l6, l7], [], h) Q := t_istore k_237_40 (Nat.le_of_ble_eq_true rfl)
theorem k_237_42 : lk 237 42 = some (.aload_n 0, 43, 0, 0, .null) := by decide +kernel
theorem x_237_42 : Tr sc d 237 (42, [some (.ref xk), l1, l2, l3, l4, l5, l6, l7], [], h) Q = Tr sc d 237 (43, [some (.ref xk), l1, l2, l3, l4, l5, l6, l7], [.ref xk], h) Q := t_aload_n k_237_42 rfl
theorem k_237_43 : lk 237 43 = some (.getfield 301, 46, 10, 44, .int 0) := by decide +kernel
theorem x_237_43 : Tr sc d 237 (43, [l0, l1, l2, l3, l4, l5, l6, l7], [.ref k0], h) Q = (okp h k0 10 = true ∧ Tr sc d 237 (46, [l0, l1, l2, l3, l4, l5, l6, l7], [.int (hI h k0 44)], h) Q) := t_gd k_237_43 rfl
theorem k_237_46 : lk 237 46 = some (.aload_n 0, 47, 0, 0, .null) := by decide +kernel
theorem x_237_46 : Tr sc d 237 (46, [some (.ref xk), l1, l2, l3, l4, l5, l6, l7], [.int i0], h) Q = Tr sc d 237 (47, [some (.ref xk), l1, l2, l3, l4, l5, l6, l7], [.ref xk, .int i0], h) Q := t_aload_n k_237_46 rfl
theorem k_237_47 : lk 237 47 = some (.getfield 298, 50, 10, 43, .int 0) := by decide +kernel
theorem x_237_47 : Tr sc d 237 (47, [l0, l1, l2, l3, l4, l5, l6, l7], [.ref k1, .int i0], h) Q = (okp h k1 10 = true ∧ Tr sc d 237 (50, [l0, l1, l2, l3, l4, l5, l6, l7], [.int (hI h k1 43), .int i0], h) Q) := t_gd k_237_47 rfl
theorem k_237_50 : lk 237 50 = some (.isub, 51, 0, 0, .null) := by decide +kernel
theorem x_237_50 : Tr sc d 237 (50, [l0, l1, l2, l3, l4, l5, l6, l7], [.int i1, .int i0], h) Q = Tr sc d 237 (51, [l0, l1, l2, l3, l4, l5, l6, l7], [.int (i0 - i1)], h) Q := t_go k_237_50 rfl
theorem k_237_51 : lk 237 51 = some (.iconst 3, 52, 0, 0, .int 3) := by decide +kernel
theorem x_237_51 : Tr sc d 237 (51, [l0, l1, l2, l3, l4, l5, l6, l7], [.int i0], h) Q = Tr sc d 237 (52, [l0, l1, l2, l3, l4, l5, l6, l7], [.int 3, .int i0], h) Q := t_go k_237_51 rfl
theorem k_237_52 : lk 237 52 = some (.iadd, 53, 0, 0, .null) := by decide +kernel
theorem x_237_52 : Tr sc d 237 (52, [l0, l1, l2, l3, l4, l5, l6, l7], [.int i1, .int i0], h) Q = Tr sc d 237 (53, [l0, l1, l2, l3, l4, l5, l6, l7], [.int (i0 + i1)], h) Q := t_go k_237_52 rfl
theorem k_237_53 : lk 237 53 = some (.istore 5, 55, 5, 0, .null) := by decide +kernel
theorem x_237_53 : Tr sc d 237 (53, [l0, l1, l2, l3, l4, l5, l6, l7], [.int i0], h) Q = Tr sc d 237 (55, [l0, l1, l2, l3, cl2 l4, some (.int i0), l6, l7], [], h) Q := t_istore k_237_53 (Nat.le_of_ble_eq_true rfl)
theorem k_237_55 : lk 237 55 = some (.iload 4, 57, 4, 0, .null) := by decide +kernel
theorem x_237_55 : Tr sc d 237 (55, [l0, l1, l2, l3, some (.int x), l5, l6, l7], [], h) Q = Tr sc d 237 (57, [l0, l1, l2, l3, some (.int x), l5, l6, l7], [.int x], h) Q := t_iload k_237_55 rfl
theorem k_237_57 : lk 237 57 = some (.i2l, 58, 0, 0, .null) := by decide +kernel
theorem x_237_57 : Tr sc d 237 (57, [l0, l1, l2, l3, l4, l5, l6, l7], [.int i0], h) Q = Tr sc d 237 (58, [l0, l1, l2, l3, l4, l5, l6, l7], [.long i0.toInt64], h) Q := t_go k_237_57 rfl
theorem k_237_58 : lk 237 58 = some (.iload 5, 60, 5, 0, .null) := by decide +kernel
theorem x_237_58 : Tr sc d 237 (58, [l0, l1, l2, l3, l4, some (.int x), l6, l7], [.long j0], h) Q = Tr sc d 237 (60, [l0, l1, l2, l3, l4, some (.int x), l6, l7], [.int x, .long j0], h) Q := t_iload k_237_58 rfl
theorem k_237_60 : lk 237 60 = some (.i2l, 61, 0, 0, .null) := by decide +kernel
theorem x_237_60 : Tr sc d 237 (60, [l0, l1, l2, l3, l4, l5, l6, l7], [.int i1, .long j0], h) Q = Tr sc d 237 (61, [l0, l1, l2, l3, l4, l5, l6, l7], [.long i1.toInt64, .long j0], h) Q := t_go k_237_60 rfl
theorem k_237_61 : lk 237 61 = some (.lmul, 62, 0, 0, .null) := by decide +kernel
theorem x_237_61 : Tr sc d 237 (61, [l0, l1, l2, l3, l4, l5, l6, l7], [.long j1, .long j0], h) Q = Tr sc d 237 (62, [l0, l1, l2, l3, l4, l5, l6, l7], [.long (j0 * j1)], h) Q := t_go k_237_61 rfl
theorem k_237_62 : lk 237 62 = some (.ldc2_w 362, 65, 0, 1688, .long 1600) := by decide +kernel
theorem x_237_62 : Tr sc d 237 (62, [l0, l1, l2, l3, l4, l5, l6, l7], [.long j0], h) Q = Tr sc d 237 (65, [l0, l1, l2, l3, l4, l5, l6, l7], [.long 1600, .long j0], h) Q := t_go k_237_62 rfl
theorem k_237_65 : lk 237 65 = some (.lcmp, 66, 0, 0, .null) := by decide +kernel
theorem x_237_65 : Tr sc d 237 (65, [l0, l1, l2, l3, l4, l5, l6, l7], [.long j1, .long j0], h) Q = Tr sc d 237 (66, [l0, l1, l2, l3, l4, l5, l6, l7], [.int (lg_cmp j0 j1)], h) Q := t_go k_237_65 rfl
theorem k_237_66 : lk 237 66 = some (.ifCond .le 6, 69, 72, 0, .null) := by decide +kernel
theorem x_237_66 : Tr sc d 237 (66, [l0, l1, l2, l3, l4, l5, l6, l7], [.int i0], h) Q = if i0 ≤ 0 then Tr sc d 237 (72, [l0, l1, l2, l3, l4, l5, l6, l7], [], h) Q else Tr sc d 237 (69, [l0, l1, l2, l3, l4, l5, l6, l7], [], h) Q := t_if k_237_66 rfl
theorem k_237_69 : lk 237 69 = some (.bipush (-6), 71, 0, 0, .int (-6)) := by decide +kernel
theorem x_237_69 : Tr sc d 237 (69, [l0, l1, l2, l3, l4, l5, l6, l7], [], h) Q = Tr sc d 237 (71, [l0, l1, l2, l3, l4, l5, l6, l7], [.int (-6)], h) Q := t_go k_237_69 rfl
theorem k_237_71 : lk 237 71 = some (.ireturn, 72, 0, 0, .null) := by decide +kernel
theorem x_237_71 : Tr sc d 237 (71, [l0, l1, l2, l3, l4, l5, l6, l7], [.int i0], h) Q = Q (some (.int i0), h) := t_ret k_237_71 (by rw [r_237]; rfl)
theorem k_237_72 : lk 237 72 = some (.iconst 0, 73, 0, 0, .int 0) := by decide +kernel
theorem x_237_72 : Tr sc d 237 (72, [l0, l1, l2, l3, l4, l5, l6, l7], [], h) Q = Tr sc d 237 (73, [l0, l1, l2, l3, l4, l5, l6, l7], [.int 0], h) Q := t_go k_237_72 rfl
theorem k_237_73 : lk 237 73 = some (.istore 6, 75, 6, 0, .null) := by decide +kernel
theorem x_237_73 : Tr sc d 237 (73, [l0, l1, l2, l3, l4, l5, l6, l7], [.int i0], h) Q = Tr sc d 237 (75, [l0, l1, l2, l3, l4, cl2 l5, some (.int i0), l7], [], h) Q := t_istore k_237_73 (Nat.le_of_ble_eq_true rfl)
theorem k_237_75 : lk 237 75 = some (.iload 6, 77, 6, 0, .null) := by decide +kernel
theorem x_237_75 : Tr sc d 237 (75, [l0, l1, l2, l3, l4, l5, some (.int x), l7], [], h) Q = Tr sc d 237 (77, [l0, l1, l2, l3, l4, l5, some (.int x), l7], [.int x], h) Q := t_iload k_237_75 rfl
theorem k_237_77 : lk 237 77 = some (.iload 4, 79, 4, 0, .null) := by decide +kernel
theorem x_237_77 : Tr sc d 237 (77, [l0, l1, l2, l3, some (.int x), l5, l6, l7], [.int i0], h) Q = Tr sc d 237 (79, [l0, l1, l2, l3, some (.int x), l5, l6, l7], [.int x, .int i0], h) Q := t_iload k_237_77 rfl
theorem k_237_79 : lk 237 79 = some (.iload 5, 81, 5, 0, .null) := by decide +kernel
theorem x_237_79 : Tr sc d 237 (79, [l0, l1, l2, l3, l4, some (.int x), l6, l7], [.int i1, .int i0], h) Q = Tr sc d 237 (81, [l0, l1, l2, l3, l4, some (.int x), l6, l7], [.int x, .int i1, .int i0], h) Q := t_iload k_237_79 rfl
theorem k_237_81 : lk 237 81 = some (.imul, 82, 0, 0, .null) := by decide +kernel
theorem x_237_81 : Tr sc d 237 (81, [l0, l1, l2, l3, l4, l5, l6, l7], [.int i2, .int i1, .int i0], h) Q = Tr sc d 237 (82, [l0, l1, l2, l3, l4, l5, l6, l7], [.int (i1 * i2), .int i0], h) Q := t_go k_237_81 rfl
theorem k_237_82 : lk 237 82 = some (.if_icmp .ge 17, 85, 99, 0, .null) := by decide +kernel
theorem x_237_82 : Tr sc d 237 (82, [l0, l1, l2, l3, l4, l5, l6, l7], [.int i1, .int i0], h) Q = if i1 ≤ i0 then Tr sc d 237 (99, [l0, l1, l2, l3, l4, l5, l6, l7], [], h) Q else Tr sc d 237 (85, [l0, l1, l2, l3, l4, l5, l6, l7], [], h) Q := t_if k_237_82 rfl
theorem k_237_85 : lk 237 85 = some (.aload_n 0, 86, 0, 0, .null) := by decide +kernel
theorem x_237_85 : Tr sc d 237 (85, [some (.ref xk), l1, l2, l3, l4, l5, l6, l7], [], h) Q = Tr sc d 237 (86, [some (.ref xk), l1, l2, l3, l4, l5, l6, l7], [.ref xk], h) Q := t_aload_n k_237_85 rfl
theorem k_237_86 : lk 237 86 = some (.getfield 122, 89, 10, 58, .null) := by decide +kernel
theorem x_237_86 : Tr sc d 237 (86, [l0, l1, l2, l3, l4, l5, l6, l7], [.ref k0], h) Q = (okp h k0 10 = true ∧ ∃ q, hR h k0 58 = some q ∧ Tr sc d 237 (89, [l0, l1, l2, l3, l4, l5, l6, l7], [.ref q], h) Q) := t_getr k_237_86
theorem k_237_89 : lk 237 89 = some (.iload 6, 91, 6, 0, .null) := by decide +kernel
theorem x_237_89 : Tr sc d 237 (89, [l0, l1, l2, l3, l4, l5, some (.int x), l7], [.ref k0], h) Q = Tr sc d 237 (91, [l0, l1, l2, l3, l4, l5, some (.int x), l7], [.int x, .ref k0], h) Q := t_iload k_237_89 rfl
theorem k_237_91 : lk 237 91 = some (.iconst 0, 92, 0, 0, .int 0) := by decide +kernel
theorem x_237_91 : Tr sc d 237 (91, [l0, l1, l2, l3, l4, l5, l6, l7], [.int i1, .ref k0], h) Q = Tr sc d 237 (92, [l0, l1, l2, l3, l4, l5, l6, l7], [.int 0, .int i1, .ref k0], h) Q := t_go k_237_91 rfl
theorem k_237_92 : lk 237 92 = some (.iastore, 93, 0, 0, .null) := by decide +kernel
theorem x_237_92 : Tr sc d 237 (92, [l0, l1, l2, l3, l4, l5, l6, l7], [.int i2, .int i1, .ref k0], h) Q = ((okp h k0 11 && inb i1 (LN k0)) = true ∧ Tr sc d 237 (93, [l0, l1, l2, l3, l4, l5, l6, l7], [], (sI h k0 i1.toNatClampNeg i2)) Q) := t_gd k_237_92 rfl
theorem k_237_93 : lk 237 93 = some (.iinc 6 1, 96, 6, 0, .int 1) := by decide +kernel
theorem x_237_93 : Tr sc d 237 (93, [l0, l1, l2, l3, l4, l5, some (.int x), l7], [], h) Q = Tr sc d 237 (96, [l0, l1, l2, l3, l4, cl2 l5, some (.int (x + 1)), l7], [], h) Q := t_inc k_237_93 rfl (Nat.le_of_ble_eq_true rfl)
theorem k_237_96 : lk 237 96 = some (.goto (-21), 99, 75, 0, .null) := by decide +kernel
theorem x_237_96 : Tr sc d 237 (96, [l0, l1, l2, l3, l4, l5, l6, l7], [], h) Q = Tr sc d 237 (75, [l0, l1, l2, l3, l4, l5, l6, l7], [], h) Q := t_go k_237_96 rfl
theorem k_237_99 : lk 237 99 = some (.iconst 0, 100, 0, 0, .int 0) := by decide +kernel
theorem x_237_99 : Tr sc d 237 (99, [l0, l1, l2, l3, l4, l5, l6, l7], [], h) Q = Tr sc d 237 (100, [l0, l1, l2, l3, l4, l5, l6, l7], [.int 0], h) Q := t_go k_237_99 rfl
theorem k_237_100 : lk 237 100 = some (.istore 6, 102, 6, 0, .null) := by decide +kernel
theorem x_237_100 : Tr sc d 237 (100, [l0, l1, l2, l3, l4, l5, l6, l7], [.int i0], h) Q = Tr sc d 237 (102, [l0, l1, l2, l3, l4, cl2 l5, some (.int i0), l7], [], h) Q := t_istore k_237_100 (Nat.le_of_ble_eq_true rfl)
theorem k_237_102 : lk 237 102 = some (.iload 6, 104, 6, 0, .null) := by decide +kernel
theorem x_237_102 : Tr sc d 237 (102, [l0, l1, l2, l3, l4, l5, some (.int x), l7], [], h) Q = Tr sc d 237 (104, [l0, l1, l2, l3, l4, l5, some (.int x), l7], [.int x], h) Q := t_iload k_237_102 rfl
theorem k_237_104 : lk 237 104 = some (.aload_n 0, 105, 0, 0, .null) := by decide +kernel
theorem x_237_104 : Tr sc d 237 (104, [some (.ref xk), l1, l2, l3, l4, l5, l6, l7], [.int i0], h) Q = Tr sc d 237 (105, [some (.ref xk), l1, l2, l3, l4, l5, l6, l7], [.ref xk, .int i0], h) Q := t_aload_n k_237_104 rfl
theorem k_237_105 : lk 237 105 = some (.getfield 283, 108, 10, 36, .int 0) := by decide +kernel
theorem x_237_105 : Tr sc d 237 (105, [l0, l1, l2, l3, l4, l5, l6, l7], [.ref k1, .int i0], h) Q = (okp h k1 10 = true ∧ Tr sc d 237 (108, [l0, l1, l2, l3, l4, l5, l6, l7], [.int (hI h k1 36), .int i0], h) Q) := t_gd k_237_105 rfl
theorem k_237_108 : lk 237 108 = some (.if_icmp .ge 47, 111, 155, 0, .null) := by decide +kernel
theorem x_237_108 : Tr sc d 237 (108, [l0, l1, l2, l3, l4, l5, l6, l7], [.int i1, .int i0], h) Q = if i1 ≤ i0 then Tr sc d 237 (155, [l0, l1, l2, l3, l4, l5, l6, l7], [], h) Q else Tr sc d 237 (111, [l0, l1, l2, l3, l4, l5, l6, l7], [], h) Q := t_if k_237_108 rfl
theorem k_237_111 : lk 237 111 = some (.aload_n 0, 112, 0, 0, .null) := by decide +kernel
theorem x_237_111 : Tr sc d 237 (111, [some (.ref xk), l1, l2, l3, l4, l5, l6, l7], [], h) Q = Tr sc d 237 (112, [some (.ref xk), l1, l2, l3, l4, l5, l6, l7], [.ref xk], h) Q := t_aload_n k_237_111 rfl
theorem k_237_112 : lk 237 112 = some (.getfield 122, 115, 10, 58, .null) := by decide +kernel
theorem x_237_112 : Tr sc d 237 (112, [l0, l1, l2, l3, l4, l5, l6, l7], [.ref k0], h) Q = (okp h k0 10 = true ∧ ∃ q, hR h k0 58 = some q ∧ Tr sc d 237 (115, [l0, l1, l2, l3, l4, l5, l6, l7], [.ref q], h) Q) := t_getr k_237_112
theorem k_237_115 : lk 237 115 = some (.iload 4, 117, 4, 0, .null) := by decide +kernel
theorem x_237_115 : Tr sc d 237 (115, [l0, l1, l2, l3, some (.int x), l5, l6, l7], [.ref k0], h) Q = Tr sc d 237 (117, [l0, l1, l2, l3, some (.int x), l5, l6, l7], [.int x, .ref k0], h) Q := t_iload k_237_115 rfl
theorem k_237_117 : lk 237 117 = some (.aload_n 0, 118, 0, 0, .null) := by decide +kernel
theorem x_237_117 : Tr sc d 237 (117, [some (.ref xk), l1, l2, l3, l4, l5, l6, l7], [.int i1, .ref k0], h) Q = Tr sc d 237 (118, [some (.ref xk), l1, l2, l3, l4, l5, l6, l7], [.ref xk, .int i1, .ref k0], h) Q := t_aload_n k_237_117 rfl
theorem k_237_118 : lk 237 118 = some (.getfield 81, 121, 10, 40, .null) := by decide +kernel
theorem x_237_118 : Tr sc d 237 (118, [l0, l1, l2, l3, l4, l5, l6, l7], [.ref k2, .int i1, .ref k0], h) Q = (okp h k2 10 = true ∧ ∃ q, hR h k2 40 = some q ∧ Tr sc d 237 (121, [l0, l1, l2, l3, l4, l5, l6, l7], [.ref q, .int i1, .ref k0], h) Q) := t_getr k_237_118
theorem k_237_121 : lk 237 121 = some (.iload 6, 123, 6, 0, .null) := by decide +kernel
theorem x_237_121 : Tr sc d 237 (121, [l0, l1, l2, l3, l4, l5, some (.int x), l7], [.ref k2, .int i1, .ref k0], h) Q = Tr sc d 237 (123, [l0, l1, l2, l3, l4, l5, some (.int x), l7], [.int x, .ref k2, .int i1, .ref k0], h) Q := t_iload k_237_121 rfl
theorem k_237_123 : lk 237 123 = some (.iaload, 124, 0, 0, .null) := by decide +kernel
theorem x_237_123 : Tr sc d 237 (123, [l0, l1, l2, l3, l4, l5, l6, l7], [.int i3, .ref k2, .int i1, .ref k0], h) Q = (iOk sc h k2 i3 ∧ Tr sc d 237 (124, [l0, l1, l2, l3, l4, l5, l6, l7], [.int (iRd sc h k2 i3), .int i1, .ref k0], h) Q) := t_iald k_237_123
theorem k_237_124 : lk 237 124 = some (.aload_n 0, 125, 0, 0, .null) := by decide +kernel
theorem x_237_124 : Tr sc d 237 (124, [some (.ref xk), l1, l2, l3, l4, l5, l6, l7], [.int i2, .int i1, .ref k0], h) Q = Tr sc d 237 (125, [some (.ref xk), l1, l2, l3, l4, l5, l6, l7], [.ref xk, .int i2, .int i1, .ref k0], h) Q := t_aload_n k_237_124 rfl
theorem k_237_125 : lk 237 125 = some (.getfield 298, 128, 10, 43, .int 0) := by decide +kernel
theorem x_237_125 : Tr sc d 237 (125, [l0, l1, l2, l3, l4, l5, l6, l7], [.ref k3, .int i2, .int i1, .ref k0], h) Q = (okp h k3 10 = true ∧ Tr sc d 237 (128, [l0, l1, l2, l3, l4, l5, l6, l7], [.int (hI h k3 43), .int i2, .int i1, .ref k0], h) Q) := t_gd k_237_125 rfl
theorem k_237_128 : lk 237 128 = some (.isub, 129, 0, 0, .null) := by decide +kernel
theorem x_237_128 : Tr sc d 237 (128, [l0, l1, l2, l3, l4, l5, l6, l7], [.int i3, .int i2, .int i1, .ref k0], h) Q = Tr sc d 237 (129, [l0, l1, l2, l3, l4, l5, l6, l7], [.int (i2 - i3), .int i1, .ref k0], h) Q := t_go k_237_128 rfl
theorem k_237_129 : lk 237 129 = some (.iconst 1, 130, 0, 0, .int 1) := by decide +kernel
theorem x_237_129 : Tr sc d 237 (129, [l0, l1, l2, l3, l4, l5, l6, l7], [.int i2, .int i1, .ref k0], h) Q = Tr sc d 237 (130, [l0, l1, l2, l3, l4, l5, l6, l7], [.int 1, .int i2, .int i1, .ref k0], h) Q := t_go k_237_129 rfl
theorem k_237_130 : lk 237 130 = some (.iadd, 131, 0, 0, .null) := by decide +kernel
theorem x_237_130 : Tr sc d 237 (130, [l0, l1, l2, l3, l4, l5, l6, l7], [.int i3, .int i2, .int i1, .ref k0], h) Q = Tr sc d 237 (131, [l0, l1, l2, l3, l4, l5, l6, l7], [.int (i2 + i3), .int i1, .ref k0], h) Q := t_go k_237_130 rfl
theorem k_237_131 : lk 237 131 = some (.imul, 132, 0, 0, .null) := by decide +kernel
theorem x_237_131 : Tr sc d 237 (131, [l0, l1, l2, l3, l4, l5, l6, l7], [.int i2, .int i1, .ref k0], h) Q = Tr sc d 237 (132, [l0, l1, l2, l3, l4, l5, l6, l7], [.int (i1 * i2), .ref k0], h) Q := t_go k_237_131 rfl
theorem k_237_132 : lk 237 132 = some (.aload_n 0, 133, 0, 0, .null) := by decide +kernel
theorem x_237_132 : Tr sc d 237 (132, [some (.ref xk), l1, l2, l3, l4, l5, l6, l7], [.int i1, .ref k0], h) Q = Tr sc d 237 (133, [some (.ref xk), l1, l2, l3, l4, l5, l6, l7], [.ref xk, .int i1, .ref k0], h) Q := t_aload_n k_237_132 rfl
theorem k_237_133 : lk 237 133 = some (.getfield 78, 136, 10, 39, .null) := by decide +kernel
theorem x_237_133 : Tr sc d 237 (133, [l0, l1, l2, l3, l4, l5, l6, l7], [.ref k2, .int i1, .ref k0], h) Q = (okp h k2 10 = true ∧ ∃ q, hR h k2 39 = some q ∧ Tr sc d 237 (136, [l0, l1, l2, l3, l4, l5, l6, l7], [.ref q, .int i1, .ref k0], h) Q) := t_getr k_237_133
theorem k_237_136 : lk 237 136 = some (.iload 6, 138, 6, 0, .null) := by decide +kernel
theorem x_237_136 : Tr sc d 237 (136, [l0, l1, l2, l3, l4, l5, some (.int x), l7], [.ref k2, .int i1, .ref k0], h) Q = Tr sc d 237 (138, [l0, l1, l2, l3, l4, l5, some (.int x), l7], [.int x, .ref k2, .int i1, .ref k0], h) Q := t_iload k_237_136 rfl
theorem k_237_138 : lk 237 138 = some (.iaload, 139, 0, 0, .null) := by decide +kernel
theorem x_237_138 : Tr sc d 237 (138, [l0, l1, l2, l3, l4, l5, l6, l7], [.int i3, .ref k2, .int i1, .ref k0], h) Q = (iOk sc h k2 i3 ∧ Tr sc d 237 (139, [l0, l1, l2, l3, l4, l5, l6, l7], [.int (iRd sc h k2 i3), .int i1, .ref k0], h) Q) := t_iald k_237_138
theorem k_237_139 : lk 237 139 = some (.iadd, 140, 0, 0, .null) := by decide +kernel
theorem x_237_139 : Tr sc d 237 (139, [l0, l1, l2, l3, l4, l5, l6, l7], [.int i2, .int i1, .ref k0], h) Q = Tr sc d 237 (140, [l0, l1, l2, l3, l4, l5, l6, l7], [.int (i1 + i2), .ref k0], h) Q := t_go k_237_139 rfl
theorem k_237_140 : lk 237 140 = some (.aload_n 0, 141, 0, 0, .null) := by decide +kernel
theorem x_237_140 : Tr sc d 237 (140, [some (.ref xk), l1, l2, l3, l4, l5, l6, l7], [.int i1, .ref k0], h) Q = Tr sc d 237 (141, [some (.ref xk), l1, l2, l3, l4, l5, l6, l7], [.ref xk, .int i1, .ref k0], h) Q := t_aload_n k_237_140 rfl
theorem k_237_141 : lk 237 141 = some (.getfield 292, 144, 10, 41, .int 0) := by decide +kernel
theorem x_237_141 : Tr sc d 237 (141, [l0, l1, l2, l3, l4, l5, l6, l7], [.ref k2, .int i1, .ref k0], h) Q = (okp h k2 10 = true ∧ Tr sc d 237 (144, [l0, l1, l2, l3, l4, l5, l6, l7], [.int (hI h k2 41), .int i1, .ref k0], h) Q) := t_gd k_237_141 rfl
theorem k_237_144 : lk 237 144 = some (.isub, 145, 0, 0, .null) := by decide +kernel
theorem x_237_144 : Tr sc d 237 (144, [l0, l1, l2, l3, l4, l5, l6, l7], [.int i2, .int i1, .ref k0], h) Q = Tr sc d 237 (145, [l0, l1, l2, l3, l4, l5, l6, l7], [.int (i1 - i2), .ref k0], h) Q := t_go k_237_144 rfl
theorem k_237_145 : lk 237 145 = some (.iconst 1, 146, 0, 0, .int 1) := by decide +kernel
theorem x_237_145 : Tr sc d 237 (145, [l0, l1, l2, l3, l4, l5, l6, l7], [.int i1, .ref k0], h) Q = Tr sc d 237 (146, [l0, l1, l2, l3, l4, l5, l6, l7], [.int 1, .int i1, .ref k0], h) Q := t_go k_237_145 rfl
theorem k_237_146 : lk 237 146 = some (.iadd, 147, 0, 0, .null) := by decide +kernel
theorem x_237_146 : Tr sc d 237 (146, [l0, l1, l2, l3, l4, l5, l6, l7], [.int i2, .int i1, .ref k0], h) Q = Tr sc d 237 (147, [l0, l1, l2, l3, l4, l5, l6, l7], [.int (i1 + i2), .ref k0], h) Q := t_go k_237_146 rfl
theorem k_237_147 : lk 237 147 = some (.iconst 1, 148, 0, 0, .int 1) := by decide +kernel
theorem x_237_147 : Tr sc d 237 (147, [l0, l1, l2, l3, l4, l5, l6, l7], [.int i1, .ref k0], h) Q = Tr sc d 237 (148, [l0, l1, l2, l3, l4, l5, l6, l7], [.int 1, .int i1, .ref k0], h) Q := t_go k_237_147 rfl
theorem k_237_148 : lk 237 148 = some (.iastore, 149, 0, 0, .null) := by decide +kernel
theorem x_237_148 : Tr sc d 237 (148, [l0, l1, l2, l3, l4, l5, l6, l7], [.int i2, .int i1, .ref k0], h) Q = ((okp h k0 11 && inb i1 (LN k0)) = true ∧ Tr sc d 237 (149, [l0, l1, l2, l3, l4, l5, l6, l7], [], (sI h k0 i1.toNatClampNeg i2)) Q) := t_gd k_237_148 rfl
theorem k_237_149 : lk 237 149 = some (.iinc 6 1, 152, 6, 0, .int 1) := by decide +kernel
theorem x_237_149 : Tr sc d 237 (149, [l0, l1, l2, l3, l4, l5, some (.int x), l7], [], h) Q = Tr sc d 237 (152, [l0, l1, l2, l3, l4, cl2 l5, some (.int (x + 1)), l7], [], h) Q := t_inc k_237_149 rfl (Nat.le_of_ble_eq_true rfl)
theorem k_237_152 : lk 237 152 = some (.goto (-50), 155, 102, 0, .null) := by decide +kernel
theorem x_237_152 : Tr sc d 237 (152, [l0, l1, l2, l3, l4, l5, l6, l7], [], h) Q = Tr sc d 237 (102, [l0, l1, l2, l3, l4, l5, l6, l7], [], h) Q := t_go k_237_152 rfl
theorem k_237_155 : lk 237 155 = some (.iconst 0, 156, 0, 0, .int 0) := by decide +kernel
theorem x_237_155 : Tr sc d 237 (155, [l0, l1, l2, l3, l4, l5, l6, l7], [], h) Q = Tr sc d 237 (156, [l0, l1, l2, l3, l4, l5, l6, l7], [.int 0], h) Q := t_go k_237_155 rfl
theorem k_237_156 : lk 237 156 = some (.istore 6, 158, 6, 0, .null) := by decide +kernel
theorem x_237_156 : Tr sc d 237 (156, [l0, l1, l2, l3, l4, l5, l6, l7], [.int i0], h) Q = Tr sc d 237 (158, [l0, l1, l2, l3, l4, cl2 l5, some (.int i0), l7], [], h) Q := t_istore k_237_156 (Nat.le_of_ble_eq_true rfl)
theorem k_237_158 : lk 237 158 = some (.iconst 0, 159, 0, 0, .int 0) := by decide +kernel
theorem x_237_158 : Tr sc d 237 (158, [l0, l1, l2, l3, l4, l5, l6, l7], [], h) Q = Tr sc d 237 (159, [l0, l1, l2, l3, l4, l5, l6, l7], [.int 0], h) Q := t_go k_237_158 rfl
theorem k_237_159 : lk 237 159 = some (.istore 7, 161, 7, 0, .null) := by decide +kernel
theorem x_237_159 : Tr sc d 237 (159, [l0, l1, l2, l3, l4, l5, l6, l7], [.int i0], h) Q = Tr sc d 237 (161, [l0, l1, l2, l3, l4, l5, cl2 l6, some (.int i0)], [], h) Q := t_istore k_237_159 (Nat.le_of_ble_eq_true rfl)
theorem k_237_161 : lk 237 161 = some (.iload 7, 163, 7, 0, .null) := by decide +kernel
theorem x_237_161 : Tr sc d 237 (161, [l0, l1, l2, l3, l4, l5, l6, some (.int x)], [], h) Q = Tr sc d 237 (163, [l0, l1, l2, l3, l4, l5, l6, some (.int x)], [.int x], h) Q := t_iload k_237_161 rfl
theorem k_237_163 : lk 237 163 = some (.iload 4, 165, 4, 0, .null) := by decide +kernel
theorem x_237_163 : Tr sc d 237 (163, [l0, l1, l2, l3, some (.int x), l5, l6, l7], [.int i0], h) Q = Tr sc d 237 (165, [l0, l1, l2, l3, some (.int x), l5, l6, l7], [.int x, .int i0], h) Q := t_iload k_237_163 rfl
theorem k_237_165 : lk 237 165 = some (.iload 5, 167, 5, 0, .null) := by decide +kernel
theorem x_237_165 : Tr sc d 237 (165, [l0, l1, l2, l3, l4, some (.int x), l6, l7], [.int i1, .int i0], h) Q = Tr sc d 237 (167, [l0, l1, l2, l3, l4, some (.int x), l6, l7], [.int x, .int i1, .int i0], h) Q := t_iload k_237_165 rfl
theorem k_237_167 : lk 237 167 = some (.imul, 168, 0, 0, .null) := by decide +kernel
theorem x_237_167 : Tr sc d 237 (167, [l0, l1, l2, l3, l4, l5, l6, l7], [.int i2, .int i1, .int i0], h) Q = Tr sc d 237 (168, [l0, l1, l2, l3, l4, l5, l6, l7], [.int (i1 * i2), .int i0], h) Q := t_go k_237_167 rfl
theorem k_237_168 : lk 237 168 = some (.if_icmp .ge 32, 171, 200, 0, .null) := by decide +kernel
theorem x_237_168 : Tr sc d 237 (168, [l0, l1, l2, l3, l4, l5, l6, l7], [.int i1, .int i0], h) Q = if i1 ≤ i0 then Tr sc d 237 (200, [l0, l1, l2, l3, l4, l5, l6, l7], [], h) Q else Tr sc d 237 (171, [l0, l1, l2, l3, l4, l5, l6, l7], [], h) Q := t_if k_237_168 rfl
theorem k_237_171 : lk 237 171 = some (.aload_n 0, 172, 0, 0, .null) := by decide +kernel
theorem x_237_171 : Tr sc d 237 (171, [some (.ref xk), l1, l2, l3, l4, l5, l6, l7], [], h) Q = Tr sc d 237 (172, [some (.ref xk), l1, l2, l3, l4, l5, l6, l7], [.ref xk], h) Q := t_aload_n k_237_171 rfl
theorem k_237_172 : lk 237 172 = some (.getfield 122, 175, 10, 58, .null) := by decide +kernel
theorem x_237_172 : Tr sc d 237 (172, [l0, l1, l2, l3, l4, l5, l6, l7], [.ref k0], h) Q = (okp h k0 10 = true ∧ ∃ q, hR h k0 58 = some q ∧ Tr sc d 237 (175, [l0, l1, l2, l3, l4, l5, l6, l7], [.ref q], h) Q) := t_getr k_237_172
theorem k_237_175 : lk 237 175 = some (.iload 7, 177, 7, 0, .null) := by decide +kernel
theorem x_237_175 : Tr sc d 237 (175, [l0, l1, l2, l3, l4, l5, l6, some (.int x)], [.ref k0], h) Q = Tr sc d 237 (177, [l0, l1, l2, l3, l4, l5, l6, some (.int x)], [.int x, .ref k0], h) Q := t_iload k_237_175 rfl
theorem k_237_177 : lk 237 177 = some (.iaload, 178, 0, 0, .null) := by decide +kernel
theorem x_237_177 : Tr sc d 237 (177, [l0, l1, l2, l3, l4, l5, l6, l7], [.int i1, .ref k0], h) Q = (iOk sc h k0 i1 ∧ Tr sc d 237 (178, [l0, l1, l2, l3, l4, l5, l6, l7], [.int (iRd sc h k0 i1)], h) Q) := t_iald k_237_177
theorem k_237_178 : lk 237 178 = some (.ifCond .ne 16, 181, 194, 0, .null) := by decide +kernel
theorem x_237_178 : Tr sc d 237 (178, [l0, l1, l2, l3, l4, l5, l6, l7], [.int i0], h) Q = if i0 = 0 then Tr sc d 237 (181, [l0, l1, l2, l3, l4, l5, l6, l7], [], h) Q else Tr sc d 237 (194, [l0, l1, l2, l3, l4, l5, l6, l7], [], h) Q := t_if k_237_178 rfl
theorem k_237_181 : lk 237 181 = some (.iinc 6 1, 184, 6, 0, .int 1) := by decide +kernel
theorem x_237_181 : Tr sc d 237 (181, [l0, l1, l2, l3, l4, l5, some (.int x), l7], [], h) Q = Tr sc d 237 (184, [l0, l1, l2, l3, l4, cl2 l5, some (.int (x + 1)), l7], [], h) Q := t_inc k_237_181 rfl (Nat.le_of_ble_eq_true rfl)
theorem k_237_184 : lk 237 184 = some (.aload_n 0, 185, 0, 0, .null) := by decide +kernel
theorem x_237_184 : Tr sc d 237 (184, [some (.ref xk), l1, l2, l3, l4, l5, l6, l7], [], h) Q = Tr sc d 237 (185, [some (.ref xk), l1, l2, l3, l4, l5, l6, l7], [.ref xk], h) Q := t_aload_n k_237_184 rfl
theorem k_237_185 : lk 237 185 = some (.iload 7, 187, 7, 0, .null) := by decide +kernel
theorem x_237_185 : Tr sc d 237 (185, [l0, l1, l2, l3, l4, l5, l6, some (.int x)], [.ref k0], h) Q = Tr sc d 237 (187, [l0, l1, l2, l3, l4, l5, l6, some (.int x)], [.int x, .ref k0], h) Q := t_iload k_237_185 rfl
theorem k_237_187 : lk 237 187 = some (.iload 4, 189, 4, 0, .null) := by decide +kernel
theorem x_237_187 : Tr sc d 237 (187, [l0, l1, l2, l3, some (.int x), l5, l6, l7], [.int i1, .ref k0], h) Q = Tr sc d 237 (189, [l0, l1, l2, l3, some (.int x), l5, l6, l7], [.int x, .int i1, .ref k0], h) Q := t_iload k_237_187 rfl
theorem k_237_189 : lk 237 189 = some (.iload 5, 191, 5, 0, .null) := by decide +kernel
theorem x_237_189 : Tr sc d 237 (189, [l0, l1, l2, l3, l4, some (.int x), l6, l7], [.int i2, .int i1, .ref k0], h) Q = Tr sc d 237 (191, [l0, l1, l2, l3, l4, some (.int x), l6, l7], [.int x, .int i2, .int i1, .ref k0], h) Q := t_iload k_237_189 rfl
theorem k_237_191 : lk 237 191 = some (.invokevirtual 364, 194, 238, 3, .null) := by decide +kernel
theorem x_237_191 : Tr sc (d + 1) 237 (191, [l0, l1, l2, l3, l4, l5, l6, l7], [.int i3, .int i2, .int i1, .ref k0], h) Q = (okp h k0 10 = true ∧ Tr sc d 238 (ent0 238 [.ref k0, .int i1, .int i2, .int i3] h) (fun z => Tr sc (d + 1) 237 (194, [l0, l1, l2, l3, l4, l5, l6, l7], z.1.toList ++ [], z.2) Q)) := t_cv (as := [.int i1, .int i2, .int i3]) (r := []) k_237_191 rfl rfl (Nat.le_of_ble_eq_true rfl) (Nat.le_of_ble_eq_true rfl) (Nat.le_of_ble_eq_true rfl)
theorem k_237_194 : lk 237 194 = some (.iinc 7 1, 197, 7, 0, .int 1) := by decide +kernel
theorem x_237_194 : Tr sc d 237 (194, [l0, l1, l2, l3, l4, l5, l6, some (.int x)], [], h) Q = Tr sc d 237 (197, [l0, l1, l2, l3, l4, l5, cl2 l6, some (.int (x + 1))], [], h) Q := t_inc k_237_194 rfl (Nat.le_of_ble_eq_true rfl)
theorem k_237_197 : lk 237 197 = some (.goto (-36), 200, 161, 0, .null) := by decide +kernel
theorem x_237_197 : Tr sc d 237 (197, [l0, l1, l2, l3, l4, l5, l6, l7], [], h) Q = Tr sc d 237 (161, [l0, l1, l2, l3, l4, l5, l6, l7], [], h) Q := t_go k_237_197 rfl
theorem k_237_200 : lk 237 200 = some (.iload 6, 202, 6, 0, .null) := by decide +kernel
theorem x_237_200 : Tr sc d 237 (200, [l0, l1, l2, l3, l4, l5, some (.int x), l7], [], h) Q = Tr sc d 237 (202, [l0, l1, l2, l3, l4, l5, some (.int x), l7], [.int x], h) Q := t_iload k_237_200 rfl
theorem k_237_202 : lk 237 202 = some (.iconst 1, 203, 0, 0, .int 1) := by decide +kernel
theorem x_237_202 : Tr sc d 237 (202, [l0, l1, l2, l3, l4, l5, l6, l7], [.int i0], h) Q = Tr sc d 237 (203, [l0, l1, l2, l3, l4, l5, l6, l7], [.int 1, .int i0], h) Q := t_go k_237_202 rfl
theorem k_237_203 : lk 237 203 = some (.isub, 204, 0, 0, .null) := by decide +kernel
theorem x_237_203 : Tr sc d 237 (203, [l0, l1, l2, l3, l4, l5, l6, l7], [.int i1, .int i0], h) Q = Tr sc d 237 (204, [l0, l1, l2, l3, l4, l5, l6, l7], [.int (i0 - i1)], h) Q := t_go k_237_203 rfl
theorem k_237_204 : lk 237 204 = some (.ireturn, 205, 0, 0, .null) := by decide +kernel
theorem x_237_204 : Tr sc d 237 (204, [l0, l1, l2, l3, l4, l5, l6, l7], [.int i0], h) Q = Q (some (.int i0), h) := t_ret k_237_204 (by rw [r_237]; rfl)
theorem e_237 : Tr sc d 237 (ent0 237 [.ref k0, .int i1, .int i2] h) Q = Tr sc d 237 (0, [some (.ref k0), some (.int i1), some (.int i2), none, none, none, none, none], [], h) Q := by
  have e : mL 237 = 8 := by decide +kernel
  unfold ent0
  rw [e]
  rfl
theorem r_238 : mR 238 = none := by decide +kernel
theorem k_238_0 : lk 238 0 = some (.iconst 1, 1, 0, 0, .int 1) := by decide +kernel
theorem x_238_0 : Tr sc d 238 (0, [l0, l1, l2, l3, l4, l5, l6, l7, l8, l9], [], h) Q = Tr sc d 238 (1, [l0, l1, l2, l3, l4, l5, l6, l7, l8, l9], [.int 1], h) Q := t_go k_238_0 rfl
theorem k_238_1 : lk 238 1 = some (.istore 4, 3, 4, 0, .null) := by decide +kernel
theorem x_238_1 : Tr sc d 238 (1, [l0, l1, l2, l3, l4, l5, l6, l7, l8, l9], [.int i0], h) Q = Tr sc d 238 (3, [l0, l1, l2, cl2 l3, some (.int i0), l5, l6, l7, l8, l9], [], h) Q := t_istore k_238_1 (Nat.le_of_ble_eq_true rfl)
theorem k_238_3 : lk 238 3 = some (.aload_n 0, 4, 0, 0, .null) := by decide +kernel
theorem x_238_3 : Tr sc d 238 (3, [some (.ref xk), l1, l2, l3, l4, l5, l6, l7, l8, l9], [], h) Q = Tr sc d 238 (4, [some (.ref xk), l1, l2, l3, l4, l5, l6, l7, l8, l9], [.ref xk], h) Q := t_aload_n k_238_3 rfl
theorem k_238_4 : lk 238 4 = some (.getfield 125, 7, 10, 59, .null) := by decide +kernel
theorem x_238_4 : Tr sc d 238 (4, [l0, l1, l2, l3, l4, l5, l6, l7, l8, l9], [.ref k0], h) Q = (okp h k0 10 = true ∧ ∃ q, hR h k0 59 = some q ∧ Tr sc d 238 (7, [l0, l1, l2, l3, l4, l5, l6, l7, l8, l9], [.ref q], h) Q) := t_getr k_238_4
theorem k_238_7 : lk 238 7 = some (.iconst 0, 8, 0, 0, .int 0) := by decide +kernel
theorem x_238_7 : Tr sc d 238 (7, [l0, l1, l2, l3, l4, l5, l6, l7, l8, l9], [.ref k0], h) Q = Tr sc d 238 (8, [l0, l1, l2, l3, l4, l5, l6, l7, l8, l9], [.int 0, .ref k0], h) Q := t_go k_238_7 rfl
theorem k_238_8 : lk 238 8 = some (.iload_n 1, 9, 1, 0, .null) := by decide +kernel
theorem x_238_8 : Tr sc d 238 (8, [l0, some (.int x), l2, l3, l4, l5, l6, l7, l8, l9], [.int i1, .ref k0], h) Q = Tr sc d 238 (9, [l0, some (.int x), l2, l3, l4, l5, l6, l7, l8, l9], [.int x, .int i1, .ref k0], h) Q := t_iload_n k_238_8 rfl
theorem k_238_9 : lk 238 9 = some (.iastore, 10, 0, 0, .null) := by decide +kernel
theorem x_238_9 : Tr sc d 238 (9, [l0, l1, l2, l3, l4, l5, l6, l7, l8, l9], [.int i2, .int i1, .ref k0], h) Q = ((okp h k0 11 && inb i1 (LN k0)) = true ∧ Tr sc d 238 (10, [l0, l1, l2, l3, l4, l5, l6, l7, l8, l9], [], (sI h k0 i1.toNatClampNeg i2)) Q) := t_gd k_238_9 rfl
theorem k_238_10 : lk 238 10 = some (.aload_n 0, 11, 0, 0, .null) := by decide +kernel
theorem x_238_10 : Tr sc d 238 (10, [some (.ref xk), l1, l2, l3, l4, l5, l6, l7, l8, l9], [], h) Q = Tr sc d 238 (11, [some (.ref xk), l1, l2, l3, l4, l5, l6, l7, l8, l9], [.ref xk], h) Q := t_aload_n k_238_10 rfl
theorem k_238_11 : lk 238 11 = some (.getfield 122, 14, 10, 58, .null) := by decide +kernel
theorem x_238_11 : Tr sc d 238 (11, [l0, l1, l2, l3, l4, l5, l6, l7, l8, l9], [.ref k0], h) Q = (okp h k0 10 = true ∧ ∃ q, hR h k0 58 = some q ∧ Tr sc d 238 (14, [l0, l1, l2, l3, l4, l5, l6, l7, l8, l9], [.ref q], h) Q) := t_getr k_238_11
theorem k_238_14 : lk 238 14 = some (.iload_n 1, 15, 1, 0, .null) := by decide +kernel
theorem x_238_14 : Tr sc d 238 (14, [l0, some (.int x), l2, l3, l4, l5, l6, l7, l8, l9], [.ref k0], h) Q = Tr sc d 238 (15, [l0, some (.int x), l2, l3, l4, l5, l6, l7, l8, l9], [.int x, .ref k0], h) Q := t_iload_n k_238_14 rfl
theorem k_238_15 : lk 238 15 = some (.iconst 1, 16, 0, 0, .int 1) := by decide +kernel
theorem x_238_15 : Tr sc d 238 (15, [l0, l1, l2, l3, l4, l5, l6, l7, l8, l9], [.int i1, .ref k0], h) Q = Tr sc d 238 (16, [l0, l1, l2, l3, l4, l5, l6, l7, l8, l9], [.int 1, .int i1, .ref k0], h) Q := t_go k_238_15 rfl
theorem k_238_16 : lk 238 16 = some (.iastore, 17, 0, 0, .null) := by decide +kernel
theorem x_238_16 : Tr sc d 238 (16, [l0, l1, l2, l3, l4, l5, l6, l7, l8, l9], [.int i2, .int i1, .ref k0], h) Q = ((okp h k0 11 && inb i1 (LN k0)) = true ∧ Tr sc d 238 (17, [l0, l1, l2, l3, l4, l5, l6, l7, l8, l9], [], (sI h k0 i1.toNatClampNeg i2)) Q) := t_gd k_238_16 rfl
theorem k_238_17 : lk 238 17 = some (.iconst 0, 18, 0, 0, .int 0) := by decide +kernel
theorem x_238_17 : Tr sc d 238 (17, [l0, l1, l2, l3, l4, l5, l6, l7, l8, l9], [], h) Q = Tr sc d 238 (18, [l0, l1, l2, l3, l4, l5, l6, l7, l8, l9], [.int 0], h) Q := t_go k_238_17 rfl
theorem k_238_18 : lk 238 18 = some (.istore 5, 20, 5, 0, .null) := by decide +kernel
theorem x_238_18 : Tr sc d 238 (18, [l0, l1, l2, l3, l4, l5, l6, l7, l8, l9], [.int i0], h) Q = Tr sc d 238 (20, [l0, l1, l2, l3, cl2 l4, some (.int i0), l6, l7, l8, l9], [], h) Q := t_istore k_238_18 (Nat.le_of_ble_eq_true rfl)
theorem k_238_20 : lk 238 20 = some (.iload 5, 22, 5, 0, .null) := by decide +kernel
theorem x_238_20 : Tr sc d 238 (20, [l0, l1, l2, l3, l4, some (.int x), l6, l7, l8, l9], [], h) Q = Tr sc d 238 (22, [l0, l1, l2, l3, l4, some (.int x), l6, l7, l8, l9], [.int x], h) Q := t_iload k_238_20 rfl
theorem k_238_22 : lk 238 22 = some (.iload 4, 24, 4, 0, .null) := by decide +kernel
theorem x_238_22 : Tr sc d 238 (22, [l0, l1, l2, l3, some (.int x), l5, l6, l7, l8, l9], [.int i0], h) Q = Tr sc d 238 (24, [l0, l1, l2, l3, some (.int x), l5, l6, l7, l8, l9], [.int x, .int i0], h) Q := t_iload k_238_22 rfl
theorem k_238_24 : lk 238 24 = some (.if_icmp .ge 193, 27, 217, 0, .null) := by decide +kernel
theorem x_238_24 : Tr sc d 238 (24, [l0, l1, l2, l3, l4, l5, l6, l7, l8, l9], [.int i1, .int i0], h) Q = if i1 ≤ i0 then Tr sc d 238 (217, [l0, l1, l2, l3, l4, l5, l6, l7, l8, l9], [], h) Q else Tr sc d 238 (27, [l0, l1, l2, l3, l4, l5, l6, l7, l8, l9], [], h) Q := t_if k_238_24 rfl
theorem k_238_27 : lk 238 27 = some (.aload_n 0, 28, 0, 0, .null) := by decide +kernel
theorem x_238_27 : Tr sc d 238 (27, [some (.ref xk), l1, l2, l3, l4, l5, l6, l7, l8, l9], [], h) Q = Tr sc d 238 (28, [some (.ref xk), l1, l2, l3, l4, l5, l6, l7, l8, l9], [.ref xk], h) Q := t_aload_n k_238_27 rfl
theorem k_238_28 : lk 238 28 = some (.getfield 125, 31, 10, 59, .null) := by decide +kernel
theorem x_238_28 : Tr sc d 238 (28, [l0, l1, l2, l3, l4, l5, l6, l7, l8, l9], [.ref k0], h) Q = (okp h k0 10 = true ∧ ∃ q, hR h k0 59 = some q ∧ Tr sc d 238 (31, [l0, l1, l2, l3, l4, l5, l6, l7, l8, l9], [.ref q], h) Q) := t_getr k_238_28
theorem k_238_31 : lk 238 31 = some (.iload 5, 33, 5, 0, .null) := by decide +kernel
theorem x_238_31 : Tr sc d 238 (31, [l0, l1, l2, l3, l4, some (.int x), l6, l7, l8, l9], [.ref k0], h) Q = Tr sc d 238 (33, [l0, l1, l2, l3, l4, some (.int x), l6, l7, l8, l9], [.int x, .ref k0], h) Q := t_iload k_238_31 rfl
theorem k_238_33 : lk 238 33 = some (.iaload, 34, 0, 0, .null) := by decide +kernel
theorem x_238_33 : Tr sc d 238 (33, [l0, l1, l2, l3, l4, l5, l6, l7, l8, l9], [.int i1, .ref k0], h) Q = (iOk sc h k0 i1 ∧ Tr sc d 238 (34, [l0, l1, l2, l3, l4, l5, l6, l7, l8, l9], [.int (iRd sc h k0 i1)], h) Q) := t_iald k_238_33
theorem k_238_34 : lk 238 34 = some (.istore 6, 36, 6, 0, .null) := by decide +kernel
theorem x_238_34 : Tr sc d 238 (34, [l0, l1, l2, l3, l4, l5, l6, l7, l8, l9], [.int i0], h) Q = Tr sc d 238 (36, [l0, l1, l2, l3, l4, cl2 l5, some (.int i0), l7, l8, l9], [], h) Q := t_istore k_238_34 (Nat.le_of_ble_eq_true rfl)
theorem k_238_36 : lk 238 36 = some (.iconst 0, 37, 0, 0, .int 0) := by decide +kernel
theorem x_238_36 : Tr sc d 238 (36, [l0, l1, l2, l3, l4, l5, l6, l7, l8, l9], [], h) Q = Tr sc d 238 (37, [l0, l1, l2, l3, l4, l5, l6, l7, l8, l9], [.int 0], h) Q := t_go k_238_36 rfl
theorem k_238_37 : lk 238 37 = some (.istore 7, 39, 7, 0, .null) := by decide +kernel
theorem x_238_37 : Tr sc d 238 (37, [l0, l1, l2, l3, l4, l5, l6, l7, l8, l9], [.int i0], h) Q = Tr sc d 238 (39, [l0, l1, l2, l3, l4, l5, cl2 l6, some (.int i0), l8, l9], [], h) Q := t_istore k_238_37 (Nat.le_of_ble_eq_true rfl)
theorem k_238_39 : lk 238 39 = some (.iload 7, 41, 7, 0, .null) := by decide +kernel
theorem x_238_39 : Tr sc d 238 (39, [l0, l1, l2, l3, l4, l5, l6, some (.int x), l8, l9], [], h) Q = Tr sc d 238 (41, [l0, l1, l2, l3, l4, l5, l6, some (.int x), l8, l9], [.int x], h) Q := t_iload k_238_39 rfl
theorem k_238_41 : lk 238 41 = some (.iconst 4, 42, 0, 0, .int 4) := by decide +kernel
theorem x_238_41 : Tr sc d 238 (41, [l0, l1, l2, l3, l4, l5, l6, l7, l8, l9], [.int i0], h) Q = Tr sc d 238 (42, [l0, l1, l2, l3, l4, l5, l6, l7, l8, l9], [.int 4, .int i0], h) Q := t_go k_238_41 rfl
theorem k_238_42 : lk 238 42 = some (.if_icmp .ge 169, 45, 211, 0, .null) := by decide +kernel
theorem x_238_42 : Tr sc d 238 (42, [l0, l1, l2, l3, l4, l5, l6, l7, l8, l9], [.int i1, .int i0], h) Q = if i1 ≤ i0 then Tr sc d 238 (211, [l0, l1, l2, l3, l4, l5, l6, l7, l8, l9], [], h) Q else Tr sc d 238 (45, [l0, l1, l2, l3, l4, l5, l6, l7, l8, l9], [], h) Q := t_if k_238_42 rfl
theorem k_238_45 : lk 238 45 = some (.iload 7, 47, 7, 0, .null) := by decide +kernel
theorem x_238_45 : Tr sc d 238 (45, [l0, l1, l2, l3, l4, l5, l6, some (.int x), l8, l9], [], h) Q = Tr sc d 238 (47, [l0, l1, l2, l3, l4, l5, l6, some (.int x), l8, l9], [.int x], h) Q := t_iload k_238_45 rfl
theorem k_238_47 : lk 238 47 = some (.ifCond .ne 18, 50, 65, 0, .null) := by decide +kernel
theorem x_238_47 : Tr sc d 238 (47, [l0, l1, l2, l3, l4, l5, l6, l7, l8, l9], [.int i0], h) Q = if i0 = 0 then Tr sc d 238 (50, [l0, l1, l2, l3, l4, l5, l6, l7, l8, l9], [], h) Q else Tr sc d 238 (65, [l0, l1, l2, l3, l4, l5, l6, l7, l8, l9], [], h) Q := t_if k_238_47 rfl
theorem k_238_50 : lk 238 50 = some (.iload 6, 52, 6, 0, .null) := by decide +kernel
theorem x_238_50 : Tr sc d 238 (50, [l0, l1, l2, l3, l4, l5, some (.int x), l7, l8, l9], [], h) Q = Tr sc d 238 (52, [l0, l1, l2, l3, l4, l5, some (.int x), l7, l8, l9], [.int x], h) Q := t_iload k_238_50 rfl
theorem k_238_52 : lk 238 52 = some (.iload_n 2, 53, 2, 0, .null) := by decide +kernel
theorem x_238_52 : Tr sc d 238 (52, [l0, l1, some (.int x), l3, l4, l5, l6, l7, l8, l9], [.int i0], h) Q = Tr sc d 238 (53, [l0, l1, some (.int x), l3, l4, l5, l6, l7, l8, l9], [.int x, .int i0], h) Q := t_iload_n k_238_52 rfl
theorem k_238_53 : lk 238 53 = some (.irem, 54, 0, 0, .null) := by decide +kernel
theorem x_238_53 : Tr sc d 238 (53, [l0, l1, l2, l3, l4, l5, l6, l7, l8, l9], [.int i1, .int i0], h) Q = (¬ i1 = 0 ∧ Tr sc d 238 (54, [l0, l1, l2, l3, l4, l5, l6, l7, l8, l9], [.int (i0 - i0 / i1 * i1)], h) Q) := t_ng k_238_53 rfl
theorem k_238_54 : lk 238 54 = some (.ifCond .le 7, 57, 61, 0, .null) := by decide +kernel
theorem x_238_54 : Tr sc d 238 (54, [l0, l1, l2, l3, l4, l5, l6, l7, l8, l9], [.int i0], h) Q = if i0 ≤ 0 then Tr sc d 238 (61, [l0, l1, l2, l3, l4, l5, l6, l7, l8, l9], [], h) Q else Tr sc d 238 (57, [l0, l1, l2, l3, l4, l5, l6, l7, l8, l9], [], h) Q := t_if k_238_54 rfl
theorem k_238_57 : lk 238 57 = some (.iconst 1, 58, 0, 0, .int 1) := by decide +kernel
theorem x_238_57 : Tr sc d 238 (57, [l0, l1, l2, l3, l4, l5, l6, l7, l8, l9], [], h) Q = Tr sc d 238 (58, [l0, l1, l2, l3, l4, l5, l6, l7, l8, l9], [.int 1], h) Q := t_go k_238_57 rfl
theorem k_238_58 : lk 238 58 = some (.goto 66, 61, 124, 0, .null) := by decide +kernel
theorem x_238_58 : Tr sc d 238 (58, [l0, l1, l2, l3, l4, l5, l6, l7, l8, l9], [.int i0], h) Q = Tr sc d 238 (124, [l0, l1, l2, l3, l4, l5, l6, l7, l8, l9], [.int i0], h) Q := t_go k_238_58 rfl
theorem k_238_61 : lk 238 61 = some (.iconst 0, 62, 0, 0, .int 0) := by decide +kernel
theorem x_238_61 : Tr sc d 238 (61, [l0, l1, l2, l3, l4, l5, l6, l7, l8, l9], [], h) Q = Tr sc d 238 (62, [l0, l1, l2, l3, l4, l5, l6, l7, l8, l9], [.int 0], h) Q := t_go k_238_61 rfl
theorem k_238_62 : lk 238 62 = some (.goto 62, 65, 124, 0, .null) := by decide +kernel
theorem x_238_62 : Tr sc d 238 (62, [l0, l1, l2, l3, l4, l5, l6, l7, l8, l9], [.int i0], h) Q = Tr sc d 238 (124, [l0, l1, l2, l3, l4, l5, l6, l7, l8, l9], [.int i0], h) Q := t_go k_238_62 rfl
theorem k_238_65 : lk 238 65 = some (.iload 7, 67, 7, 0, .null) := by decide +kernel
theorem x_238_65 : Tr sc d 238 (65, [l0, l1, l2, l3, l4, l5, l6, some (.int x), l8, l9], [], h) Q = Tr sc d 238 (67, [l0, l1, l2, l3, l4, l5, l6, some (.int x), l8, l9], [.int x], h) Q := t_iload k_238_65 rfl
theorem k_238_67 : lk 238 67 = some (.iconst 1, 68, 0, 0, .int 1) := by decide +kernel
theorem x_238_67 : Tr sc d 238 (67, [l0, l1, l2, l3, l4, l5, l6, l7, l8, l9], [.int i0], h) Q = Tr sc d 238 (68, [l0, l1, l2, l3, l4, l5, l6, l7, l8, l9], [.int 1, .int i0], h) Q := t_go k_238_67 rfl
theorem k_238_68 : lk 238 68 = some (.if_icmp .ne 21, 71, 89, 0, .null) := by decide +kernel
theorem x_238_68 : Tr sc d 238 (68, [l0, l1, l2, l3, l4, l5, l6, l7, l8, l9], [.int i1, .int i0], h) Q = if i0 = i1 then Tr sc d 238 (71, [l0, l1, l2, l3, l4, l5, l6, l7, l8, l9], [], h) Q else Tr sc d 238 (89, [l0, l1, l2, l3, l4, l5, l6, l7, l8, l9], [], h) Q := t_if k_238_68 rfl
theorem k_238_71 : lk 238 71 = some (.iload 6, 73, 6, 0, .null) := by decide +kernel
theorem x_238_71 : Tr sc d 238 (71, [l0, l1, l2, l3, l4, l5, some (.int x), l7, l8, l9], [], h) Q = Tr sc d 238 (73, [l0, l1, l2, l3, l4, l5, some (.int x), l7, l8, l9], [.int x], h) Q := t_iload k_238_71 rfl
theorem k_238_73 : lk 238 73 = some (.iload_n 2, 74, 2, 0, .null) := by decide +kernel
theorem x_238_73 : Tr sc d 238 (73, [l0, l1, some (.int x), l3, l4, l5, l6, l7, l8, l9], [.int i0], h) Q = Tr sc d 238 (74, [l0, l1, some (.int x), l3, l4, l5, l6, l7, l8, l9], [.int x, .int i0], h) Q := t_iload_n k_238_73 rfl
theorem k_238_74 : lk 238 74 = some (.irem, 75, 0, 0, .null) := by decide +kernel
theorem x_238_74 : Tr sc d 238 (74, [l0, l1, l2, l3, l4, l5, l6, l7, l8, l9], [.int i1, .int i0], h) Q = (¬ i1 = 0 ∧ Tr sc d 238 (75, [l0, l1, l2, l3, l4, l5, l6, l7, l8, l9], [.int (i0 - i0 / i1 * i1)], h) Q) := t_ng k_238_74 rfl
theorem k_238_75 : lk 238 75 = some (.iload_n 2, 76, 2, 0, .null) := by decide +kernel
theorem x_238_75 : Tr sc d 238 (75, [l0, l1, some (.int x), l3, l4, l5, l6, l7, l8, l9], [.int i0], h) Q = Tr sc d 238 (76, [l0, l1, some (.int x), l3, l4, l5, l6, l7, l8, l9], [.int x, .int i0], h) Q := t_iload_n k_238_75 rfl
theorem k_238_76 : lk 238 76 = some (.iconst 1, 77, 0, 0, .int 1) := by decide +kernel
theorem x_238_76 : Tr sc d 238 (76, [l0, l1, l2, l3, l4, l5, l6, l7, l8, l9], [.int i1, .int i0], h) Q = Tr sc d 238 (77, [l0, l1, l2, l3, l4, l5, l6, l7, l8, l9], [.int 1, .int i1, .int i0], h) Q := t_go k_238_76 rfl
theorem k_238_77 : lk 238 77 = some (.isub, 78, 0, 0, .null) := by decide +kernel
theorem x_238_77 : Tr sc d 238 (77, [l0, l1, l2, l3, l4, l5, l6, l7, l8, l9], [.int i2, .int i1, .int i0], h) Q = Tr sc d 238 (78, [l0, l1, l2, l3, l4, l5, l6, l7, l8, l9], [.int (i1 - i2), .int i0], h) Q := t_go k_238_77 rfl
theorem k_238_78 : lk 238 78 = some (.if_icmp .ge 7, 81, 85, 0, .null) := by decide +kernel
theorem x_238_78 : Tr sc d 238 (78, [l0, l1, l2, l3, l4, l5, l6, l7, l8, l9], [.int i1, .int i0], h) Q = if i1 ≤ i0 then Tr sc d 238 (85, [l0, l1, l2, l3, l4, l5, l6, l7, l8, l9], [], h) Q else Tr sc d 238 (81, [l0, l1, l2, l3, l4, l5, l6, l7, l8, l9], [], h) Q := t_if k_238_78 rfl
theorem k_238_81 : lk 238 81 = some (.iconst 1, 82, 0, 0, .int 1) := by decide +kernel
theorem x_238_81 : Tr sc d 238 (81, [l0, l1, l2, l3, l4, l5, l6, l7, l8, l9], [], h) Q = Tr sc d 238 (82, [l0, l1, l2, l3, l4, l5, l6, l7, l8, l9], [.int 1], h) Q := t_go k_238_81 rfl
theorem k_238_82 : lk 238 82 = some (.goto 42, 85, 124, 0, .null) := by decide +kernel
theorem x_238_82 : Tr sc d 238 (82, [l0, l1, l2, l3, l4, l5, l6, l7, l8, l9], [.int i0], h) Q = Tr sc d 238 (124, [l0, l1, l2, l3, l4, l5, l6, l7, l8, l9], [.int i0], h) Q := t_go k_238_82 rfl
theorem k_238_85 : lk 238 85 = some (.iconst 0, 86, 0, 0, .int 0) := by decide +kernel
theorem x_238_85 : Tr sc d 238 (85, [l0, l1, l2, l3, l4, l5, l6, l7, l8, l9], [], h) Q = Tr sc d 238 (86, [l0, l1, l2, l3, l4, l5, l6, l7, l8, l9], [.int 0], h) Q := t_go k_238_85 rfl
theorem k_238_86 : lk 238 86 = some (.goto 38, 89, 124, 0, .null) := by decide +kernel
theorem x_238_86 : Tr sc d 238 (86, [l0, l1, l2, l3, l4, l5, l6, l7, l8, l9], [.int i0], h) Q = Tr sc d 238 (124, [l0, l1, l2, l3, l4, l5, l6, l7, l8, l9], [.int i0], h) Q := t_go k_238_86 rfl
theorem k_238_89 : lk 238 89 = some (.iload 7, 91, 7, 0, .null) := by decide +kernel
theorem x_238_89 : Tr sc d 238 (89, [l0, l1, l2, l3, l4, l5, l6, some (.int x), l8, l9], [], h) Q = Tr sc d 238 (91, [l0, l1, l2, l3, l4, l5, l6, some (.int x), l8, l9], [.int x], h) Q := t_iload k_238_89 rfl
theorem k_238_91 : lk 238 91 = some (.iconst 2, 92, 0, 0, .int 2) := by decide +kernel
theorem x_238_91 : Tr sc d 238 (91, [l0, l1, l2, l3, l4, l5, l6, l7, l8, l9], [.int i0], h) Q = Tr sc d 238 (92, [l0, l1, l2, l3, l4, l5, l6, l7, l8, l9], [.int 2, .int i0], h) Q := t_go k_238_91 rfl
theorem k_238_92 : lk 238 92 = some (.if_icmp .ne 17, 95, 109, 0, .null) := by decide +kernel
theorem x_238_92 : Tr sc d 238 (92, [l0, l1, l2, l3, l4, l5, l6, l7, l8, l9], [.int i1, .int i0], h) Q = if i0 = i1 then Tr sc d 238 (95, [l0, l1, l2, l3, l4, l5, l6, l7, l8, l9], [], h) Q else Tr sc d 238 (109, [l0, l1, l2, l3, l4, l5, l6, l7, l8, l9], [], h) Q := t_if k_238_92 rfl
theorem k_238_95 : lk 238 95 = some (.iload 6, 97, 6, 0, .null) := by decide +kernel
theorem x_238_95 : Tr sc d 238 (95, [l0, l1, l2, l3, l4, l5, some (.int x), l7, l8, l9], [], h) Q = Tr sc d 238 (97, [l0, l1, l2, l3, l4, l5, some (.int x), l7, l8, l9], [.int x], h) Q := t_iload k_238_95 rfl
theorem k_238_97 : lk 238 97 = some (.iload_n 2, 98, 2, 0, .null) := by decide +kernel
theorem x_238_97 : Tr sc d 238 (97, [l0, l1, some (.int x), l3, l4, l5, l6, l7, l8, l9], [.int i0], h) Q = Tr sc d 238 (98, [l0, l1, some (.int x), l3, l4, l5, l6, l7, l8, l9], [.int x, .int i0], h) Q := t_iload_n k_238_97 rfl
theorem k_238_98 : lk 238 98 = some (.if_icmp .lt 7, 101, 105, 0, .null) := by decide +kernel
theorem x_238_98 : Tr sc d 238 (98, [l0, l1, l2, l3, l4, l5, l6, l7, l8, l9], [.int i1, .int i0], h) Q = if i0 < i1 then Tr sc d 238 (105, [l0, l1, l2, l3, l4, l5, l6, l7, l8, l9], [], h) Q else Tr sc d 238 (101, [l0, l1, l2, l3, l4, l5, l6, l7, l8, l9], [], h) Q := t_if k_238_98 rfl
theorem k_238_101 : lk 238 101 = some (.iconst 1, 102, 0, 0, .int 1) := by decide +kernel
theorem x_238_101 : Tr sc d 238 (101, [l0, l1, l2, l3, l4, l5, l6, l7, l8, l9], [], h) Q = Tr sc d 238 (102, [l0, l1, l2, l3, l4, l5, l6, l7, l8, l9], [.int 1], h) Q := t_go k_238_101 rfl
theorem k_238_102 : lk 238 102 = some (.goto 22, 105, 124, 0, .null) := by decide +kernel
theorem x_238_102 : Tr sc d 238 (102, [l0, l1, l2, l3, l4, l5, l6, l7, l8, l9], [.int i0], h) Q = Tr sc d 238 (124, [l0, l1, l2, l3, l4, l5, l6, l7, l8, l9], [.int i0], h) Q := t_go k_238_102 rfl
theorem k_238_105 : lk 238 105 = some (.iconst 0, 106, 0, 0, .int 0) := by decide +kernel
theorem x_238_105 : Tr sc d 238 (105, [l0, l1, l2, l3, l4, l5, l6, l7, l8, l9], [], h) Q = Tr sc d 238 (106, [l0, l1, l2, l3, l4, l5, l6, l7, l8, l9], [.int 0], h) Q := t_go k_238_105 rfl
theorem k_238_106 : lk 238 106 = some (.goto 18, 109, 124, 0, .null) := by decide +kernel
theorem x_238_106 : Tr sc d 238 (106, [l0, l1, l2, l3, l4, l5, l6, l7, l8, l9], [.int i0], h) Q = Tr sc d 238 (124, [l0, l1, l2, l3, l4, l5, l6, l7, l8, l9], [.int i0], h) Q := t_go k_238_106 rfl
theorem k_238_109 : lk 238 109 = some (.iload 6, 111, 6, 0, .null) := by decide +kernel
theorem x_238_109 : Tr sc d 238 (109, [l0, l1, l2, l3, l4, l5, some (.int x), l7, l8, l9], [], h) Q = Tr sc d 238 (111, [l0, l1, l2, l3, l4, l5, some (.int x), l7, l8, l9], [.int x], h) Q := t_iload k_238_109 rfl
theorem k_238_111 : lk 238 111 = some (.iload_n 2, 112, 2, 0, .null) := by decide +kernel
theorem x_238_111 : Tr sc d 238 (111, [l0, l1, some (.int x), l3, l4, l5, l6, l7, l8, l9], [.int i0], h) Q = Tr sc d 238 (112, [l0, l1, some (.int x), l3, l4, l5, l6, l7, l8, l9], [.int x, .int i0], h) Q := t_iload_n k_238_111 rfl
theorem k_238_112 : lk 238 112 = some (.iload_n 3, 113, 3, 0, .null) := by decide +kernel
theorem x_238_112 : Tr sc d 238 (112, [l0, l1, l2, some (.int x), l4, l5, l6, l7, l8, l9], [.int i1, .int i0], h) Q = Tr sc d 238 (113, [l0, l1, l2, some (.int x), l4, l5, l6, l7, l8, l9], [.int x, .int i1, .int i0], h) Q := t_iload_n k_238_112 rfl
theorem k_238_113 : lk 238 113 = some (.iconst 1, 114, 0, 0, .int 1) := by decide +kernel
theorem x_238_113 : Tr sc d 238 (113, [l0, l1, l2, l3, l4, l5, l6, l7, l8, l9], [.int i2, .int i1, .int i0], h) Q = Tr sc d 238 (114, [l0, l1, l2, l3, l4, l5, l6, l7, l8, l9], [.int 1, .int i2, .int i1, .int i0], h) Q := t_go k_238_113 rfl
theorem k_238_114 : lk 238 114 = some (.isub, 115, 0, 0, .null) := by decide +kernel
theorem x_238_114 : Tr sc d 238 (114, [l0, l1, l2, l3, l4, l5, l6, l7, l8, l9], [.int i3, .int i2, .int i1, .int i0], h) Q = Tr sc d 238 (115, [l0, l1, l2, l3, l4, l5, l6, l7, l8, l9], [.int (i2 - i3), .int i1, .int i0], h) Q := t_go k_238_114 rfl
theorem k_238_115 : lk 238 115 = some (.imul, 116, 0, 0, .null) := by decide +kernel
theorem x_238_115 : Tr sc d 238 (115, [l0, l1, l2, l3, l4, l5, l6, l7, l8, l9], [.int i2, .int i1, .int i0], h) Q = Tr sc d 238 (116, [l0, l1, l2, l3, l4, l5, l6, l7, l8, l9], [.int (i1 * i2), .int i0], h) Q := t_go k_238_115 rfl
theorem k_238_116 : lk 238 116 = some (.if_icmp .ge 7, 119, 123, 0, .null) := by decide +kernel
theorem x_238_116 : Tr sc d 238 (116, [l0, l1, l2, l3, l4, l5, l6, l7, l8, l9], [.int i1, .int i0], h) Q = if i1 ≤ i0 then Tr sc d 238 (123, [l0, l1, l2, l3, l4, l5, l6, l7, l8, l9], [], h) Q else Tr sc d 238 (119, [l0, l1, l2, l3, l4, l5, l6, l7, l8, l9], [], h) Q := t_if k_238_116 rfl
theorem k_238_119 : lk 238 119 = some (.iconst 1, 120, 0, 0, .int 1) := by decide +kernel
theorem x_238_119 : Tr sc d 238 (119, [l0, l1, l2, l3, l4, l5, l6, l7, l8, l9], [], h) Q = Tr sc d 238 (120, [l0, l1, l2, l3, l4, l5, l6, l7, l8, l9], [.int 1], h) Q := t_go k_238_119 rfl
theorem k_238_120 : lk 238 120 = some (.goto 4, 123, 124, 0, .null) := by decide +kernel
theorem x_238_120 : Tr sc d 238 (120, [l0, l1, l2, l3, l4, l5, l6, l7, l8, l9], [.int i0], h) Q = Tr sc d 238 (124, [l0, l1, l2, l3, l4, l5, l6, l7, l8, l9], [.int i0], h) Q := t_go k_238_120 rfl
theorem k_238_123 : lk 238 123 = some (.iconst 0, 124, 0, 0, .int 0) := by decide +kernel
theorem x_238_123 : Tr sc d 238 (123, [l0, l1, l2, l3, l4, l5, l6, l7, l8, l9], [], h) Q = Tr sc d 238 (124, [l0, l1, l2, l3, l4, l5, l6, l7, l8, l9], [.int 0], h) Q := t_go k_238_123 rfl
theorem k_238_124 : lk 238 124 = some (.istore 8, 126, 8, 0, .null) := by decide +kernel
theorem x_238_124 : Tr sc d 238 (124, [l0, l1, l2, l3, l4, l5, l6, l7, l8, l9], [.int i0], h) Q = Tr sc d 238 (126, [l0, l1, l2, l3, l4, l5, l6, cl2 l7, some (.int i0), l9], [], h) Q := t_istore k_238_124 (Nat.le_of_ble_eq_true rfl)
theorem k_238_126 : lk 238 126 = some (.iload 7, 128, 7, 0, .null) := by decide +kernel
theorem x_238_126 : Tr sc d 238 (126, [l0, l1, l2, l3, l4, l5, l6, some (.int x), l8, l9], [], h) Q = Tr sc d 238 (128, [l0, l1, l2, l3, l4, l5, l6, some (.int x), l8, l9], [.int x], h) Q := t_iload k_238_126 rfl
theorem k_238_128 : lk 238 128 = some (.ifCond .ne 10, 131, 138, 0, .null) := by decide +kernel
theorem x_238_128 : Tr sc d 238 (128, [l0, l1, l2, l3, l4, l5, l6, l7, l8, l9], [.int i0], h) Q = if i0 = 0 then Tr sc d 238 (131, [l0, l1, l2, l3, l4, l5, l6, l7, l8, l9], [], h) Q else Tr sc d 238 (138, [l0, l1, l2, l3, l4, l5, l6, l7, l8, l9], [], h) Q := t_if k_238_128 rfl
theorem k_238_131 : lk 238 131 = some (.iload 6, 133, 6, 0, .null) := by decide +kernel
theorem x_238_131 : Tr sc d 238 (131, [l0, l1, l2, l3, l4, l5, some (.int x), l7, l8, l9], [], h) Q = Tr sc d 238 (133, [l0, l1, l2, l3, l4, l5, some (.int x), l7, l8, l9], [.int x], h) Q := t_iload k_238_131 rfl
theorem k_238_133 : lk 238 133 = some (.iconst 1, 134, 0, 0, .int 1) := by decide +kernel
theorem x_238_133 : Tr sc d 238 (133, [l0, l1, l2, l3, l4, l5, l6, l7, l8, l9], [.int i0], h) Q = Tr sc d 238 (134, [l0, l1, l2, l3, l4, l5, l6, l7, l8, l9], [.int 1, .int i0], h) Q := t_go k_238_133 rfl
theorem k_238_134 : lk 238 134 = some (.isub, 135, 0, 0, .null) := by decide +kernel
theorem x_238_134 : Tr sc d 238 (134, [l0, l1, l2, l3, l4, l5, l6, l7, l8, l9], [.int i1, .int i0], h) Q = Tr sc d 238 (135, [l0, l1, l2, l3, l4, l5, l6, l7, l8, l9], [.int (i0 - i1)], h) Q := t_go k_238_134 rfl
theorem k_238_135 : lk 238 135 = some (.goto 33, 138, 168, 0, .null) := by decide +kernel
theorem x_238_135 : Tr sc d 238 (135, [l0, l1, l2, l3, l4, l5, l6, l7, l8, l9], [.int i0], h) Q = Tr sc d 238 (168, [l0, l1, l2, l3, l4, l5, l6, l7, l8, l9], [.int i0], h) Q := t_go k_238_135 rfl
theorem k_238_138 : lk 238 138 = some (.iload 7, 140, 7, 0, .null) := by decide +kernel
theorem x_238_138 : Tr sc d 238 (138, [l0, l1, l2, l3, l4, l5, l6, some (.int x), l8, l9], [], h) Q = Tr sc d 238 (140, [l0, l1, l2, l3, l4, l5, l6, some (.int x), l8, l9], [.int x], h) Q := t_iload k_238_138 rfl
theorem k_238_140 : lk 238 140 = some (.iconst 1, 141, 0, 0, .int 1) := by decide +kernel
theorem x_238_140 : Tr sc d 238 (140, [l0, l1, l2, l3, l4, l5, l6, l7, l8, l9], [.int i0], h) Q = Tr sc d 238 (141, [l0, l1, l2, l3, l4, l5, l6, l7, l8, l9], [.int 1, .int i0], h) Q := t_go k_238_140 rfl
theorem k_238_141 : lk 238 141 = some (.if_icmp .ne 10, 144, 151, 0, .null) := by decide +kernel
theorem x_238_141 : Tr sc d 238 (141, [l0, l1, l2, l3, l4, l5, l6, l7, l8, l9], [.int i1, .int i0], h) Q = if i0 = i1 then Tr sc d 238 (144, [l0, l1, l2, l3, l4, l5, l6, l7, l8, l9], [], h) Q else Tr sc d 238 (151, [l0, l1, l2, l3, l4, l5, l6, l7, l8, l9], [], h) Q := t_if k_238_141 rfl
theorem k_238_144 : lk 238 144 = some (.iload 6, 146, 6, 0, .null) := by decide +kernel
theorem x_238_144 : Tr sc d 238 (144, [l0, l1, l2, l3, l4, l5, some (.int x), l7, l8, l9], [], h) Q = Tr sc d 238 (146, [l0, l1, l2, l3, l4, l5, some (.int x), l7, l8, l9], [.int x], h) Q := t_iload k_238_144 rfl
theorem k_238_146 : lk 238 146 = some (.iconst 1, 147, 0, 0, .int 1) := by decide +kernel
theorem x_238_146 : Tr sc d 238 (146, [l0, l1, l2, l3, l4, l5, l6, l7, l8, l9], [.int i0], h) Q = Tr sc d 238 (147, [l0, l1, l2, l3, l4, l5, l6, l7, l8, l9], [.int 1, .int i0], h) Q := t_go k_238_146 rfl
theorem k_238_147 : lk 238 147 = some (.iadd, 148, 0, 0, .null) := by decide +kernel
theorem x_238_147 : Tr sc d 238 (147, [l0, l1, l2, l3, l4, l5, l6, l7, l8, l9], [.int i1, .int i0], h) Q = Tr sc d 238 (148, [l0, l1, l2, l3, l4, l5, l6, l7, l8, l9], [.int (i0 + i1)], h) Q := t_go k_238_147 rfl
theorem k_238_148 : lk 238 148 = some (.goto 20, 151, 168, 0, .null) := by decide +kernel
theorem x_238_148 : Tr sc d 238 (148, [l0, l1, l2, l3, l4, l5, l6, l7, l8, l9], [.int i0], h) Q = Tr sc d 238 (168, [l0, l1, l2, l3, l4, l5, l6, l7, l8, l9], [.int i0], h) Q := t_go k_238_148 rfl
theorem k_238_151 : lk 238 151 = some (.iload 7, 153, 7, 0, .null) := by decide +kernel
theorem x_238_151 : Tr sc d 238 (151, [l0, l1, l2, l3, l4, l5, l6, some (.int x), l8, l9], [], h) Q = Tr sc d 238 (153, [l0, l1, l2, l3, l4, l5, l6, some (.int x), l8, l9], [.int x], h) Q := t_iload k_238_151 rfl
theorem k_238_153 : lk 238 153 = some (.iconst 2, 154, 0, 0, .int 2) := by decide +kernel
theorem x_238_153 : Tr sc d 238 (153, [l0, l1, l2, l3, l4, l5, l6, l7, l8, l9], [.int i0], h) Q = Tr sc d 238 (154, [l0, l1, l2, l3, l4, l5, l6, l7, l8, l9], [.int 2, .int i0], h) Q := t_go k_238_153 rfl
theorem k_238_154 : lk 238 154 = some (.if_icmp .ne 10, 157, 164, 0, .null) := by decide +kernel
theorem x_238_154 : Tr sc d 238 (154, [l0, l1, l2, l3, l4, l5, l6, l7, l8, l9], [.int i1, .int i0], h) Q = if i0 = i1 then Tr sc d 238 (157, [l0, l1, l2, l3, l4, l5, l6, l7, l8, l9], [], h) Q else Tr sc d 238 (164, [l0, l1, l2, l3, l4, l5, l6, l7, l8, l9], [], h) Q := t_if k_238_154 rfl
theorem k_238_157 : lk 238 157 = some (.iload 6, 159, 6, 0, .null) := by decide +kernel
theorem x_238_157 : Tr sc d 238 (157, [l0, l1, l2, l3, l4, l5, some (.int x), l7, l8, l9], [], h) Q = Tr sc d 238 (159, [l0, l1, l2, l3, l4, l5, some (.int x), l7, l8, l9], [.int x], h) Q := t_iload k_238_157 rfl
theorem k_238_159 : lk 238 159 = some (.iload_n 2, 160, 2, 0, .null) := by decide +kernel
theorem x_238_159 : Tr sc d 238 (159, [l0, l1, some (.int x), l3, l4, l5, l6, l7, l8, l9], [.int i0], h) Q = Tr sc d 238 (160, [l0, l1, some (.int x), l3, l4, l5, l6, l7, l8, l9], [.int x, .int i0], h) Q := t_iload_n k_238_159 rfl
theorem k_238_160 : lk 238 160 = some (.isub, 161, 0, 0, .null) := by decide +kernel
theorem x_238_160 : Tr sc d 238 (160, [l0, l1, l2, l3, l4, l5, l6, l7, l8, l9], [.int i1, .int i0], h) Q = Tr sc d 238 (161, [l0, l1, l2, l3, l4, l5, l6, l7, l8, l9], [.int (i0 - i1)], h) Q := t_go k_238_160 rfl
theorem k_238_161 : lk 238 161 = some (.goto 7, 164, 168, 0, .null) := by decide +kernel
theorem x_238_161 : Tr sc d 238 (161, [l0, l1, l2, l3, l4, l5, l6, l7, l8, l9], [.int i0], h) Q = Tr sc d 238 (168, [l0, l1, l2, l3, l4, l5, l6, l7, l8, l9], [.int i0], h) Q := t_go k_238_161 rfl
theorem k_238_164 : lk 238 164 = some (.iload 6, 166, 6, 0, .null) := by decide +kernel
theorem x_238_164 : Tr sc d 238 (164, [l0, l1, l2, l3, l4, l5, some (.int x), l7, l8, l9], [], h) Q = Tr sc d 238 (166, [l0, l1, l2, l3, l4, l5, some (.int x), l7, l8, l9], [.int x], h) Q := t_iload k_238_164 rfl
theorem k_238_166 : lk 238 166 = some (.iload_n 2, 167, 2, 0, .null) := by decide +kernel
theorem x_238_166 : Tr sc d 238 (166, [l0, l1, some (.int x), l3, l4, l5, l6, l7, l8, l9], [.int i0], h) Q = Tr sc d 238 (167, [l0, l1, some (.int x), l3, l4, l5, l6, l7, l8, l9], [.int x, .int i0], h) Q := t_iload_n k_238_166 rfl
theorem k_238_167 : lk 238 167 = some (.iadd, 168, 0, 0, .null) := by decide +kernel
theorem x_238_167 : Tr sc d 238 (167, [l0, l1, l2, l3, l4, l5, l6, l7, l8, l9], [.int i1, .int i0], h) Q = Tr sc d 238 (168, [l0, l1, l2, l3, l4, l5, l6, l7, l8, l9], [.int (i0 + i1)], h) Q := t_go k_238_167 rfl
theorem k_238_168 : lk 238 168 = some (.istore 9, 170, 9, 0, .null) := by decide +kernel
theorem x_238_168 : Tr sc d 238 (168, [l0, l1, l2, l3, l4, l5, l6, l7, l8, l9], [.int i0], h) Q = Tr sc d 238 (170, [l0, l1, l2, l3, l4, l5, l6, l7, cl2 l8, some (.int i0)], [], h) Q := t_istore k_238_168 (Nat.le_of_ble_eq_true rfl)
theorem k_238_170 : lk 238 170 = some (.iload 8, 172, 8, 0, .null) := by decide +kernel
theorem x_238_170 : Tr sc d 238 (170, [l0, l1, l2, l3, l4, l5, l6, l7, some (.int x), l9], [], h) Q = Tr sc d 238 (172, [l0, l1, l2, l3, l4, l5, l6, l7, some (.int x), l9], [.int x], h) Q := t_iload k_238_170 rfl
theorem k_238_172 : lk 238 172 = some (.ifCond .eq 33, 175, 205, 0, .null) := by decide +kernel
theorem x_238_172 : Tr sc d 238 (172, [l0, l1, l2, l3, l4, l5, l6, l7, l8, l9], [.int i0], h) Q = if i0 = 0 then Tr sc d 238 (205, [l0, l1, l2, l3, l4, l5, l6, l7, l8, l9], [], h) Q else Tr sc d 238 (175, [l0, l1, l2, l3, l4, l5, l6, l7, l8, l9], [], h) Q := t_if k_238_172 rfl
theorem k_238_175 : lk 238 175 = some (.aload_n 0, 176, 0, 0, .null) := by decide +kernel
theorem x_238_175 : Tr sc d 238 (175, [some (.ref xk), l1, l2, l3, l4, l5, l6, l7, l8, l9], [], h) Q = Tr sc d 238 (176, [some (.ref xk), l1, l2, l3, l4, l5, l6, l7, l8, l9], [.ref xk], h) Q := t_aload_n k_238_175 rfl
theorem k_238_176 : lk 238 176 = some (.getfield 122, 179, 10, 58, .null) := by decide +kernel
theorem x_238_176 : Tr sc d 238 (176, [l0, l1, l2, l3, l4, l5, l6, l7, l8, l9], [.ref k0], h) Q = (okp h k0 10 = true ∧ ∃ q, hR h k0 58 = some q ∧ Tr sc d 238 (179, [l0, l1, l2, l3, l4, l5, l6, l7, l8, l9], [.ref q], h) Q) := t_getr k_238_176
theorem k_238_179 : lk 238 179 = some (.iload 9, 181, 9, 0, .null) := by decide +kernel
theorem x_238_179 : Tr sc d 238 (179, [l0, l1, l2, l3, l4, l5, l6, l7, l8, some (.int x)], [.ref k0], h) Q = Tr sc d 238 (181, [l0, l1, l2, l3, l4, l5, l6, l7, l8, some (.int x)], [.int x, .ref k0], h) Q := t_iload k_238_179 rfl
theorem k_238_181 : lk 238 181 = some (.iaload, 182, 0, 0, .null) := by decide +kernel
theorem x_238_181 : Tr sc d 238 (181, [l0, l1, l2, l3, l4, l5, l6, l7, l8, l9], [.int i1, .ref k0], h) Q = (iOk sc h k0 i1 ∧ Tr sc d 238 (182, [l0, l1, l2, l3, l4, l5, l6, l7, l8, l9], [.int (iRd sc h k0 i1)], h) Q) := t_iald k_238_181
theorem k_238_182 : lk 238 182 = some (.ifCond .ne 23, 185, 205, 0, .null) := by decide +kernel
theorem x_238_182 : Tr sc d 238 (182, [l0, l1, l2, l3, l4, l5, l6, l7, l8, l9], [.int i0], h) Q = if i0 = 0 then Tr sc d 238 (185, [l0, l1, l2, l3, l4, l5, l6, l7, l8, l9], [], h) Q else Tr sc d 238 (205, [l0, l1, l2, l3, l4, l5, l6, l7, l8, l9], [], h) Q := t_if k_238_182 rfl
theorem k_238_185 : lk 238 185 = some (.aload_n 0, 186, 0, 0, .null) := by decide +kernel
theorem x_238_185 : Tr sc d 238 (185, [some (.ref xk), l1, l2, l3, l4, l5, l6, l7, l8, l9], [], h) Q = Tr sc d 238 (186, [some (.ref xk), l1, l2, l3, l4, l5, l6, l7, l8, l9], [.ref xk], h) Q := t_aload_n k_238_185 rfl
theorem k_238_186 : lk 238 186 = some (.getfield 122, 189, 10, 58, .null) := by decide +kernel
theorem x_238_186 : Tr sc d 238 (186, [l0, l1, l2, l3, l4, l5, l6, l7, l8, l9], [.ref k0], h) Q = (okp h k0 10 = true ∧ ∃ q, hR h k0 58 = some q ∧ Tr sc d 238 (189, [l0, l1, l2, l3, l4, l5, l6, l7, l8, l9], [.ref q], h) Q) := t_getr k_238_186
theorem k_238_189 : lk 238 189 = some (.iload 9, 191, 9, 0, .null) := by decide +kernel
theorem x_238_189 : Tr sc d 238 (189, [l0, l1, l2, l3, l4, l5, l6, l7, l8, some (.int x)], [.ref k0], h) Q = Tr sc d 238 (191, [l0, l1, l2, l3, l4, l5, l6, l7, l8, some (.int x)], [.int x, .ref k0], h) Q := t_iload k_238_189 rfl
theorem k_238_191 : lk 238 191 = some (.iconst 1, 192, 0, 0, .int 1) := by decide +kernel
theorem x_238_191 : Tr sc d 238 (191, [l0, l1, l2, l3, l4, l5, l6, l7, l8, l9], [.int i1, .ref k0], h) Q = Tr sc d 238 (192, [l0, l1, l2, l3, l4, l5, l6, l7, l8, l9], [.int 1, .int i1, .ref k0], h) Q := t_go k_238_191 rfl
theorem k_238_192 : lk 238 192 = some (.iastore, 193, 0, 0, .null) := by decide +kernel
theorem x_238_192 : Tr sc d 238 (192, [l0, l1, l2, l3, l4, l5, l6, l7, l8, l9], [.int i2, .int i1, .ref k0], h) Q = ((okp h k0 11 && inb i1 (LN k0)) = true ∧ Tr sc d 238 (193, [l0, l1, l2, l3, l4, l5, l6, l7, l8, l9], [], (sI h k0 i1.toNatClampNeg i2)) Q) := t_gd k_238_192 rfl
theorem k_238_193 : lk 238 193 = some (.aload_n 0, 194, 0, 0, .null) := by decide +kernel
theorem x_238_193 : Tr sc d 238 (193, [some (.ref xk), l1, l2, l3, l4, l5, l6, l7, l8, l9], [], h) Q = Tr sc d 238 (194, [some (.ref xk), l1, l2, l3, l4, l5, l6, l7, l8, l9], [.ref xk], h) Q := t_aload_n k_238_193 rfl
theorem k_238_194 : lk 238 194 = some (.getfield 125, 197, 10, 59, .null) := by decide +kernel
theorem x_238_194 : Tr sc d 238 (194, [l0, l1, l2, l3, l4, l5, l6, l7, l8, l9], [.ref k0], h) Q = (okp h k0 10 = true ∧ ∃ q, hR h k0 59 = some q ∧ Tr sc d 238 (197, [l0, l1, l2, l3, l4, l5, l6, l7, l8, l9], [.ref q], h) Q) := t_getr k_238_194
theorem k_238_197 : lk 238 197 = some (.iload 4, 199, 4, 0, .null) := by decide +kernel
theorem x_238_197 : Tr sc d 238 (197, [l0, l1, l2, l3, some (.int x), l5, l6, l7, l8, l9], [.ref k0], h) Q = Tr sc d 238 (199, [l0, l1, l2, l3, some (.int x), l5, l6, l7, l8, l9], [.int x, .ref k0], h) Q := t_iload k_238_197 rfl
theorem k_238_199 : lk 238 199 = some (.iload 9, 201, 9, 0, .null) := by decide +kernel
theorem x_238_199 : Tr sc d 238 (199, [l0, l1, l2, l3, l4, l5, l6, l7, l8, some (.int x)], [.int i1, .ref k0], h) Q = Tr sc d 238 (201, [l0, l1, l2, l3, l4, l5, l6, l7, l8, some (.int x)], [.int x, .int i1, .ref k0], h) Q := t_iload k_238_199 rfl
theorem k_238_201 : lk 238 201 = some (.iastore, 202, 0, 0, .null) := by decide +kernel
theorem x_238_201 : Tr sc d 238 (201, [l0, l1, l2, l3, l4, l5, l6, l7, l8, l9], [.int i2, .int i1, .ref k0], h) Q = ((okp h k0 11 && inb i1 (LN k0)) = true ∧ Tr sc d 238 (202, [l0, l1, l2, l3, l4, l5, l6, l7, l8, l9], [], (sI h k0 i1.toNatClampNeg i2)) Q) := t_gd k_238_201 rfl
theorem k_238_202 : lk 238 202 = some (.iinc 4 1, 205, 4, 0, .int 1) := by decide +kernel
theorem x_238_202 : Tr sc d 238 (202, [l0, l1, l2, l3, some (.int x), l5, l6, l7, l8, l9], [], h) Q = Tr sc d 238 (205, [l0, l1, l2, cl2 l3, some (.int (x + 1)), l5, l6, l7, l8, l9], [], h) Q := t_inc k_238_202 rfl (Nat.le_of_ble_eq_true rfl)
theorem k_238_205 : lk 238 205 = some (.iinc 7 1, 208, 7, 0, .int 1) := by decide +kernel
theorem x_238_205 : Tr sc d 238 (205, [l0, l1, l2, l3, l4, l5, l6, some (.int x), l8, l9], [], h) Q = Tr sc d 238 (208, [l0, l1, l2, l3, l4, l5, cl2 l6, some (.int (x + 1)), l8, l9], [], h) Q := t_inc k_238_205 rfl (Nat.le_of_ble_eq_true rfl)
theorem k_238_208 : lk 238 208 = some (.goto (-169), 211, 39, 0, .null) := by decide +kernel
theorem x_238_208 : Tr sc d 238 (208, [l0, l1, l2, l3, l4, l5, l6, l7, l8, l9], [], h) Q = Tr sc d 238 (39, [l0, l1, l2, l3, l4, l5, l6, l7, l8, l9], [], h) Q := t_go k_238_208 rfl
theorem k_238_211 : lk 238 211 = some (.iinc 5 1, 214, 5, 0, .int 1) := by decide +kernel
theorem x_238_211 : Tr sc d 238 (211, [l0, l1, l2, l3, l4, some (.int x), l6, l7, l8, l9], [], h) Q = Tr sc d 238 (214, [l0, l1, l2, l3, cl2 l4, some (.int (x + 1)), l6, l7, l8, l9], [], h) Q := t_inc k_238_211 rfl (Nat.le_of_ble_eq_true rfl)
theorem k_238_214 : lk 238 214 = some (.goto (-194), 217, 20, 0, .null) := by decide +kernel
theorem x_238_214 : Tr sc d 238 (214, [l0, l1, l2, l3, l4, l5, l6, l7, l8, l9], [], h) Q = Tr sc d 238 (20, [l0, l1, l2, l3, l4, l5, l6, l7, l8, l9], [], h) Q := t_go k_238_214 rfl
theorem k_238_217 : lk 238 217 = some (.return_, 218, 0, 0, .null) := by decide +kernel
theorem x_238_217 : Tr sc d 238 (217, [l0, l1, l2, l3, l4, l5, l6, l7, l8, l9], [], h) Q = Q (none, h) := t_ret k_238_217 (by rw [r_238]; rfl)
theorem e_238 : Tr sc d 238 (ent0 238 [.ref k0, .int i1, .int i2, .int i3] h) Q = Tr sc d 238 (0, [some (.ref k0), some (.int i1), some (.int i2), some (.int i3), none, none, none, none, none, none], [], h) Q := by
  have e : mL 238 = 10 := by decide +kernel
  unfold ent0
  rw [e]
  rfl
theorem r_239 : mR 239 = some .int := by decide +kernel
theorem k_239_0 : lk 239 0 = some (.aload_n 0, 1, 0, 0, .null) := by decide +kernel
theorem x_239_0 : Tr sc d 239 (0, [some (.ref xk), l1, l2, l3, l4, l5, l6], [], h) Q = Tr sc d 239 (1, [some (.ref xk), l1, l2, l3, l4, l5, l6], [.ref xk], h) Q := t_aload_n k_239_0 rfl
theorem k_239_1 : lk 239 1 = some (.iload_n 1, 2, 1, 0, .null) := by decide +kernel
theorem x_239_1 : Tr sc d 239 (1, [l0, some (.int x), l2, l3, l4, l5, l6], [.ref k0], h) Q = Tr sc d 239 (2, [l0, some (.int x), l2, l3, l4, l5, l6], [.int x, .ref k0], h) Q := t_iload_n k_239_1 rfl
theorem k_239_2 : lk 239 2 = some (.iload_n 2, 3, 2, 0, .null) := by decide +kernel
theorem x_239_2 : Tr sc d 239 (2, [l0, l1, some (.int x), l3, l4, l5, l6], [.int i1, .ref k0], h) Q = Tr sc d 239 (3, [l0, l1, some (.int x), l3, l4, l5, l6], [.int x, .int i1, .ref k0], h) Q := t_iload_n k_239_2 rfl
theorem k_239_3 : lk 239 3 = some (.iconst 3, 4, 0, 0, .int 3) := by decide +kernel
theorem x_239_3 : Tr sc d 239 (3, [l0, l1, l2, l3, l4, l5, l6], [.int i2, .int i1, .ref k0], h) Q = Tr sc d 239 (4, [l0, l1, l2, l3, l4, l5, l6], [.int 3, .int i2, .int i1, .ref k0], h) Q := t_go k_239_3 rfl
theorem k_239_4 : lk 239 4 = some (.invokevirtual 304, 7, 205, 3, .null) := by decide +kernel
theorem x_239_4 : Tr sc (d + 1) 239 (4, [l0, l1, l2, l3, l4, l5, l6], [.int i3, .int i2, .int i1, .ref k0], h) Q = (okp h k0 10 = true ∧ Tr sc d 205 (ent0 205 [.ref k0, .int i1, .int i2, .int i3] h) (fun z => Tr sc (d + 1) 239 (7, [l0, l1, l2, l3, l4, l5, l6], z.1.toList ++ [], z.2) Q)) := t_cv (as := [.int i1, .int i2, .int i3]) (r := []) k_239_4 rfl rfl (Nat.le_of_ble_eq_true rfl) (Nat.le_of_ble_eq_true rfl) (Nat.le_of_ble_eq_true rfl)
theorem k_239_7 : lk 239 7 = some (.istore 4, 9, 4, 0, .null) := by decide +kernel
theorem x_239_7 : Tr sc d 239 (7, [l0, l1, l2, l3, l4, l5, l6], [.int i0], h) Q = Tr sc d 239 (9, [l0, l1, l2, cl2 l3, some (.int i0), l5, l6], [], h) Q := t_istore k_239_7 (Nat.le_of_ble_eq_true rfl)
theorem k_239_9 : lk 239 9 = some (.iload 4, 11, 4, 0, .null) := by decide +kernel
theorem x_239_9 : Tr sc d 239 (9, [l0, l1, l2, l3, some (.int x), l5, l6], [], h) Q = Tr sc d 239 (11, [l0, l1, l2, l3, some (.int x), l5, l6], [.int x], h) Q := t_iload k_239_9 rfl
theorem k_239_11 : lk 239 11 = some (.ifCond .ge 6, 14, 17, 0, .null) := by decide +kernel
theorem x_239_11 : Tr sc d 239 (11, [l0, l1, l2, l3, l4, l5, l6], [.int i0], h) Q = if 0 ≤ i0 then Tr sc d 239 (17, [l0, l1, l2, l3, l4, l5, l6], [], h) Q else Tr sc d 239 (14, [l0, l1, l2, l3, l4, l5, l6], [], h) Q := t_if k_239_11 rfl
theorem k_239_14 : lk 239 14 = some (.iload 4, 16, 4, 0, .null) := by decide +kernel
theorem x_239_14 : Tr sc d 239 (14, [l0, l1, l2, l3, some (.int x), l5, l6], [], h) Q = Tr sc d 239 (16, [l0, l1, l2, l3, some (.int x), l5, l6], [.int x], h) Q := t_iload k_239_14 rfl
theorem k_239_16 : lk 239 16 = some (.ireturn, 17, 0, 0, .null) := by decide +kernel
theorem x_239_16 : Tr sc d 239 (16, [l0, l1, l2, l3, l4, l5, l6], [.int i0], h) Q = Q (some (.int i0), h) := t_ret k_239_16 (by rw [r_239]; rfl)
theorem k_239_17 : lk 239 17 = some (.aload_n 0, 18, 0, 0, .null) := by decide +kernel
theorem x_239_17 : Tr sc d 239 (17, [some (.ref xk), l1, l2, l3, l4, l5, l6], [], h) Q = Tr sc d 239 (18, [some (.ref xk), l1, l2, l3, l4, l5, l6], [.ref xk], h) Q := t_aload_n k_239_17 rfl
theorem k_239_18 : lk 239 18 = some (.iload_n 1, 19, 1, 0, .null) := by decide +kernel
theorem x_239_18 : Tr sc d 239 (18, [l0, some (.int x), l2, l3, l4, l5, l6], [.ref k0], h) Q = Tr sc d 239 (19, [l0, some (.int x), l2, l3, l4, l5, l6], [.int x, .ref k0], h) Q := t_iload_n k_239_18 rfl
theorem k_239_19 : lk 239 19 = some (.iload_n 2, 20, 2, 0, .null) := by decide +kernel
theorem x_239_19 : Tr sc d 239 (19, [l0, l1, some (.int x), l3, l4, l5, l6], [.int i1, .ref k0], h) Q = Tr sc d 239 (20, [l0, l1, some (.int x), l3, l4, l5, l6], [.int x, .int i1, .ref k0], h) Q := t_iload_n k_239_19 rfl
theorem k_239_20 : lk 239 20 = some (.invokevirtual 307, 23, 203, 2, .null) := by decide +kernel
theorem x_239_20 : Tr sc (d + 1) 239 (20, [l0, l1, l2, l3, l4, l5, l6], [.int i2, .int i1, .ref k0], h) Q = (okp h k0 10 = true ∧ Tr sc d 203 (ent0 203 [.ref k0, .int i1, .int i2] h) (fun z => Tr sc (d + 1) 239 (23, [l0, l1, l2, l3, l4, l5, l6], z.1.toList ++ [], z.2) Q)) := t_cv (as := [.int i1, .int i2]) (r := []) k_239_20 rfl rfl (Nat.le_of_ble_eq_true rfl) (Nat.le_of_ble_eq_true rfl) (Nat.le_of_ble_eq_true rfl)
theorem k_239_23 : lk 239 23 = some (.aload_n 0, 24, 0, 0, .null) := by decide +kernel
theorem x_239_23 : Tr sc d 239 (23, [some (.ref xk), l1, l2, l3, l4, l5, l6], [], h) Q = Tr sc d 239 (24, [some (.ref xk), l1, l2, l3, l4, l5, l6], [.ref xk], h) Q := t_aload_n k_239_23 rfl
theorem k_239_24 : lk 239 24 = some (.getfield 283, 27, 10, 36, .int 0) := by decide +kernel
theorem x_239_24 : Tr sc d 239 (24, [l0, l1, l2, l3, l4, l5, l6], [.ref k0], h) Q = (okp h k0 10 = true ∧ Tr sc d 239 (27, [l0, l1, l2, l3, l4, l5, l6], [.int (hI h k0 36)], h) Q) := t_gd k_239_24 rfl
theorem k_239_27 : lk 239 27 = some (.ifCond .ne 9, 30, 36, 0, .null) := by decide +kernel
theorem x_239_27 : Tr sc d 239 (27, [l0, l1, l2, l3, l4, l5, l6], [.int i0], h) Q = if i0 = 0 then Tr sc d 239 (30, [l0, l1, l2, l3, l4, l5, l6], [], h) Q else Tr sc d 239 (36, [l0, l1, l2, l3, l4, l5, l6], [], h) Q := t_if k_239_27 rfl
theorem k_239_30 : lk 239 30 = some (.aload_n 0, 31, 0, 0, .null) := by decide +kernel
theorem x_239_30 : Tr sc d 239 (30, [some (.ref xk), l1, l2, l3, l4, l5, l6], [], h) Q = Tr sc d 239 (31, [some (.ref xk), l1, l2, l3, l4, l5, l6], [.ref xk], h) Q := t_aload_n k_239_30 rfl
theorem k_239_31 : lk 239 31 = some (.iconst 4, 32, 0, 0, .int 4) := by decide +kernel
theorem x_239_31 : Tr sc d 239 (31, [l0, l1, l2, l3, l4, l5, l6], [.ref k0], h) Q = Tr sc d 239 (32, [l0, l1, l2, l3, l4, l5, l6], [.int 4, .ref k0], h) Q := t_go k_239_31 rfl
theorem k_239_32 : lk 239 32 = some (.invokevirtual 152, 35, 157, 1, .null) := by decide +kernel
theorem x_239_32 : Tr sc (d + 1) 239 (32, [l0, l1, l2, l3, l4, l5, l6], [.int i1, .ref k0], h) Q = (okp h k0 10 = true ∧ Tr sc d 157 (ent0 157 [.ref k0, .int i1] h) (fun z => Tr sc (d + 1) 239 (35, [l0, l1, l2, l3, l4, l5, l6], z.1.toList ++ [], z.2) Q)) := t_cv (as := [.int i1]) (r := []) k_239_32 rfl rfl (Nat.le_of_ble_eq_true rfl) (Nat.le_of_ble_eq_true rfl) (Nat.le_of_ble_eq_true rfl)
theorem k_239_35 : lk 239 35 = some (.ireturn, 36, 0, 0, .null) := by decide +kernel
theorem x_239_35 : Tr sc d 239 (35, [l0, l1, l2, l3, l4, l5, l6], [.int i0], h) Q = Q (some (.int i0), h) := t_ret k_239_35 (by rw [r_239]; rfl)
theorem k_239_36 : lk 239 36 = some (.iload_n 3, 37, 3, 0, .null) := by decide +kernel
theorem x_239_36 : Tr sc d 239 (36, [l0, l1, l2, some (.int x), l4, l5, l6], [], h) Q = Tr sc d 239 (37, [l0, l1, l2, some (.int x), l4, l5, l6], [.int x], h) Q := t_iload_n k_239_36 rfl
theorem k_239_37 : lk 239 37 = some (.iconst 0, 38, 0, 0, .int 0) := by decide +kernel
theorem x_239_37 : Tr sc d 239 (37, [l0, l1, l2, l3, l4, l5, l6], [.int i0], h) Q = Tr sc d 239 (38, [l0, l1, l2, l3, l4, l5, l6], [.int 0, .int i0], h) Q := t_go k_239_37 rfl
theorem k_239_38 : lk 239 38 = some (.aload_n 0, 39, 0, 0, .null) := by decide +kernel
theorem x_239_38 : Tr sc d 239 (38, [some (.ref xk), l1, l2, l3, l4, l5, l6], [.int i1, .int i0], h) Q = Tr sc d 239 (39, [some (.ref xk), l1, l2, l3, l4, l5, l6], [.ref xk, .int i1, .int i0], h) Q := t_aload_n k_239_38 rfl
theorem k_239_39 : lk 239 39 = some (.getfield 301, 42, 10, 44, .int 0) := by decide +kernel
theorem x_239_39 : Tr sc d 239 (39, [l0, l1, l2, l3, l4, l5, l6], [.ref k2, .int i1, .int i0], h) Q = (okp h k2 10 = true ∧ Tr sc d 239 (42, [l0, l1, l2, l3, l4, l5, l6], [.int (hI h k2 44), .int i1, .int i0], h) Q) := t_gd k_239_39 rfl
theorem k_239_42 : lk 239 42 = some (.aload_n 0, 43, 0, 0, .null) := by decide +kernel
theorem x_239_42 : Tr sc d 239 (42, [some (.ref xk), l1, l2, l3, l4, l5, l6], [.int i2, .int i1, .int i0], h) Q = Tr sc d 239 (43, [some (.ref xk), l1, l2, l3, l4, l5, l6], [.ref xk, .int i2, .int i1, .int i0], h) Q := t_aload_n k_239_42 rfl
theorem k_239_43 : lk 239 43 = some (.getfield 298, 46, 10, 43, .int 0) := by decide +kernel
theorem x_239_43 : Tr sc d 239 (43, [l0, l1, l2, l3, l4, l5, l6], [.ref k3, .int i2, .int i1, .int i0], h) Q = (okp h k3 10 = true ∧ Tr sc d 239 (46, [l0, l1, l2, l3, l4, l5, l6], [.int (hI h k3 43), .int i2, .int i1, .int i0], h) Q) := t_gd k_239_43 rfl
theorem k_239_46 : lk 239 46 = some (.isub, 47, 0, 0, .null) := by decide +kernel
theorem x_239_46 : Tr sc d 239 (46, [l0, l1, l2, l3, l4, l5, l6], [.int i3, .int i2, .int i1, .int i0], h) Q = Tr sc d 239 (47, [l0, l1, l2, l3, l4, l5, l6], [.int (i2 - i3), .int i1, .int i0], h) Q := t_go k_239_46 rfl
theorem k_239_47 : lk 239 47 = some (.invokestatic 144, 50, 156, 3, .null) := by decide +kernel
theorem x_239_47 : Tr sc (d + 1) 239 (47, [l0, l1, l2, l3, l4, l5, l6], [.int i2, .int i1, .int i0], h) Q = Tr sc d 156 (ent0 156 [.int i0, .int i1, .int i2] h) (fun z => Tr sc (d + 1) 239 (50, [l0, l1, l2, l3, l4, l5, l6], z.1.toList ++ [], z.2) Q) := t_cs (as := [.int i0, .int i1, .int i2]) (r := []) k_239_47 (by decide) rfl rfl (Nat.le_of_ble_eq_true rfl) (Nat.le_of_ble_eq_true rfl)
theorem k_239_50 : lk 239 50 = some (.ifCond .ne 9, 53, 59, 0, .null) := by decide +kernel
theorem x_239_50 : Tr sc d 239 (50, [l0, l1, l2, l3, l4, l5, l6], [.int i0], h) Q = if i0 = 0 then Tr sc d 239 (53, [l0, l1, l2, l3, l4, l5, l6], [], h) Q else Tr sc d 239 (59, [l0, l1, l2, l3, l4, l5, l6], [], h) Q := t_if k_239_50 rfl
theorem k_239_53 : lk 239 53 = some (.aload_n 0, 54, 0, 0, .null) := by decide +kernel
theorem x_239_53 : Tr sc d 239 (53, [some (.ref xk), l1, l2, l3, l4, l5, l6], [], h) Q = Tr sc d 239 (54, [some (.ref xk), l1, l2, l3, l4, l5, l6], [.ref xk], h) Q := t_aload_n k_239_53 rfl
theorem k_239_54 : lk 239 54 = some (.iconst 2, 55, 0, 0, .int 2) := by decide +kernel
theorem x_239_54 : Tr sc d 239 (54, [l0, l1, l2, l3, l4, l5, l6], [.ref k0], h) Q = Tr sc d 239 (55, [l0, l1, l2, l3, l4, l5, l6], [.int 2, .ref k0], h) Q := t_go k_239_54 rfl
theorem k_239_55 : lk 239 55 = some (.invokevirtual 152, 58, 157, 1, .null) := by decide +kernel
theorem x_239_55 : Tr sc (d + 1) 239 (55, [l0, l1, l2, l3, l4, l5, l6], [.int i1, .ref k0], h) Q = (okp h k0 10 = true ∧ Tr sc d 157 (ent0 157 [.ref k0, .int i1] h) (fun z => Tr sc (d + 1) 239 (58, [l0, l1, l2, l3, l4, l5, l6], z.1.toList ++ [], z.2) Q)) := t_cv (as := [.int i1]) (r := []) k_239_55 rfl rfl (Nat.le_of_ble_eq_true rfl) (Nat.le_of_ble_eq_true rfl) (Nat.le_of_ble_eq_true rfl)
theorem k_239_58 : lk 239 58 = some (.ireturn, 59, 0, 0, .null) := by decide +kernel
theorem x_239_58 : Tr sc d 239 (58, [l0, l1, l2, l3, l4, l5, l6], [.int i0], h) Q = Q (some (.int i0), h) := t_ret k_239_58 (by rw [r_239]; rfl)
theorem k_239_59 : lk 239 59 = some (.aload_n 0, 60, 0, 0, .null) := by decide +kernel
theorem x_239_59 : Tr sc d 239 (59, [some (.ref xk), l1, l2, l3, l4, l5, l6], [], h) Q = Tr sc d 239 (60, [some (.ref xk), l1, l2, l3, l4, l5, l6], [.ref xk], h) Q := t_aload_n k_239_59 rfl
theorem k_239_60 : lk 239 60 = some (.getfield 295, 63, 10, 42, .int 0) := by decide +kernel
theorem x_239_60 : Tr sc d 239 (60, [l0, l1, l2, l3, l4, l5, l6], [.ref k0], h) Q = (okp h k0 10 = true ∧ Tr sc d 239 (63, [l0, l1, l2, l3, l4, l5, l6], [.int (hI h k0 42)], h) Q) := t_gd k_239_60 rfl
theorem k_239_63 : lk 239 63 = some (.aload_n 0, 64, 0, 0, .null) := by decide +kernel
theorem x_239_63 : Tr sc d 239 (63, [some (.ref xk), l1, l2, l3, l4, l5, l6], [.int i0], h) Q = Tr sc d 239 (64, [some (.ref xk), l1, l2, l3, l4, l5, l6], [.ref xk, .int i0], h) Q := t_aload_n k_239_63 rfl
theorem k_239_64 : lk 239 64 = some (.getfield 292, 67, 10, 41, .int 0) := by decide +kernel
theorem x_239_64 : Tr sc d 239 (64, [l0, l1, l2, l3, l4, l5, l6], [.ref k1, .int i0], h) Q = (okp h k1 10 = true ∧ Tr sc d 239 (67, [l0, l1, l2, l3, l4, l5, l6], [.int (hI h k1 41), .int i0], h) Q) := t_gd k_239_64 rfl
theorem k_239_67 : lk 239 67 = some (.isub, 68, 0, 0, .null) := by decide +kernel
theorem x_239_67 : Tr sc d 239 (67, [l0, l1, l2, l3, l4, l5, l6], [.int i1, .int i0], h) Q = Tr sc d 239 (68, [l0, l1, l2, l3, l4, l5, l6], [.int (i0 - i1)], h) Q := t_go k_239_67 rfl
theorem k_239_68 : lk 239 68 = some (.bipush 60, 70, 0, 0, .int 60) := by decide +kernel
theorem x_239_68 : Tr sc d 239 (68, [l0, l1, l2, l3, l4, l5, l6], [.int i0], h) Q = Tr sc d 239 (70, [l0, l1, l2, l3, l4, l5, l6], [.int 60, .int i0], h) Q := t_go k_239_68 rfl
theorem k_239_70 : lk 239 70 = some (.if_icmp .lt 6, 73, 76, 0, .null) := by decide +kernel
theorem x_239_70 : Tr sc d 239 (70, [l0, l1, l2, l3, l4, l5, l6], [.int i1, .int i0], h) Q = if i0 < i1 then Tr sc d 239 (76, [l0, l1, l2, l3, l4, l5, l6], [], h) Q else Tr sc d 239 (73, [l0, l1, l2, l3, l4, l5, l6], [], h) Q := t_if k_239_70 rfl
theorem k_239_73 : lk 239 73 = some (.bipush (-6), 75, 0, 0, .int (-6)) := by decide +kernel
theorem x_239_73 : Tr sc d 239 (73, [l0, l1, l2, l3, l4, l5, l6], [], h) Q = Tr sc d 239 (75, [l0, l1, l2, l3, l4, l5, l6], [.int (-6)], h) Q := t_go k_239_73 rfl
theorem k_239_75 : lk 239 75 = some (.ireturn, 76, 0, 0, .null) := by decide +kernel
theorem x_239_75 : Tr sc d 239 (75, [l0, l1, l2, l3, l4, l5, l6], [.int i0], h) Q = Q (some (.int i0), h) := t_ret k_239_75 (by rw [r_239]; rfl)
theorem k_239_76 : lk 239 76 = some (.aload_n 0, 77, 0, 0, .null) := by decide +kernel
theorem x_239_76 : Tr sc d 239 (76, [some (.ref xk), l1, l2, l3, l4, l5, l6], [], h) Q = Tr sc d 239 (77, [some (.ref xk), l1, l2, l3, l4, l5, l6], [.ref xk], h) Q := t_aload_n k_239_76 rfl
theorem k_239_77 : lk 239 77 = some (.lconst 0, 78, 0, 0, .long 0) := by decide +kernel
theorem x_239_77 : Tr sc d 239 (77, [l0, l1, l2, l3, l4, l5, l6], [.ref k0], h) Q = Tr sc d 239 (78, [l0, l1, l2, l3, l4, l5, l6], [.long 0, .ref k0], h) Q := t_go k_239_77 rfl
theorem k_239_78 : lk 239 78 = some (.putfield 267, 81, 10, 3, .long 0) := by decide +kernel
theorem x_239_78 : Tr sc d 239 (78, [l0, l1, l2, l3, l4, l5, l6], [.long j1, .ref k0], h) Q = (okp h k0 10 = true ∧ Tr sc d 239 (81, [l0, l1, l2, l3, l4, l5, l6], [], (sL h k0 3 j1)) Q) := t_gd k_239_78 rfl
theorem k_239_81 : lk 239 81 = some (.iconst 0, 82, 0, 0, .int 0) := by decide +kernel
theorem x_239_81 : Tr sc d 239 (81, [l0, l1, l2, l3, l4, l5, l6], [], h) Q = Tr sc d 239 (82, [l0, l1, l2, l3, l4, l5, l6], [.int 0], h) Q := t_go k_239_81 rfl
theorem k_239_82 : lk 239 82 = some (.istore 5, 84, 5, 0, .null) := by decide +kernel
theorem x_239_82 : Tr sc d 239 (82, [l0, l1, l2, l3, l4, l5, l6], [.int i0], h) Q = Tr sc d 239 (84, [l0, l1, l2, l3, cl2 l4, some (.int i0), l6], [], h) Q := t_istore k_239_82 (Nat.le_of_ble_eq_true rfl)
theorem k_239_84 : lk 239 84 = some (.iconst 0, 85, 0, 0, .int 0) := by decide +kernel
theorem x_239_84 : Tr sc d 239 (84, [l0, l1, l2, l3, l4, l5, l6], [], h) Q = Tr sc d 239 (85, [l0, l1, l2, l3, l4, l5, l6], [.int 0], h) Q := t_go k_239_84 rfl
theorem k_239_85 : lk 239 85 = some (.istore 6, 87, 6, 0, .null) := by decide +kernel
theorem x_239_85 : Tr sc d 239 (85, [l0, l1, l2, l3, l4, l5, l6], [.int i0], h) Q = Tr sc d 239 (87, [l0, l1, l2, l3, l4, cl2 l5, some (.int i0)], [], h) Q := t_istore k_239_85 (Nat.le_of_ble_eq_true rfl)
theorem k_239_87 : lk 239 87 = some (.iload 6, 89, 6, 0, .null) := by decide +kernel
theorem x_239_87 : Tr sc d 239 (87, [l0, l1, l2, l3, l4, l5, some (.int x)], [], h) Q = Tr sc d 239 (89, [l0, l1, l2, l3, l4, l5, some (.int x)], [.int x], h) Q := t_iload k_239_87 rfl
theorem k_239_89 : lk 239 89 = some (.aload_n 0, 90, 0, 0, .null) := by decide +kernel
theorem x_239_89 : Tr sc d 239 (89, [some (.ref xk), l1, l2, l3, l4, l5, l6], [.int i0], h) Q = Tr sc d 239 (90, [some (.ref xk), l1, l2, l3, l4, l5, l6], [.ref xk, .int i0], h) Q := t_aload_n k_239_89 rfl
theorem k_239_90 : lk 239 90 = some (.getfield 283, 93, 10, 36, .int 0) := by decide +kernel
theorem x_239_90 : Tr sc d 239 (90, [l0, l1, l2, l3, l4, l5, l6], [.ref k1, .int i0], h) Q = (okp h k1 10 = true ∧ Tr sc d 239 (93, [l0, l1, l2, l3, l4, l5, l6], [.int (hI h k1 36), .int i0], h) Q) := t_gd k_239_90 rfl
theorem k_239_93 : lk 239 93 = some (.if_icmp .ge 51, 96, 144, 0, .null) := by decide +kernel
theorem x_239_93 : Tr sc d 239 (93, [l0, l1, l2, l3, l4, l5, l6], [.int i1, .int i0], h) Q = if i1 ≤ i0 then Tr sc d 239 (144, [l0, l1, l2, l3, l4, l5, l6], [], h) Q else Tr sc d 239 (96, [l0, l1, l2, l3, l4, l5, l6], [], h) Q := t_if k_239_93 rfl
theorem k_239_96 : lk 239 96 = some (.aload_n 0, 97, 0, 0, .null) := by decide +kernel
theorem x_239_96 : Tr sc d 239 (96, [some (.ref xk), l1, l2, l3, l4, l5, l6], [], h) Q = Tr sc d 239 (97, [some (.ref xk), l1, l2, l3, l4, l5, l6], [.ref xk], h) Q := t_aload_n k_239_96 rfl
theorem k_239_97 : lk 239 97 = some (.getfield 81, 100, 10, 40, .null) := by decide +kernel
theorem x_239_97 : Tr sc d 239 (97, [l0, l1, l2, l3, l4, l5, l6], [.ref k0], h) Q = (okp h k0 10 = true ∧ ∃ q, hR h k0 40 = some q ∧ Tr sc d 239 (100, [l0, l1, l2, l3, l4, l5, l6], [.ref q], h) Q) := t_getr k_239_97
theorem k_239_100 : lk 239 100 = some (.iload 6, 102, 6, 0, .null) := by decide +kernel
theorem x_239_100 : Tr sc d 239 (100, [l0, l1, l2, l3, l4, l5, some (.int x)], [.ref k0], h) Q = Tr sc d 239 (102, [l0, l1, l2, l3, l4, l5, some (.int x)], [.int x, .ref k0], h) Q := t_iload k_239_100 rfl
theorem k_239_102 : lk 239 102 = some (.iaload, 103, 0, 0, .null) := by decide +kernel
theorem x_239_102 : Tr sc d 239 (102, [l0, l1, l2, l3, l4, l5, l6], [.int i1, .ref k0], h) Q = (iOk sc h k0 i1 ∧ Tr sc d 239 (103, [l0, l1, l2, l3, l4, l5, l6], [.int (iRd sc h k0 i1)], h) Q) := t_iald k_239_102
theorem k_239_103 : lk 239 103 = some (.aload_n 0, 104, 0, 0, .null) := by decide +kernel
theorem x_239_103 : Tr sc d 239 (103, [some (.ref xk), l1, l2, l3, l4, l5, l6], [.int i0], h) Q = Tr sc d 239 (104, [some (.ref xk), l1, l2, l3, l4, l5, l6], [.ref xk, .int i0], h) Q := t_aload_n k_239_103 rfl
theorem k_239_104 : lk 239 104 = some (.getfield 298, 107, 10, 43, .int 0) := by decide +kernel
theorem x_239_104 : Tr sc d 239 (104, [l0, l1, l2, l3, l4, l5, l6], [.ref k1, .int i0], h) Q = (okp h k1 10 = true ∧ Tr sc d 239 (107, [l0, l1, l2, l3, l4, l5, l6], [.int (hI h k1 43), .int i0], h) Q) := t_gd k_239_104 rfl
theorem k_239_107 : lk 239 107 = some (.iload_n 3, 108, 3, 0, .null) := by decide +kernel
theorem x_239_107 : Tr sc d 239 (107, [l0, l1, l2, some (.int x), l4, l5, l6], [.int i1, .int i0], h) Q = Tr sc d 239 (108, [l0, l1, l2, some (.int x), l4, l5, l6], [.int x, .int i1, .int i0], h) Q := t_iload_n k_239_107 rfl
theorem k_239_108 : lk 239 108 = some (.iadd, 109, 0, 0, .null) := by decide +kernel
theorem x_239_108 : Tr sc d 239 (108, [l0, l1, l2, l3, l4, l5, l6], [.int i2, .int i1, .int i0], h) Q = Tr sc d 239 (109, [l0, l1, l2, l3, l4, l5, l6], [.int (i1 + i2), .int i0], h) Q := t_go k_239_108 rfl
theorem k_239_109 : lk 239 109 = some (.if_icmp .ne 29, 112, 138, 0, .null) := by decide +kernel
theorem x_239_109 : Tr sc d 239 (109, [l0, l1, l2, l3, l4, l5, l6], [.int i1, .int i0], h) Q = if i0 = i1 then Tr sc d 239 (112, [l0, l1, l2, l3, l4, l5, l6], [], h) Q else Tr sc d 239 (138, [l0, l1, l2, l3, l4, l5, l6], [], h) Q := t_if k_239_109 rfl
theorem k_239_112 : lk 239 112 = some (.aload_n 0, 113, 0, 0, .null) := by decide +kernel
theorem x_239_112 : Tr sc d 239 (112, [some (.ref xk), l1, l2, l3, l4, l5, l6], [], h) Q = Tr sc d 239 (113, [some (.ref xk), l1, l2, l3, l4, l5, l6], [.ref xk], h) Q := t_aload_n k_239_112 rfl
theorem k_239_113 : lk 239 113 = some (.dup, 114, 0, 0, .null) := by decide +kernel
theorem x_239_113 : Tr sc d 239 (113, [l0, l1, l2, l3, l4, l5, l6], [.ref k0], h) Q = Tr sc d 239 (114, [l0, l1, l2, l3, l4, l5, l6], [.ref k0, .ref k0], h) Q := t_go k_239_113 rfl
theorem k_239_114 : lk 239 114 = some (.getfield 267, 117, 10, 3, .long 0) := by decide +kernel
theorem x_239_114 : Tr sc d 239 (114, [l0, l1, l2, l3, l4, l5, l6], [.ref k1, .ref k0], h) Q = (okp h k1 10 = true ∧ Tr sc d 239 (117, [l0, l1, l2, l3, l4, l5, l6], [.long (hL h k1 3), .ref k0], h) Q) := t_gd k_239_114 rfl
theorem k_239_117 : lk 239 117 = some (.lconst 1, 118, 0, 0, .long 1) := by decide +kernel
theorem x_239_117 : Tr sc d 239 (117, [l0, l1, l2, l3, l4, l5, l6], [.long j1, .ref k0], h) Q = Tr sc d 239 (118, [l0, l1, l2, l3, l4, l5, l6], [.long 1, .long j1, .ref k0], h) Q := t_go k_239_117 rfl
theorem k_239_118 : lk 239 118 = some (.aload_n 0, 119, 0, 0, .null) := by decide +kernel
theorem x_239_118 : Tr sc d 239 (118, [some (.ref xk), l1, l2, l3, l4, l5, l6], [.long j2, .long j1, .ref k0], h) Q = Tr sc d 239 (119, [some (.ref xk), l1, l2, l3, l4, l5, l6], [.ref xk, .long j2, .long j1, .ref k0], h) Q := t_aload_n k_239_118 rfl
theorem k_239_119 : lk 239 119 = some (.getfield 78, 122, 10, 39, .null) := by decide +kernel
theorem x_239_119 : Tr sc d 239 (119, [l0, l1, l2, l3, l4, l5, l6], [.ref k3, .long j2, .long j1, .ref k0], h) Q = (okp h k3 10 = true ∧ ∃ q, hR h k3 39 = some q ∧ Tr sc d 239 (122, [l0, l1, l2, l3, l4, l5, l6], [.ref q, .long j2, .long j1, .ref k0], h) Q) := t_getr k_239_119
theorem k_239_122 : lk 239 122 = some (.iload 6, 124, 6, 0, .null) := by decide +kernel
theorem x_239_122 : Tr sc d 239 (122, [l0, l1, l2, l3, l4, l5, some (.int x)], [.ref k3, .long j2, .long j1, .ref k0], h) Q = Tr sc d 239 (124, [l0, l1, l2, l3, l4, l5, some (.int x)], [.int x, .ref k3, .long j2, .long j1, .ref k0], h) Q := t_iload k_239_122 rfl
theorem k_239_124 : lk 239 124 = some (.iaload, 125, 0, 0, .null) := by decide +kernel
theorem x_239_124 : Tr sc d 239 (124, [l0, l1, l2, l3, l4, l5, l6], [.int i4, .ref k3, .long j2, .long j1, .ref k0], h) Q = (iOk sc h k3 i4 ∧ Tr sc d 239 (125, [l0, l1, l2, l3, l4, l5, l6], [.int (iRd sc h k3 i4), .long j2, .long j1, .ref k0], h) Q) := t_iald k_239_124
theorem k_239_125 : lk 239 125 = some (.aload_n 0, 126, 0, 0, .null) := by decide +kernel
theorem x_239_125 : Tr sc d 239 (125, [some (.ref xk), l1, l2, l3, l4, l5, l6], [.int i3, .long j2, .long j1, .ref k0], h) Q = Tr sc d 239 (126, [some (.ref xk), l1, l2, l3, l4, l5, l6], [.ref xk, .int i3, .long j2, .long j1, .ref k0], h) Q := t_aload_n k_239_125 rfl
theorem k_239_126 : lk 239 126 = some (.getfield 292, 129, 10, 41, .int 0) := by decide +kernel
theorem x_239_126 : Tr sc d 239 (126, [l0, l1, l2, l3, l4, l5, l6], [.ref k4, .int i3, .long j2, .long j1, .ref k0], h) Q = (okp h k4 10 = true ∧ Tr sc d 239 (129, [l0, l1, l2, l3, l4, l5, l6], [.int (hI h k4 41), .int i3, .long j2, .long j1, .ref k0], h) Q) := t_gd k_239_126 rfl
theorem k_239_129 : lk 239 129 = some (.isub, 130, 0, 0, .null) := by decide +kernel
theorem x_239_129 : Tr sc d 239 (129, [l0, l1, l2, l3, l4, l5, l6], [.int i4, .int i3, .long j2, .long j1, .ref k0], h) Q = Tr sc d 239 (130, [l0, l1, l2, l3, l4, l5, l6], [.int (i3 - i4), .long j2, .long j1, .ref k0], h) Q := t_go k_239_129 rfl
theorem k_239_130 : lk 239 130 = some (.lshl, 131, 0, 0, .null) := by decide +kernel
theorem x_239_130 : Tr sc d 239 (130, [l0, l1, l2, l3, l4, l5, l6], [.int i3, .long j2, .long j1, .ref k0], h) Q = Tr sc d 239 (131, [l0, l1, l2, l3, l4, l5, l6], [.long (j2 <<< (i3.toInt64 &&& 63)), .long j1, .ref k0], h) Q := t_go k_239_130 rfl
theorem k_239_131 : lk 239 131 = some (.lor, 132, 0, 0, .null) := by decide +kernel
theorem x_239_131 : Tr sc d 239 (131, [l0, l1, l2, l3, l4, l5, l6], [.long j2, .long j1, .ref k0], h) Q = Tr sc d 239 (132, [l0, l1, l2, l3, l4, l5, l6], [.long (j1 ||| j2), .ref k0], h) Q := t_go k_239_131 rfl
theorem k_239_132 : lk 239 132 = some (.putfield 267, 135, 10, 3, .long 0) := by decide +kernel
theorem x_239_132 : Tr sc d 239 (132, [l0, l1, l2, l3, l4, l5, l6], [.long j1, .ref k0], h) Q = (okp h k0 10 = true ∧ Tr sc d 239 (135, [l0, l1, l2, l3, l4, l5, l6], [], (sL h k0 3 j1)) Q) := t_gd k_239_132 rfl
theorem k_239_135 : lk 239 135 = some (.iinc 5 1, 138, 5, 0, .int 1) := by decide +kernel
theorem x_239_135 : Tr sc d 239 (135, [l0, l1, l2, l3, l4, some (.int x), l6], [], h) Q = Tr sc d 239 (138, [l0, l1, l2, l3, cl2 l4, some (.int (x + 1)), l6], [], h) Q := t_inc k_239_135 rfl (Nat.le_of_ble_eq_true rfl)
theorem k_239_138 : lk 239 138 = some (.iinc 6 1, 141, 6, 0, .int 1) := by decide +kernel
theorem x_239_138 : Tr sc d 239 (138, [l0, l1, l2, l3, l4, l5, some (.int x)], [], h) Q = Tr sc d 239 (141, [l0, l1, l2, l3, l4, cl2 l5, some (.int (x + 1))], [], h) Q := t_inc k_239_138 rfl (Nat.le_of_ble_eq_true rfl)
theorem k_239_141 : lk 239 141 = some (.goto (-54), 144, 87, 0, .null) := by decide +kernel
theorem x_239_141 : Tr sc d 239 (141, [l0, l1, l2, l3, l4, l5, l6], [], h) Q = Tr sc d 239 (87, [l0, l1, l2, l3, l4, l5, l6], [], h) Q := t_go k_239_141 rfl
theorem k_239_144 : lk 239 144 = some (.iload 5, 146, 5, 0, .null) := by decide +kernel
theorem x_239_144 : Tr sc d 239 (144, [l0, l1, l2, l3, l4, some (.int x), l6], [], h) Q = Tr sc d 239 (146, [l0, l1, l2, l3, l4, some (.int x), l6], [.int x], h) Q := t_iload k_239_144 rfl
theorem k_239_146 : lk 239 146 = some (.ireturn, 147, 0, 0, .null) := by decide +kernel
theorem x_239_146 : Tr sc d 239 (146, [l0, l1, l2, l3, l4, l5, l6], [.int i0], h) Q = Q (some (.int i0), h) := t_ret k_239_146 (by rw [r_239]; rfl)
theorem e_239 : Tr sc d 239 (ent0 239 [.ref k0, .int i1, .int i2, .int i3] h) Q = Tr sc d 239 (0, [some (.ref k0), some (.int i1), some (.int i2), some (.int i3), none, none, none], [], h) Q := by
  have e : mL 239 = 7 := by decide +kernel
  unfold ent0
  rw [e]
  rfl
theorem r_240 : mR 240 = some .int := by decide +kernel
theorem k_240_0 : lk 240 0 = some (.iload_n 1, 1, 1, 0, .null) := by decide +kernel
theorem x_240_0 : Tr sc d 240 (0, [l0, some (.int x), l2, l3, l4, l5, l6], [], h) Q = Tr sc d 240 (1, [l0, some (.int x), l2, l3, l4, l5, l6], [.int x], h) Q := t_iload_n k_240_0 rfl
theorem k_240_1 : lk 240 1 = some (.invokestatic 190, 4, 175, 1, .null) := by decide +kernel
theorem x_240_1 : Tr sc (d + 1) 240 (1, [l0, l1, l2, l3, l4, l5, l6], [.int i0], h) Q = Tr sc d 175 (ent0 175 [.int i0] h) (fun z => Tr sc (d + 1) 240 (4, [l0, l1, l2, l3, l4, l5, l6], z.1.toList ++ [], z.2) Q) := t_cs (as := [.int i0]) (r := []) k_240_1 (by decide) rfl rfl (Nat.le_of_ble_eq_true rfl) (Nat.le_of_ble_eq_true rfl)
theorem k_240_4 : lk 240 4 = some (.ifCond .eq 19, 7, 23, 0, .null) := by decide +kernel
theorem x_240_4 : Tr sc d 240 (4, [l0, l1, l2, l3, l4, l5, l6], [.int i0], h) Q = if i0 = 0 then Tr sc d 240 (23, [l0, l1, l2, l3, l4, l5, l6], [], h) Q else Tr sc d 240 (7, [l0, l1, l2, l3, l4, l5, l6], [], h) Q := t_if k_240_4 rfl
theorem k_240_7 : lk 240 7 = some (.iload_n 2, 8, 2, 0, .null) := by decide +kernel
theorem x_240_7 : Tr sc d 240 (7, [l0, l1, some (.int x), l3, l4, l5, l6], [], h) Q = Tr sc d 240 (8, [l0, l1, some (.int x), l3, l4, l5, l6], [.int x], h) Q := t_iload_n k_240_7 rfl
theorem k_240_8 : lk 240 8 = some (.invokestatic 190, 11, 175, 1, .null) := by decide +kernel
theorem x_240_8 : Tr sc (d + 1) 240 (8, [l0, l1, l2, l3, l4, l5, l6], [.int i0], h) Q = Tr sc d 175 (ent0 175 [.int i0] h) (fun z => Tr sc (d + 1) 240 (11, [l0, l1, l2, l3, l4, l5, l6], z.1.toList ++ [], z.2) Q) := t_cs (as := [.int i0]) (r := []) k_240_8 (by decide) rfl rfl (Nat.le_of_ble_eq_true rfl) (Nat.le_of_ble_eq_true rfl)
theorem k_240_11 : lk 240 11 = some (.ifCond .eq 12, 14, 23, 0, .null) := by decide +kernel
theorem x_240_11 : Tr sc d 240 (11, [l0, l1, l2, l3, l4, l5, l6], [.int i0], h) Q = if i0 = 0 then Tr sc d 240 (23, [l0, l1, l2, l3, l4, l5, l6], [], h) Q else Tr sc d 240 (14, [l0, l1, l2, l3, l4, l5, l6], [], h) Q := t_if k_240_11 rfl
theorem k_240_14 : lk 240 14 = some (.iload_n 3, 15, 3, 0, .null) := by decide +kernel
theorem x_240_14 : Tr sc d 240 (14, [l0, l1, l2, some (.int x), l4, l5, l6], [], h) Q = Tr sc d 240 (15, [l0, l1, l2, some (.int x), l4, l5, l6], [.int x], h) Q := t_iload_n k_240_14 rfl
theorem k_240_15 : lk 240 15 = some (.iconst 0, 16, 0, 0, .int 0) := by decide +kernel
theorem x_240_15 : Tr sc d 240 (15, [l0, l1, l2, l3, l4, l5, l6], [.int i0], h) Q = Tr sc d 240 (16, [l0, l1, l2, l3, l4, l5, l6], [.int 0, .int i0], h) Q := t_go k_240_15 rfl
theorem k_240_16 : lk 240 16 = some (.iconst 4, 17, 0, 0, .int 4) := by decide +kernel
theorem x_240_16 : Tr sc d 240 (16, [l0, l1, l2, l3, l4, l5, l6], [.int i1, .int i0], h) Q = Tr sc d 240 (17, [l0, l1, l2, l3, l4, l5, l6], [.int 4, .int i1, .int i0], h) Q := t_go k_240_16 rfl
theorem k_240_17 : lk 240 17 = some (.invokestatic 144, 20, 156, 3, .null) := by decide +kernel
theorem x_240_17 : Tr sc (d + 1) 240 (17, [l0, l1, l2, l3, l4, l5, l6], [.int i2, .int i1, .int i0], h) Q = Tr sc d 156 (ent0 156 [.int i0, .int i1, .int i2] h) (fun z => Tr sc (d + 1) 240 (20, [l0, l1, l2, l3, l4, l5, l6], z.1.toList ++ [], z.2) Q) := t_cs (as := [.int i0, .int i1, .int i2]) (r := []) k_240_17 (by decide) rfl rfl (Nat.le_of_ble_eq_true rfl) (Nat.le_of_ble_eq_true rfl)
theorem k_240_20 : lk 240 20 = some (.ifCond .ne 5, 23, 25, 0, .null) := by decide +kernel
theorem x_240_20 : Tr sc d 240 (20, [l0, l1, l2, l3, l4, l5, l6], [.int i0], h) Q = if i0 = 0 then Tr sc d 240 (23, [l0, l1, l2, l3, l4, l5, l6], [], h) Q else Tr sc d 240 (25, [l0, l1, l2, l3, l4, l5, l6], [], h) Q := t_if k_240_20 rfl
theorem k_240_23 : lk 240 23 = some (.iconst (-1), 24, 0, 0, .int (-1)) := by decide +kernel
theorem x_240_23 : Tr sc d 240 (23, [l0, l1, l2, l3, l4, l5, l6], [], h) Q = Tr sc d 240 (24, [l0, l1, l2, l3, l4, l5, l6], [.int (-1)], h) Q := t_go k_240_23 rfl
theorem k_240_24 : lk 240 24 = some (.ireturn, 25, 0, 0, .null) := by decide +kernel
theorem x_240_24 : Tr sc d 240 (24, [l0, l1, l2, l3, l4, l5, l6], [.int i0], h) Q = Q (some (.int i0), h) := t_ret k_240_24 (by rw [r_240]; rfl)
theorem k_240_25 : lk 240 25 = some (.aload_n 0, 26, 0, 0, .null) := by decide +kernel
theorem x_240_25 : Tr sc d 240 (25, [some (.ref xk), l1, l2, l3, l4, l5, l6], [], h) Q = Tr sc d 240 (26, [some (.ref xk), l1, l2, l3, l4, l5, l6], [.ref xk], h) Q := t_aload_n k_240_25 rfl
theorem k_240_26 : lk 240 26 = some (.getfield 41, 29, 10, 18, .null) := by decide +kernel
theorem x_240_26 : Tr sc d 240 (26, [l0, l1, l2, l3, l4, l5, l6], [.ref k0], h) Q = (okp h k0 10 = true ∧ ∃ q, hR h k0 18 = some q ∧ Tr sc d 240 (29, [l0, l1, l2, l3, l4, l5, l6], [.ref q], h) Q) := t_getr k_240_26
theorem k_240_29 : lk 240 29 = some (.iload_n 1, 30, 1, 0, .null) := by decide +kernel
theorem x_240_29 : Tr sc d 240 (29, [l0, some (.int x), l2, l3, l4, l5, l6], [.ref k0], h) Q = Tr sc d 240 (30, [l0, some (.int x), l2, l3, l4, l5, l6], [.int x, .ref k0], h) Q := t_iload_n k_240_29 rfl
theorem k_240_30 : lk 240 30 = some (.iaload, 31, 0, 0, .null) := by decide +kernel
theorem x_240_30 : Tr sc d 240 (30, [l0, l1, l2, l3, l4, l5, l6], [.int i1, .ref k0], h) Q = (iOk sc h k0 i1 ∧ Tr sc d 240 (31, [l0, l1, l2, l3, l4, l5, l6], [.int (iRd sc h k0 i1)], h) Q) := t_iald k_240_30
theorem k_240_31 : lk 240 31 = some (.ifCond .eq 12, 34, 43, 0, .null) := by decide +kernel
theorem x_240_31 : Tr sc d 240 (31, [l0, l1, l2, l3, l4, l5, l6], [.int i0], h) Q = if i0 = 0 then Tr sc d 240 (43, [l0, l1, l2, l3, l4, l5, l6], [], h) Q else Tr sc d 240 (34, [l0, l1, l2, l3, l4, l5, l6], [], h) Q := t_if k_240_31 rfl
theorem k_240_34 : lk 240 34 = some (.aload_n 0, 35, 0, 0, .null) := by decide +kernel
theorem x_240_34 : Tr sc d 240 (34, [some (.ref xk), l1, l2, l3, l4, l5, l6], [], h) Q = Tr sc d 240 (35, [some (.ref xk), l1, l2, l3, l4, l5, l6], [.ref xk], h) Q := t_aload_n k_240_34 rfl
theorem k_240_35 : lk 240 35 = some (.getfield 41, 38, 10, 18, .null) := by decide +kernel
theorem x_240_35 : Tr sc d 240 (35, [l0, l1, l2, l3, l4, l5, l6], [.ref k0], h) Q = (okp h k0 10 = true ∧ ∃ q, hR h k0 18 = some q ∧ Tr sc d 240 (38, [l0, l1, l2, l3, l4, l5, l6], [.ref q], h) Q) := t_getr k_240_35
theorem k_240_38 : lk 240 38 = some (.iload_n 2, 39, 2, 0, .null) := by decide +kernel
theorem x_240_38 : Tr sc d 240 (38, [l0, l1, some (.int x), l3, l4, l5, l6], [.ref k0], h) Q = Tr sc d 240 (39, [l0, l1, some (.int x), l3, l4, l5, l6], [.int x, .ref k0], h) Q := t_iload_n k_240_38 rfl
theorem k_240_39 : lk 240 39 = some (.iaload, 40, 0, 0, .null) := by decide +kernel
theorem x_240_39 : Tr sc d 240 (39, [l0, l1, l2, l3, l4, l5, l6], [.int i1, .ref k0], h) Q = (iOk sc h k0 i1 ∧ Tr sc d 240 (40, [l0, l1, l2, l3, l4, l5, l6], [.int (iRd sc h k0 i1)], h) Q) := t_iald k_240_39
theorem k_240_40 : lk 240 40 = some (.ifCond .ne 9, 43, 49, 0, .null) := by decide +kernel
theorem x_240_40 : Tr sc d 240 (40, [l0, l1, l2, l3, l4, l5, l6], [.int i0], h) Q = if i0 = 0 then Tr sc d 240 (43, [l0, l1, l2, l3, l4, l5, l6], [], h) Q else Tr sc d 240 (49, [l0, l1, l2, l3, l4, l5, l6], [], h) Q := t_if k_240_40 rfl
theorem k_240_43 : lk 240 43 = some (.aload_n 0, 44, 0, 0, .null) := by decide +kernel
theorem x_240_43 : Tr sc d 240 (43, [some (.ref xk), l1, l2, l3, l4, l5, l6], [], h) Q = Tr sc d 240 (44, [some (.ref xk), l1, l2, l3, l4, l5, l6], [.ref xk], h) Q := t_aload_n k_240_43 rfl
theorem k_240_44 : lk 240 44 = some (.iconst 1, 45, 0, 0, .int 1) := by decide +kernel
theorem x_240_44 : Tr sc d 240 (44, [l0, l1, l2, l3, l4, l5, l6], [.ref k0], h) Q = Tr sc d 240 (45, [l0, l1, l2, l3, l4, l5, l6], [.int 1, .ref k0], h) Q := t_go k_240_44 rfl
theorem k_240_45 : lk 240 45 = some (.invokevirtual 152, 48, 157, 1, .null) := by decide +kernel
theorem x_240_45 : Tr sc (d + 1) 240 (45, [l0, l1, l2, l3, l4, l5, l6], [.int i1, .ref k0], h) Q = (okp h k0 10 = true ∧ Tr sc d 157 (ent0 157 [.ref k0, .int i1] h) (fun z => Tr sc (d + 1) 240 (48, [l0, l1, l2, l3, l4, l5, l6], z.1.toList ++ [], z.2) Q)) := t_cv (as := [.int i1]) (r := []) k_240_45 rfl rfl (Nat.le_of_ble_eq_true rfl) (Nat.le_of_ble_eq_true rfl) (Nat.le_of_ble_eq_true rfl)
theorem k_240_48 : lk 240 48 = some (.ireturn, 49, 0, 0, .null) := by decide +kernel
theorem x_240_48 : Tr sc d 240 (48, [l0, l1, l2, l3, l4, l5, l6], [.int i0], h) Q = Q (some (.int i0), h) := t_ret k_240_48 (by rw [r_240]; rfl)
theorem k_240_49 : lk 240 49 = some (.aload_n 0, 50, 0, 0, .null) := by decide +kernel
theorem x_240_49 : Tr sc d 240 (49, [some (.ref xk), l1, l2, l3, l4, l5, l6], [], h) Q = Tr sc d 240 (50, [some (.ref xk), l1, l2, l3, l4, l5, l6], [.ref xk], h) Q := t_aload_n k_240_49 rfl
theorem k_240_50 : lk 240 50 = some (.iload_n 1, 51, 1, 0, .null) := by decide +kernel
theorem x_240_50 : Tr sc d 240 (50, [l0, some (.int x), l2, l3, l4, l5, l6], [.ref k0], h) Q = Tr sc d 240 (51, [l0, some (.int x), l2, l3, l4, l5, l6], [.int x, .ref k0], h) Q := t_iload_n k_240_50 rfl
theorem k_240_51 : lk 240 51 = some (.iload_n 3, 52, 3, 0, .null) := by decide +kernel
theorem x_240_51 : Tr sc d 240 (51, [l0, l1, l2, some (.int x), l4, l5, l6], [.int i1, .ref k0], h) Q = Tr sc d 240 (52, [l0, l1, l2, some (.int x), l4, l5, l6], [.int x, .int i1, .ref k0], h) Q := t_iload_n k_240_51 rfl
theorem k_240_52 : lk 240 52 = some (.invokevirtual 307, 55, 203, 2, .null) := by decide +kernel
theorem x_240_52 : Tr sc (d + 1) 240 (52, [l0, l1, l2, l3, l4, l5, l6], [.int i2, .int i1, .ref k0], h) Q = (okp h k0 10 = true ∧ Tr sc d 203 (ent0 203 [.ref k0, .int i1, .int i2] h) (fun z => Tr sc (d + 1) 240 (55, [l0, l1, l2, l3, l4, l5, l6], z.1.toList ++ [], z.2) Q)) := t_cv (as := [.int i1, .int i2]) (r := []) k_240_52 rfl rfl (Nat.le_of_ble_eq_true rfl) (Nat.le_of_ble_eq_true rfl) (Nat.le_of_ble_eq_true rfl)
theorem k_240_55 : lk 240 55 = some (.aload_n 0, 56, 0, 0, .null) := by decide +kernel
theorem x_240_55 : Tr sc d 240 (55, [some (.ref xk), l1, l2, l3, l4, l5, l6], [], h) Q = Tr sc d 240 (56, [some (.ref xk), l1, l2, l3, l4, l5, l6], [.ref xk], h) Q := t_aload_n k_240_55 rfl
theorem k_240_56 : lk 240 56 = some (.getfield 283, 59, 10, 36, .int 0) := by decide +kernel
theorem x_240_56 : Tr sc d 240 (56, [l0, l1, l2, l3, l4, l5, l6], [.ref k0], h) Q = (okp h k0 10 = true ∧ Tr sc d 240 (59, [l0, l1, l2, l3, l4, l5, l6], [.int (hI h k0 36)], h) Q) := t_gd k_240_56 rfl
theorem k_240_59 : lk 240 59 = some (.istore 4, 61, 4, 0, .null) := by decide +kernel
theorem x_240_59 : Tr sc d 240 (59, [l0, l1, l2, l3, l4, l5, l6], [.int i0], h) Q = Tr sc d 240 (61, [l0, l1, l2, cl2 l3, some (.int i0), l5, l6], [], h) Q := t_istore k_240_59 (Nat.le_of_ble_eq_true rfl)
theorem k_240_61 : lk 240 61 = some (.iconst 0, 62, 0, 0, .int 0) := by decide +kernel
theorem x_240_61 : Tr sc d 240 (61, [l0, l1, l2, l3, l4, l5, l6], [], h) Q = Tr sc d 240 (62, [l0, l1, l2, l3, l4, l5, l6], [.int 0], h) Q := t_go k_240_61 rfl
theorem k_240_62 : lk 240 62 = some (.istore 5, 64, 5, 0, .null) := by decide +kernel
theorem x_240_62 : Tr sc d 240 (62, [l0, l1, l2, l3, l4, l5, l6], [.int i0], h) Q = Tr sc d 240 (64, [l0, l1, l2, l3, cl2 l4, some (.int i0), l6], [], h) Q := t_istore k_240_62 (Nat.le_of_ble_eq_true rfl)
theorem k_240_64 : lk 240 64 = some (.iload 5, 66, 5, 0, .null) := by decide +kernel
theorem x_240_64 : Tr sc d 240 (64, [l0, l1, l2, l3, l4, some (.int x), l6], [], h) Q = Tr sc d 240 (66, [l0, l1, l2, l3, l4, some (.int x), l6], [.int x], h) Q := t_iload k_240_64 rfl
theorem k_240_66 : lk 240 66 = some (.iload 4, 68, 4, 0, .null) := by decide +kernel
theorem x_240_66 : Tr sc d 240 (66, [l0, l1, l2, l3, some (.int x), l5, l6], [.int i0], h) Q = Tr sc d 240 (68, [l0, l1, l2, l3, some (.int x), l5, l6], [.int x, .int i0], h) Q := t_iload k_240_66 rfl
theorem k_240_68 : lk 240 68 = some (.if_icmp .ge 37, 71, 105, 0, .null) := by decide +kernel
theorem x_240_68 : Tr sc d 240 (68, [l0, l1, l2, l3, l4, l5, l6], [.int i1, .int i0], h) Q = if i1 ≤ i0 then Tr sc d 240 (105, [l0, l1, l2, l3, l4, l5, l6], [], h) Q else Tr sc d 240 (71, [l0, l1, l2, l3, l4, l5, l6], [], h) Q := t_if k_240_68 rfl
theorem k_240_71 : lk 240 71 = some (.aload_n 0, 72, 0, 0, .null) := by decide +kernel
theorem x_240_71 : Tr sc d 240 (71, [some (.ref xk), l1, l2, l3, l4, l5, l6], [], h) Q = Tr sc d 240 (72, [some (.ref xk), l1, l2, l3, l4, l5, l6], [.ref xk], h) Q := t_aload_n k_240_71 rfl
theorem k_240_72 : lk 240 72 = some (.getfield 128, 75, 10, 60, .null) := by decide +kernel
theorem x_240_72 : Tr sc d 240 (72, [l0, l1, l2, l3, l4, l5, l6], [.ref k0], h) Q = (okp h k0 10 = true ∧ ∃ q, hR h k0 60 = some q ∧ Tr sc d 240 (75, [l0, l1, l2, l3, l4, l5, l6], [.ref q], h) Q) := t_getr k_240_72
theorem k_240_75 : lk 240 75 = some (.iload 5, 77, 5, 0, .null) := by decide +kernel
theorem x_240_75 : Tr sc d 240 (75, [l0, l1, l2, l3, l4, some (.int x), l6], [.ref k0], h) Q = Tr sc d 240 (77, [l0, l1, l2, l3, l4, some (.int x), l6], [.int x, .ref k0], h) Q := t_iload k_240_75 rfl
theorem k_240_77 : lk 240 77 = some (.aload_n 0, 78, 0, 0, .null) := by decide +kernel
theorem x_240_77 : Tr sc d 240 (77, [some (.ref xk), l1, l2, l3, l4, l5, l6], [.int i1, .ref k0], h) Q = Tr sc d 240 (78, [some (.ref xk), l1, l2, l3, l4, l5, l6], [.ref xk, .int i1, .ref k0], h) Q := t_aload_n k_240_77 rfl
theorem k_240_78 : lk 240 78 = some (.getfield 78, 81, 10, 39, .null) := by decide +kernel
theorem x_240_78 : Tr sc d 240 (78, [l0, l1, l2, l3, l4, l5, l6], [.ref k2, .int i1, .ref k0], h) Q = (okp h k2 10 = true ∧ ∃ q, hR h k2 39 = some q ∧ Tr sc d 240 (81, [l0, l1, l2, l3, l4, l5, l6], [.ref q, .int i1, .ref k0], h) Q) := t_getr k_240_78
theorem k_240_81 : lk 240 81 = some (.iload 5, 83, 5, 0, .null) := by decide +kernel
theorem x_240_81 : Tr sc d 240 (81, [l0, l1, l2, l3, l4, some (.int x), l6], [.ref k2, .int i1, .ref k0], h) Q = Tr sc d 240 (83, [l0, l1, l2, l3, l4, some (.int x), l6], [.int x, .ref k2, .int i1, .ref k0], h) Q := t_iload k_240_81 rfl
theorem k_240_83 : lk 240 83 = some (.iaload, 84, 0, 0, .null) := by decide +kernel
theorem x_240_83 : Tr sc d 240 (83, [l0, l1, l2, l3, l4, l5, l6], [.int i3, .ref k2, .int i1, .ref k0], h) Q = (iOk sc h k2 i3 ∧ Tr sc d 240 (84, [l0, l1, l2, l3, l4, l5, l6], [.int (iRd sc h k2 i3), .int i1, .ref k0], h) Q) := t_iald k_240_83
theorem k_240_84 : lk 240 84 = some (.iastore, 85, 0, 0, .null) := by decide +kernel
theorem x_240_84 : Tr sc d 240 (84, [l0, l1, l2, l3, l4, l5, l6], [.int i2, .int i1, .ref k0], h) Q = ((okp h k0 11 && inb i1 (LN k0)) = true ∧ Tr sc d 240 (85, [l0, l1, l2, l3, l4, l5, l6], [], (sI h k0 i1.toNatClampNeg i2)) Q) := t_gd k_240_84 rfl
theorem k_240_85 : lk 240 85 = some (.aload_n 0, 86, 0, 0, .null) := by decide +kernel
theorem x_240_85 : Tr sc d 240 (85, [some (.ref xk), l1, l2, l3, l4, l5, l6], [], h) Q = Tr sc d 240 (86, [some (.ref xk), l1, l2, l3, l4, l5, l6], [.ref xk], h) Q := t_aload_n k_240_85 rfl
theorem k_240_86 : lk 240 86 = some (.getfield 131, 89, 10, 61, .null) := by decide +kernel
theorem x_240_86 : Tr sc d 240 (86, [l0, l1, l2, l3, l4, l5, l6], [.ref k0], h) Q = (okp h k0 10 = true ∧ ∃ q, hR h k0 61 = some q ∧ Tr sc d 240 (89, [l0, l1, l2, l3, l4, l5, l6], [.ref q], h) Q) := t_getr k_240_86
theorem k_240_89 : lk 240 89 = some (.iload 5, 91, 5, 0, .null) := by decide +kernel
theorem x_240_89 : Tr sc d 240 (89, [l0, l1, l2, l3, l4, some (.int x), l6], [.ref k0], h) Q = Tr sc d 240 (91, [l0, l1, l2, l3, l4, some (.int x), l6], [.int x, .ref k0], h) Q := t_iload k_240_89 rfl
theorem k_240_91 : lk 240 91 = some (.aload_n 0, 92, 0, 0, .null) := by decide +kernel
theorem x_240_91 : Tr sc d 240 (91, [some (.ref xk), l1, l2, l3, l4, l5, l6], [.int i1, .ref k0], h) Q = Tr sc d 240 (92, [some (.ref xk), l1, l2, l3, l4, l5, l6], [.ref xk, .int i1, .ref k0], h) Q := t_aload_n k_240_91 rfl
theorem k_240_92 : lk 240 92 = some (.getfield 81, 95, 10, 40, .null) := by decide +kernel
theorem x_240_92 : Tr sc d 240 (92, [l0, l1, l2, l3, l4, l5, l6], [.ref k2, .int i1, .ref k0], h) Q = (okp h k2 10 = true ∧ ∃ q, hR h k2 40 = some q ∧ Tr sc d 240 (95, [l0, l1, l2, l3, l4, l5, l6], [.ref q, .int i1, .ref k0], h) Q) := t_getr k_240_92
theorem k_240_95 : lk 240 95 = some (.iload 5, 97, 5, 0, .null) := by decide +kernel
theorem x_240_95 : Tr sc d 240 (95, [l0, l1, l2, l3, l4, some (.int x), l6], [.ref k2, .int i1, .ref k0], h) Q = Tr sc d 240 (97, [l0, l1, l2, l3, l4, some (.int x), l6], [.int x, .ref k2, .int i1, .ref k0], h) Q := t_iload k_240_95 rfl
theorem k_240_97 : lk 240 97 = some (.iaload, 98, 0, 0, .null) := by decide +kernel
theorem x_240_97 : Tr sc d 240 (97, [l0, l1, l2, l3, l4, l5, l6], [.int i3, .ref k2, .int i1, .ref k0], h) Q = (iOk sc h k2 i3 ∧ Tr sc d 240 (98, [l0, l1, l2, l3, l4, l5, l6], [.int (iRd sc h k2 i3), .int i1, .ref k0], h) Q) := t_iald k_240_97
theorem k_240_98 : lk 240 98 = some (.iastore, 99, 0, 0, .null) := by decide +kernel
theorem x_240_98 : Tr sc d 240 (98, [l0, l1, l2, l3, l4, l5, l6], [.int i2, .int i1, .ref k0], h) Q = ((okp h k0 11 && inb i1 (LN k0)) = true ∧ Tr sc d 240 (99, [l0, l1, l2, l3, l4, l5, l6], [], (sI h k0 i1.toNatClampNeg i2)) Q) := t_gd k_240_98 rfl
theorem k_240_99 : lk 240 99 = some (.iinc 5 1, 102, 5, 0, .int 1) := by decide +kernel
theorem x_240_99 : Tr sc d 240 (99, [l0, l1, l2, l3, l4, some (.int x), l6], [], h) Q = Tr sc d 240 (102, [l0, l1, l2, l3, cl2 l4, some (.int (x + 1)), l6], [], h) Q := t_inc k_240_99 rfl (Nat.le_of_ble_eq_true rfl)
theorem k_240_102 : lk 240 102 = some (.goto (-38), 105, 64, 0, .null) := by decide +kernel
theorem x_240_102 : Tr sc d 240 (102, [l0, l1, l2, l3, l4, l5, l6], [], h) Q = Tr sc d 240 (64, [l0, l1, l2, l3, l4, l5, l6], [], h) Q := t_go k_240_102 rfl
theorem k_240_105 : lk 240 105 = some (.aload_n 0, 106, 0, 0, .null) := by decide +kernel
theorem x_240_105 : Tr sc d 240 (105, [some (.ref xk), l1, l2, l3, l4, l5, l6], [], h) Q = Tr sc d 240 (106, [some (.ref xk), l1, l2, l3, l4, l5, l6], [.ref xk], h) Q := t_aload_n k_240_105 rfl
theorem k_240_106 : lk 240 106 = some (.iload_n 2, 107, 2, 0, .null) := by decide +kernel
theorem x_240_106 : Tr sc d 240 (106, [l0, l1, some (.int x), l3, l4, l5, l6], [.ref k0], h) Q = Tr sc d 240 (107, [l0, l1, some (.int x), l3, l4, l5, l6], [.int x, .ref k0], h) Q := t_iload_n k_240_106 rfl
theorem k_240_107 : lk 240 107 = some (.iload_n 3, 108, 3, 0, .null) := by decide +kernel
theorem x_240_107 : Tr sc d 240 (107, [l0, l1, l2, some (.int x), l4, l5, l6], [.int i1, .ref k0], h) Q = Tr sc d 240 (108, [l0, l1, l2, some (.int x), l4, l5, l6], [.int x, .int i1, .ref k0], h) Q := t_iload_n k_240_107 rfl
theorem k_240_108 : lk 240 108 = some (.invokevirtual 307, 111, 203, 2, .null) := by decide +kernel
theorem x_240_108 : Tr sc (d + 1) 240 (108, [l0, l1, l2, l3, l4, l5, l6], [.int i2, .int i1, .ref k0], h) Q = (okp h k0 10 = true ∧ Tr sc d 203 (ent0 203 [.ref k0, .int i1, .int i2] h) (fun z => Tr sc (d + 1) 240 (111, [l0, l1, l2, l3, l4, l5, l6], z.1.toList ++ [], z.2) Q)) := t_cv (as := [.int i1, .int i2]) (r := []) k_240_108 rfl rfl (Nat.le_of_ble_eq_true rfl) (Nat.le_of_ble_eq_true rfl) (Nat.le_of_ble_eq_true rfl)
theorem k_240_111 : lk 240 111 = some (.iload 4, 113, 4, 0, .null) := by decide +kernel
theorem x_240_111 : Tr sc d 240 (111, [l0, l1, l2, l3, some (.int x), l5, l6], [], h) Q = Tr sc d 240 (113, [l0, l1, l2, l3, some (.int x), l5, l6], [.int x], h) Q := t_iload k_240_111 rfl
theorem k_240_113 : lk 240 113 = some (.aload_n 0, 114, 0, 0, .null) := by decide +kernel
theorem x_240_113 : Tr sc d 240 (113, [some (.ref xk), l1, l2, l3, l4, l5, l6], [.int i0], h) Q = Tr sc d 240 (114, [some (.ref xk), l1, l2, l3, l4, l5, l6], [.ref xk, .int i0], h) Q := t_aload_n k_240_113 rfl
theorem k_240_114 : lk 240 114 = some (.getfield 283, 117, 10, 36, .int 0) := by decide +kernel
theorem x_240_114 : Tr sc d 240 (114, [l0, l1, l2, l3, l4, l5, l6], [.ref k1, .int i0], h) Q = (okp h k1 10 = true ∧ Tr sc d 240 (117, [l0, l1, l2, l3, l4, l5, l6], [.int (hI h k1 36), .int i0], h) Q) := t_gd k_240_114 rfl
theorem k_240_117 : lk 240 117 = some (.if_icmp .ne 7, 120, 124, 0, .null) := by decide +kernel
theorem x_240_117 : Tr sc d 240 (117, [l0, l1, l2, l3, l4, l5, l6], [.int i1, .int i0], h) Q = if i0 = i1 then Tr sc d 240 (120, [l0, l1, l2, l3, l4, l5, l6], [], h) Q else Tr sc d 240 (124, [l0, l1, l2, l3, l4, l5, l6], [], h) Q := t_if k_240_117 rfl
theorem k_240_120 : lk 240 120 = some (.iconst 1, 121, 0, 0, .int 1) := by decide +kernel
theorem x_240_120 : Tr sc d 240 (120, [l0, l1, l2, l3, l4, l5, l6], [], h) Q = Tr sc d 240 (121, [l0, l1, l2, l3, l4, l5, l6], [.int 1], h) Q := t_go k_240_120 rfl
theorem k_240_121 : lk 240 121 = some (.goto 4, 124, 125, 0, .null) := by decide +kernel
theorem x_240_121 : Tr sc d 240 (121, [l0, l1, l2, l3, l4, l5, l6], [.int i0], h) Q = Tr sc d 240 (125, [l0, l1, l2, l3, l4, l5, l6], [.int i0], h) Q := t_go k_240_121 rfl
theorem k_240_124 : lk 240 124 = some (.iconst 0, 125, 0, 0, .int 0) := by decide +kernel
theorem x_240_124 : Tr sc d 240 (124, [l0, l1, l2, l3, l4, l5, l6], [], h) Q = Tr sc d 240 (125, [l0, l1, l2, l3, l4, l5, l6], [.int 0], h) Q := t_go k_240_124 rfl
theorem k_240_125 : lk 240 125 = some (.istore 5, 127, 5, 0, .null) := by decide +kernel
theorem x_240_125 : Tr sc d 240 (125, [l0, l1, l2, l3, l4, l5, l6], [.int i0], h) Q = Tr sc d 240 (127, [l0, l1, l2, l3, cl2 l4, some (.int i0), l6], [], h) Q := t_istore k_240_125 (Nat.le_of_ble_eq_true rfl)
theorem k_240_127 : lk 240 127 = some (.iconst 0, 128, 0, 0, .int 0) := by decide +kernel
theorem x_240_127 : Tr sc d 240 (127, [l0, l1, l2, l3, l4, l5, l6], [], h) Q = Tr sc d 240 (128, [l0, l1, l2, l3, l4, l5, l6], [.int 0], h) Q := t_go k_240_127 rfl
theorem k_240_128 : lk 240 128 = some (.istore 6, 130, 6, 0, .null) := by decide +kernel
theorem x_240_128 : Tr sc d 240 (128, [l0, l1, l2, l3, l4, l5, l6], [.int i0], h) Q = Tr sc d 240 (130, [l0, l1, l2, l3, l4, cl2 l5, some (.int i0)], [], h) Q := t_istore k_240_128 (Nat.le_of_ble_eq_true rfl)
theorem k_240_130 : lk 240 130 = some (.iload 6, 132, 6, 0, .null) := by decide +kernel
theorem x_240_130 : Tr sc d 240 (130, [l0, l1, l2, l3, l4, l5, some (.int x)], [], h) Q = Tr sc d 240 (132, [l0, l1, l2, l3, l4, l5, some (.int x)], [.int x], h) Q := t_iload k_240_130 rfl
theorem k_240_132 : lk 240 132 = some (.iload 4, 134, 4, 0, .null) := by decide +kernel
theorem x_240_132 : Tr sc d 240 (132, [l0, l1, l2, l3, some (.int x), l5, l6], [.int i0], h) Q = Tr sc d 240 (134, [l0, l1, l2, l3, some (.int x), l5, l6], [.int x, .int i0], h) Q := t_iload k_240_132 rfl
theorem k_240_134 : lk 240 134 = some (.if_icmp .ge 83, 137, 217, 0, .null) := by decide +kernel
theorem x_240_134 : Tr sc d 240 (134, [l0, l1, l2, l3, l4, l5, l6], [.int i1, .int i0], h) Q = if i1 ≤ i0 then Tr sc d 240 (217, [l0, l1, l2, l3, l4, l5, l6], [], h) Q else Tr sc d 240 (137, [l0, l1, l2, l3, l4, l5, l6], [], h) Q := t_if k_240_134 rfl
theorem k_240_137 : lk 240 137 = some (.iload 5, 139, 5, 0, .null) := by decide +kernel
theorem x_240_137 : Tr sc d 240 (137, [l0, l1, l2, l3, l4, some (.int x), l6], [], h) Q = Tr sc d 240 (139, [l0, l1, l2, l3, l4, some (.int x), l6], [.int x], h) Q := t_iload k_240_137 rfl
theorem k_240_139 : lk 240 139 = some (.ifCond .eq 78, 142, 217, 0, .null) := by decide +kernel
theorem x_240_139 : Tr sc d 240 (139, [l0, l1, l2, l3, l4, l5, l6], [.int i0], h) Q = if i0 = 0 then Tr sc d 240 (217, [l0, l1, l2, l3, l4, l5, l6], [], h) Q else Tr sc d 240 (142, [l0, l1, l2, l3, l4, l5, l6], [], h) Q := t_if k_240_139 rfl
theorem k_240_142 : lk 240 142 = some (.aload_n 0, 143, 0, 0, .null) := by decide +kernel
theorem x_240_142 : Tr sc d 240 (142, [some (.ref xk), l1, l2, l3, l4, l5, l6], [], h) Q = Tr sc d 240 (143, [some (.ref xk), l1, l2, l3, l4, l5, l6], [.ref xk], h) Q := t_aload_n k_240_142 rfl
theorem k_240_143 : lk 240 143 = some (.getfield 78, 146, 10, 39, .null) := by decide +kernel
theorem x_240_143 : Tr sc d 240 (143, [l0, l1, l2, l3, l4, l5, l6], [.ref k0], h) Q = (okp h k0 10 = true ∧ ∃ q, hR h k0 39 = some q ∧ Tr sc d 240 (146, [l0, l1, l2, l3, l4, l5, l6], [.ref q], h) Q) := t_getr k_240_143
theorem k_240_146 : lk 240 146 = some (.iload 6, 148, 6, 0, .null) := by decide +kernel
theorem x_240_146 : Tr sc d 240 (146, [l0, l1, l2, l3, l4, l5, some (.int x)], [.ref k0], h) Q = Tr sc d 240 (148, [l0, l1, l2, l3, l4, l5, some (.int x)], [.int x, .ref k0], h) Q := t_iload k_240_146 rfl
theorem k_240_148 : lk 240 148 = some (.iaload, 149, 0, 0, .null) := by decide +kernel
theorem x_240_148 : Tr sc d 240 (148, [l0, l1, l2, l3, l4, l5, l6], [.int i1, .ref k0], h) Q = (iOk sc h k0 i1 ∧ Tr sc d 240 (149, [l0, l1, l2, l3, l4, l5, l6], [.int (iRd sc h k0 i1)], h) Q) := t_iald k_240_148
theorem k_240_149 : lk 240 149 = some (.aload_n 0, 150, 0, 0, .null) := by decide +kernel
theorem x_240_149 : Tr sc d 240 (149, [some (.ref xk), l1, l2, l3, l4, l5, l6], [.int i0], h) Q = Tr sc d 240 (150, [some (.ref xk), l1, l2, l3, l4, l5, l6], [.ref xk, .int i0], h) Q := t_aload_n k_240_149 rfl
theorem k_240_150 : lk 240 150 = some (.getfield 128, 153, 10, 60, .null) := by decide +kernel
theorem x_240_150 : Tr sc d 240 (150, [l0, l1, l2, l3, l4, l5, l6], [.ref k1, .int i0], h) Q = (okp h k1 10 = true ∧ ∃ q, hR h k1 60 = some q ∧ Tr sc d 240 (153, [l0, l1, l2, l3, l4, l5, l6], [.ref q, .int i0], h) Q) := t_getr k_240_150
theorem k_240_153 : lk 240 153 = some (.iload 6, 155, 6, 0, .null) := by decide +kernel
theorem x_240_153 : Tr sc d 240 (153, [l0, l1, l2, l3, l4, l5, some (.int x)], [.ref k1, .int i0], h) Q = Tr sc d 240 (155, [l0, l1, l2, l3, l4, l5, some (.int x)], [.int x, .ref k1, .int i0], h) Q := t_iload k_240_153 rfl
theorem k_240_155 : lk 240 155 = some (.iaload, 156, 0, 0, .null) := by decide +kernel
theorem x_240_155 : Tr sc d 240 (155, [l0, l1, l2, l3, l4, l5, l6], [.int i2, .ref k1, .int i0], h) Q = (iOk sc h k1 i2 ∧ Tr sc d 240 (156, [l0, l1, l2, l3, l4, l5, l6], [.int (iRd sc h k1 i2), .int i0], h) Q) := t_iald k_240_155
theorem k_240_156 : lk 240 156 = some (.isub, 157, 0, 0, .null) := by decide +kernel
theorem x_240_156 : Tr sc d 240 (156, [l0, l1, l2, l3, l4, l5, l6], [.int i1, .int i0], h) Q = Tr sc d 240 (157, [l0, l1, l2, l3, l4, l5, l6], [.int (i0 - i1)], h) Q := t_go k_240_156 rfl
theorem k_240_157 : lk 240 157 = some (.aload_n 0, 158, 0, 0, .null) := by decide +kernel
theorem x_240_157 : Tr sc d 240 (157, [some (.ref xk), l1, l2, l3, l4, l5, l6], [.int i0], h) Q = Tr sc d 240 (158, [some (.ref xk), l1, l2, l3, l4, l5, l6], [.ref xk, .int i0], h) Q := t_aload_n k_240_157 rfl
theorem k_240_158 : lk 240 158 = some (.getfield 78, 161, 10, 39, .null) := by decide +kernel
theorem x_240_158 : Tr sc d 240 (158, [l0, l1, l2, l3, l4, l5, l6], [.ref k1, .int i0], h) Q = (okp h k1 10 = true ∧ ∃ q, hR h k1 39 = some q ∧ Tr sc d 240 (161, [l0, l1, l2, l3, l4, l5, l6], [.ref q, .int i0], h) Q) := t_getr k_240_158
theorem k_240_161 : lk 240 161 = some (.iconst 0, 162, 0, 0, .int 0) := by decide +kernel
theorem x_240_161 : Tr sc d 240 (161, [l0, l1, l2, l3, l4, l5, l6], [.ref k1, .int i0], h) Q = Tr sc d 240 (162, [l0, l1, l2, l3, l4, l5, l6], [.int 0, .ref k1, .int i0], h) Q := t_go k_240_161 rfl
theorem k_240_162 : lk 240 162 = some (.iaload, 163, 0, 0, .null) := by decide +kernel
theorem x_240_162 : Tr sc d 240 (162, [l0, l1, l2, l3, l4, l5, l6], [.int i2, .ref k1, .int i0], h) Q = (iOk sc h k1 i2 ∧ Tr sc d 240 (163, [l0, l1, l2, l3, l4, l5, l6], [.int (iRd sc h k1 i2), .int i0], h) Q) := t_iald k_240_162
theorem k_240_163 : lk 240 163 = some (.aload_n 0, 164, 0, 0, .null) := by decide +kernel
theorem x_240_163 : Tr sc d 240 (163, [some (.ref xk), l1, l2, l3, l4, l5, l6], [.int i1, .int i0], h) Q = Tr sc d 240 (164, [some (.ref xk), l1, l2, l3, l4, l5, l6], [.ref xk, .int i1, .int i0], h) Q := t_aload_n k_240_163 rfl
theorem k_240_164 : lk 240 164 = some (.getfield 128, 167, 10, 60, .null) := by decide +kernel
theorem x_240_164 : Tr sc d 240 (164, [l0, l1, l2, l3, l4, l5, l6], [.ref k2, .int i1, .int i0], h) Q = (okp h k2 10 = true ∧ ∃ q, hR h k2 60 = some q ∧ Tr sc d 240 (167, [l0, l1, l2, l3, l4, l5, l6], [.ref q, .int i1, .int i0], h) Q) := t_getr k_240_164
theorem k_240_167 : lk 240 167 = some (.iconst 0, 168, 0, 0, .int 0) := by decide +kernel
theorem x_240_167 : Tr sc d 240 (167, [l0, l1, l2, l3, l4, l5, l6], [.ref k2, .int i1, .int i0], h) Q = Tr sc d 240 (168, [l0, l1, l2, l3, l4, l5, l6], [.int 0, .ref k2, .int i1, .int i0], h) Q := t_go k_240_167 rfl
theorem k_240_168 : lk 240 168 = some (.iaload, 169, 0, 0, .null) := by decide +kernel
theorem x_240_168 : Tr sc d 240 (168, [l0, l1, l2, l3, l4, l5, l6], [.int i3, .ref k2, .int i1, .int i0], h) Q = (iOk sc h k2 i3 ∧ Tr sc d 240 (169, [l0, l1, l2, l3, l4, l5, l6], [.int (iRd sc h k2 i3), .int i1, .int i0], h) Q) := t_iald k_240_168
theorem k_240_169 : lk 240 169 = some (.isub, 170, 0, 0, .null) := by decide +kernel
theorem x_240_169 : Tr sc d 240 (169, [l0, l1, l2, l3, l4, l5, l6], [.int i2, .int i1, .int i0], h) Q = Tr sc d 240 (170, [l0, l1, l2, l3, l4, l5, l6], [.int (i1 - i2), .int i0], h) Q := t_go k_240_169 rfl
theorem k_240_170 : lk 240 170 = some (.if_icmp .ne 38, 173, 208, 0, .null) := by decide +kernel
theorem x_240_170 : Tr sc d 240 (170, [l0, l1, l2, l3, l4, l5, l6], [.int i1, .int i0], h) Q = if i0 = i1 then Tr sc d 240 (173, [l0, l1, l2, l3, l4, l5, l6], [], h) Q else Tr sc d 240 (208, [l0, l1, l2, l3, l4, l5, l6], [], h) Q := t_if k_240_170 rfl
theorem k_240_173 : lk 240 173 = some (.aload_n 0, 174, 0, 0, .null) := by decide +kernel
theorem x_240_173 : Tr sc d 240 (173, [some (.ref xk), l1, l2, l3, l4, l5, l6], [], h) Q = Tr sc d 240 (174, [some (.ref xk), l1, l2, l3, l4, l5, l6], [.ref xk], h) Q := t_aload_n k_240_173 rfl
theorem k_240_174 : lk 240 174 = some (.getfield 81, 177, 10, 40, .null) := by decide +kernel
theorem x_240_174 : Tr sc d 240 (174, [l0, l1, l2, l3, l4, l5, l6], [.ref k0], h) Q = (okp h k0 10 = true ∧ ∃ q, hR h k0 40 = some q ∧ Tr sc d 240 (177, [l0, l1, l2, l3, l4, l5, l6], [.ref q], h) Q) := t_getr k_240_174
theorem k_240_177 : lk 240 177 = some (.iload 6, 179, 6, 0, .null) := by decide +kernel
theorem x_240_177 : Tr sc d 240 (177, [l0, l1, l2, l3, l4, l5, some (.int x)], [.ref k0], h) Q = Tr sc d 240 (179, [l0, l1, l2, l3, l4, l5, some (.int x)], [.int x, .ref k0], h) Q := t_iload k_240_177 rfl
theorem k_240_179 : lk 240 179 = some (.iaload, 180, 0, 0, .null) := by decide +kernel
theorem x_240_179 : Tr sc d 240 (179, [l0, l1, l2, l3, l4, l5, l6], [.int i1, .ref k0], h) Q = (iOk sc h k0 i1 ∧ Tr sc d 240 (180, [l0, l1, l2, l3, l4, l5, l6], [.int (iRd sc h k0 i1)], h) Q) := t_iald k_240_179
theorem k_240_180 : lk 240 180 = some (.aload_n 0, 181, 0, 0, .null) := by decide +kernel
theorem x_240_180 : Tr sc d 240 (180, [some (.ref xk), l1, l2, l3, l4, l5, l6], [.int i0], h) Q = Tr sc d 240 (181, [some (.ref xk), l1, l2, l3, l4, l5, l6], [.ref xk, .int i0], h) Q := t_aload_n k_240_180 rfl
theorem k_240_181 : lk 240 181 = some (.getfield 131, 184, 10, 61, .null) := by decide +kernel
theorem x_240_181 : Tr sc d 240 (181, [l0, l1, l2, l3, l4, l5, l6], [.ref k1, .int i0], h) Q = (okp h k1 10 = true ∧ ∃ q, hR h k1 61 = some q ∧ Tr sc d 240 (184, [l0, l1, l2, l3, l4, l5, l6], [.ref q, .int i0], h) Q) := t_getr k_240_181
theorem k_240_184 : lk 240 184 = some (.iload 6, 186, 6, 0, .null) := by decide +kernel
theorem x_240_184 : Tr sc d 240 (184, [l0, l1, l2, l3, l4, l5, some (.int x)], [.ref k1, .int i0], h) Q = Tr sc d 240 (186, [l0, l1, l2, l3, l4, l5, some (.int x)], [.int x, .ref k1, .int i0], h) Q := t_iload k_240_184 rfl
theorem k_240_186 : lk 240 186 = some (.iaload, 187, 0, 0, .null) := by decide +kernel
theorem x_240_186 : Tr sc d 240 (186, [l0, l1, l2, l3, l4, l5, l6], [.int i2, .ref k1, .int i0], h) Q = (iOk sc h k1 i2 ∧ Tr sc d 240 (187, [l0, l1, l2, l3, l4, l5, l6], [.int (iRd sc h k1 i2), .int i0], h) Q) := t_iald k_240_186
theorem k_240_187 : lk 240 187 = some (.isub, 188, 0, 0, .null) := by decide +kernel
theorem x_240_187 : Tr sc d 240 (187, [l0, l1, l2, l3, l4, l5, l6], [.int i1, .int i0], h) Q = Tr sc d 240 (188, [l0, l1, l2, l3, l4, l5, l6], [.int (i0 - i1)], h) Q := t_go k_240_187 rfl
theorem k_240_188 : lk 240 188 = some (.aload_n 0, 189, 0, 0, .null) := by decide +kernel
theorem x_240_188 : Tr sc d 240 (188, [some (.ref xk), l1, l2, l3, l4, l5, l6], [.int i0], h) Q = Tr sc d 240 (189, [some (.ref xk), l1, l2, l3, l4, l5, l6], [.ref xk, .int i0], h) Q := t_aload_n k_240_188 rfl
theorem k_240_189 : lk 240 189 = some (.getfield 81, 192, 10, 40, .null) := by decide +kernel
theorem x_240_189 : Tr sc d 240 (189, [l0, l1, l2, l3, l4, l5, l6], [.ref k1, .int i0], h) Q = (okp h k1 10 = true ∧ ∃ q, hR h k1 40 = some q ∧ Tr sc d 240 (192, [l0, l1, l2, l3, l4, l5, l6], [.ref q, .int i0], h) Q) := t_getr k_240_189
theorem k_240_192 : lk 240 192 = some (.iconst 0, 193, 0, 0, .int 0) := by decide +kernel
theorem x_240_192 : Tr sc d 240 (192, [l0, l1, l2, l3, l4, l5, l6], [.ref k1, .int i0], h) Q = Tr sc d 240 (193, [l0, l1, l2, l3, l4, l5, l6], [.int 0, .ref k1, .int i0], h) Q := t_go k_240_192 rfl
theorem k_240_193 : lk 240 193 = some (.iaload, 194, 0, 0, .null) := by decide +kernel
theorem x_240_193 : Tr sc d 240 (193, [l0, l1, l2, l3, l4, l5, l6], [.int i2, .ref k1, .int i0], h) Q = (iOk sc h k1 i2 ∧ Tr sc d 240 (194, [l0, l1, l2, l3, l4, l5, l6], [.int (iRd sc h k1 i2), .int i0], h) Q) := t_iald k_240_193
theorem k_240_194 : lk 240 194 = some (.aload_n 0, 195, 0, 0, .null) := by decide +kernel
theorem x_240_194 : Tr sc d 240 (194, [some (.ref xk), l1, l2, l3, l4, l5, l6], [.int i1, .int i0], h) Q = Tr sc d 240 (195, [some (.ref xk), l1, l2, l3, l4, l5, l6], [.ref xk, .int i1, .int i0], h) Q := t_aload_n k_240_194 rfl
theorem k_240_195 : lk 240 195 = some (.getfield 131, 198, 10, 61, .null) := by decide +kernel
theorem x_240_195 : Tr sc d 240 (195, [l0, l1, l2, l3, l4, l5, l6], [.ref k2, .int i1, .int i0], h) Q = (okp h k2 10 = true ∧ ∃ q, hR h k2 61 = some q ∧ Tr sc d 240 (198, [l0, l1, l2, l3, l4, l5, l6], [.ref q, .int i1, .int i0], h) Q) := t_getr k_240_195
theorem k_240_198 : lk 240 198 = some (.iconst 0, 199, 0, 0, .int 0) := by decide +kernel
theorem x_240_198 : Tr sc d 240 (198, [l0, l1, l2, l3, l4, l5, l6], [.ref k2, .int i1, .int i0], h) Q = Tr sc d 240 (199, [l0, l1, l2, l3, l4, l5, l6], [.int 0, .ref k2, .int i1, .int i0], h) Q := t_go k_240_198 rfl
theorem k_240_199 : lk 240 199 = some (.iaload, 200, 0, 0, .null) := by decide +kernel
theorem x_240_199 : Tr sc d 240 (199, [l0, l1, l2, l3, l4, l5, l6], [.int i3, .ref k2, .int i1, .int i0], h) Q = (iOk sc h k2 i3 ∧ Tr sc d 240 (200, [l0, l1, l2, l3, l4, l5, l6], [.int (iRd sc h k2 i3), .int i1, .int i0], h) Q) := t_iald k_240_199
theorem k_240_200 : lk 240 200 = some (.isub, 201, 0, 0, .null) := by decide +kernel
theorem x_240_200 : Tr sc d 240 (200, [l0, l1, l2, l3, l4, l5, l6], [.int i2, .int i1, .int i0], h) Q = Tr sc d 240 (201, [l0, l1, l2, l3, l4, l5, l6], [.int (i1 - i2), .int i0], h) Q := t_go k_240_200 rfl
theorem k_240_201 : lk 240 201 = some (.if_icmp .ne 7, 204, 208, 0, .null) := by decide +kernel
theorem x_240_201 : Tr sc d 240 (201, [l0, l1, l2, l3, l4, l5, l6], [.int i1, .int i0], h) Q = if i0 = i1 then Tr sc d 240 (204, [l0, l1, l2, l3, l4, l5, l6], [], h) Q else Tr sc d 240 (208, [l0, l1, l2, l3, l4, l5, l6], [], h) Q := t_if k_240_201 rfl
theorem k_240_204 : lk 240 204 = some (.iconst 1, 205, 0, 0, .int 1) := by decide +kernel
theorem x_240_204 : Tr sc d 240 (204, [l0, l1, l2, l3, l4, l5, l6], [], h) Q = Tr sc d 240 (205, [l0, l1, l2, l3, l4, l5, l6], [.int 1], h) Q := t_go k_240_204 rfl
theorem k_240_205 : lk 240 205 = some (.goto 4, 208, 209, 0, .null) := by decide +kernel
theorem x_240_205 : Tr sc d 240 (205, [l0, l1, l2, l3, l4, l5, l6], [.int i0], h) Q = Tr sc d 240 (209, [l0, l1, l2, l3, l4, l5, l6], [.int i0], h) Q := t_go k_240_205 rfl
theorem k_240_208 : lk 240 208 = some (.iconst 0, 209, 0, 0, .int 0) := by decide +kernel
theorem x_240_208 : Tr sc d 240 (208, [l0, l1, l2, l3, l4, l5, l6], [], h) Q = Tr sc d 240 (209, [l0, l1, l2, l3, l4, l5, l6], [.int 0], h) Q := t_go k_240_208 rfl
theorem k_240_209 : lk 240 209 = some (.istore 5, 211, 5, 0, .null) := by decide +kernel
theorem x_240_209 : Tr sc d 240 (209, [l0, l1, l2, l3, l4, l5, l6], [.int i0], h) Q = Tr sc d 240 (211, [l0, l1, l2, l3, cl2 l4, some (.int i0), l6], [], h) Q := t_istore k_240_209 (Nat.le_of_ble_eq_true rfl)
theorem k_240_211 : lk 240 211 = some (.iinc 6 1, 214, 6, 0, .int 1) := by decide +kernel
theorem x_240_211 : Tr sc d 240 (211, [l0, l1, l2, l3, l4, l5, some (.int x)], [], h) Q = Tr sc d 240 (214, [l0, l1, l2, l3, l4, cl2 l5, some (.int (x + 1))], [], h) Q := t_inc k_240_211 rfl (Nat.le_of_ble_eq_true rfl)
theorem k_240_214 : lk 240 214 = some (.goto (-84), 217, 130, 0, .null) := by decide +kernel
theorem x_240_214 : Tr sc d 240 (214, [l0, l1, l2, l3, l4, l5, l6], [], h) Q = Tr sc d 240 (130, [l0, l1, l2, l3, l4, l5, l6], [], h) Q := t_go k_240_214 rfl
theorem k_240_217 : lk 240 217 = some (.iload 5, 219, 5, 0, .null) := by decide +kernel
theorem x_240_217 : Tr sc d 240 (217, [l0, l1, l2, l3, l4, some (.int x), l6], [], h) Q = Tr sc d 240 (219, [l0, l1, l2, l3, l4, some (.int x), l6], [.int x], h) Q := t_iload k_240_217 rfl
theorem k_240_219 : lk 240 219 = some (.ifCond .eq 33, 222, 252, 0, .null) := by decide +kernel
theorem x_240_219 : Tr sc d 240 (219, [l0, l1, l2, l3, l4, l5, l6], [.int i0], h) Q = if i0 = 0 then Tr sc d 240 (252, [l0, l1, l2, l3, l4, l5, l6], [], h) Q else Tr sc d 240 (222, [l0, l1, l2, l3, l4, l5, l6], [], h) Q := t_if k_240_219 rfl
theorem k_240_222 : lk 240 222 = some (.aload_n 0, 223, 0, 0, .null) := by decide +kernel
theorem x_240_222 : Tr sc d 240 (222, [some (.ref xk), l1, l2, l3, l4, l5, l6], [], h) Q = Tr sc d 240 (223, [some (.ref xk), l1, l2, l3, l4, l5, l6], [.ref xk], h) Q := t_aload_n k_240_222 rfl
theorem k_240_223 : lk 240 223 = some (.iload 4, 225, 4, 0, .null) := by decide +kernel
theorem x_240_223 : Tr sc d 240 (223, [l0, l1, l2, l3, some (.int x), l5, l6], [.ref k0], h) Q = Tr sc d 240 (225, [l0, l1, l2, l3, some (.int x), l5, l6], [.int x, .ref k0], h) Q := t_iload k_240_223 rfl
theorem k_240_225 : lk 240 225 = some (.ifCond .ne 7, 228, 232, 0, .null) := by decide +kernel
theorem x_240_225 : Tr sc d 240 (225, [l0, l1, l2, l3, l4, l5, l6], [.int i1, .ref k0], h) Q = if i1 = 0 then Tr sc d 240 (228, [l0, l1, l2, l3, l4, l5, l6], [.ref k0], h) Q else Tr sc d 240 (232, [l0, l1, l2, l3, l4, l5, l6], [.ref k0], h) Q := t_if k_240_225 rfl
theorem k_240_228 : lk 240 228 = some (.iconst 0, 229, 0, 0, .int 0) := by decide +kernel
theorem x_240_228 : Tr sc d 240 (228, [l0, l1, l2, l3, l4, l5, l6], [.ref k0], h) Q = Tr sc d 240 (229, [l0, l1, l2, l3, l4, l5, l6], [.int 0, .ref k0], h) Q := t_go k_240_228 rfl
theorem k_240_229 : lk 240 229 = some (.goto 16, 232, 245, 0, .null) := by decide +kernel
theorem x_240_229 : Tr sc d 240 (229, [l0, l1, l2, l3, l4, l5, l6], [.int i1, .ref k0], h) Q = Tr sc d 240 (245, [l0, l1, l2, l3, l4, l5, l6], [.int i1, .ref k0], h) Q := t_go k_240_229 rfl
theorem k_240_232 : lk 240 232 = some (.aload_n 0, 233, 0, 0, .null) := by decide +kernel
theorem x_240_232 : Tr sc d 240 (232, [some (.ref xk), l1, l2, l3, l4, l5, l6], [.ref k0], h) Q = Tr sc d 240 (233, [some (.ref xk), l1, l2, l3, l4, l5, l6], [.ref xk, .ref k0], h) Q := t_aload_n k_240_232 rfl
theorem k_240_233 : lk 240 233 = some (.getfield 78, 236, 10, 39, .null) := by decide +kernel
theorem x_240_233 : Tr sc d 240 (233, [l0, l1, l2, l3, l4, l5, l6], [.ref k1, .ref k0], h) Q = (okp h k1 10 = true ∧ ∃ q, hR h k1 39 = some q ∧ Tr sc d 240 (236, [l0, l1, l2, l3, l4, l5, l6], [.ref q, .ref k0], h) Q) := t_getr k_240_233
theorem k_240_236 : lk 240 236 = some (.iconst 0, 237, 0, 0, .int 0) := by decide +kernel
theorem x_240_236 : Tr sc d 240 (236, [l0, l1, l2, l3, l4, l5, l6], [.ref k1, .ref k0], h) Q = Tr sc d 240 (237, [l0, l1, l2, l3, l4, l5, l6], [.int 0, .ref k1, .ref k0], h) Q := t_go k_240_236 rfl
theorem k_240_237 : lk 240 237 = some (.iaload, 238, 0, 0, .null) := by decide +kernel
theorem x_240_237 : Tr sc d 240 (237, [l0, l1, l2, l3, l4, l5, l6], [.int i2, .ref k1, .ref k0], h) Q = (iOk sc h k1 i2 ∧ Tr sc d 240 (238, [l0, l1, l2, l3, l4, l5, l6], [.int (iRd sc h k1 i2), .ref k0], h) Q) := t_iald k_240_237
theorem k_240_238 : lk 240 238 = some (.aload_n 0, 239, 0, 0, .null) := by decide +kernel
theorem x_240_238 : Tr sc d 240 (238, [some (.ref xk), l1, l2, l3, l4, l5, l6], [.int i1, .ref k0], h) Q = Tr sc d 240 (239, [some (.ref xk), l1, l2, l3, l4, l5, l6], [.ref xk, .int i1, .ref k0], h) Q := t_aload_n k_240_238 rfl
theorem k_240_239 : lk 240 239 = some (.getfield 128, 242, 10, 60, .null) := by decide +kernel
theorem x_240_239 : Tr sc d 240 (239, [l0, l1, l2, l3, l4, l5, l6], [.ref k2, .int i1, .ref k0], h) Q = (okp h k2 10 = true ∧ ∃ q, hR h k2 60 = some q ∧ Tr sc d 240 (242, [l0, l1, l2, l3, l4, l5, l6], [.ref q, .int i1, .ref k0], h) Q) := t_getr k_240_239
theorem k_240_242 : lk 240 242 = some (.iconst 0, 243, 0, 0, .int 0) := by decide +kernel
theorem x_240_242 : Tr sc d 240 (242, [l0, l1, l2, l3, l4, l5, l6], [.ref k2, .int i1, .ref k0], h) Q = Tr sc d 240 (243, [l0, l1, l2, l3, l4, l5, l6], [.int 0, .ref k2, .int i1, .ref k0], h) Q := t_go k_240_242 rfl
theorem k_240_243 : lk 240 243 = some (.iaload, 244, 0, 0, .null) := by decide +kernel
theorem x_240_243 : Tr sc d 240 (243, [l0, l1, l2, l3, l4, l5, l6], [.int i3, .ref k2, .int i1, .ref k0], h) Q = (iOk sc h k2 i3 ∧ Tr sc d 240 (244, [l0, l1, l2, l3, l4, l5, l6], [.int (iRd sc h k2 i3), .int i1, .ref k0], h) Q) := t_iald k_240_243
theorem k_240_244 : lk 240 244 = some (.isub, 245, 0, 0, .null) := by decide +kernel
theorem x_240_244 : Tr sc d 240 (244, [l0, l1, l2, l3, l4, l5, l6], [.int i2, .int i1, .ref k0], h) Q = Tr sc d 240 (245, [l0, l1, l2, l3, l4, l5, l6], [.int (i1 - i2), .ref k0], h) Q := t_go k_240_244 rfl
theorem k_240_245 : lk 240 245 = some (.iconst 1, 246, 0, 0, .int 1) := by decide +kernel
theorem x_240_245 : Tr sc d 240 (245, [l0, l1, l2, l3, l4, l5, l6], [.int i1, .ref k0], h) Q = Tr sc d 240 (246, [l0, l1, l2, l3, l4, l5, l6], [.int 1, .int i1, .ref k0], h) Q := t_go k_240_245 rfl
theorem k_240_246 : lk 240 246 = some (.invokevirtual 162, 249, 158, 2, .null) := by decide +kernel
theorem x_240_246 : Tr sc (d + 1) 240 (246, [l0, l1, l2, l3, l4, l5, l6], [.int i2, .int i1, .ref k0], h) Q = (okp h k0 10 = true ∧ Tr sc d 158 (ent0 158 [.ref k0, .int i1, .int i2] h) (fun z => Tr sc (d + 1) 240 (249, [l0, l1, l2, l3, l4, l5, l6], z.1.toList ++ [], z.2) Q)) := t_cv (as := [.int i1, .int i2]) (r := []) k_240_246 rfl rfl (Nat.le_of_ble_eq_true rfl) (Nat.le_of_ble_eq_true rfl) (Nat.le_of_ble_eq_true rfl)
theorem k_240_249 : lk 240 249 = some (.goto 4, 252, 253, 0, .null) := by decide +kernel
theorem x_240_249 : Tr sc d 240 (249, [l0, l1, l2, l3, l4, l5, l6], [.int i0], h) Q = Tr sc d 240 (253, [l0, l1, l2, l3, l4, l5, l6], [.int i0], h) Q := t_go k_240_249 rfl
theorem k_240_252 : lk 240 252 = some (.iconst 0, 253, 0, 0, .int 0) := by decide +kernel
theorem x_240_252 : Tr sc d 240 (252, [l0, l1, l2, l3, l4, l5, l6], [], h) Q = Tr sc d 240 (253, [l0, l1, l2, l3, l4, l5, l6], [.int 0], h) Q := t_go k_240_252 rfl
theorem k_240_253 : lk 240 253 = some (.ireturn, 254, 0, 0, .null) := by decide +kernel
theorem x_240_253 : Tr sc d 240 (253, [l0, l1, l2, l3, l4, l5, l6], [.int i0], h) Q = Q (some (.int i0), h) := t_ret k_240_253 (by rw [r_240]; rfl)
theorem e_240 : Tr sc d 240 (ent0 240 [.ref k0, .int i1, .int i2, .int i3] h) Q = Tr sc d 240 (0, [some (.ref k0), some (.int i1), some (.int i2), some (.int i3), none, none, none], [], h) Q := by
  have e : mL 240 = 7 := by decide +kernel
  unfold ent0
  rw [e]
  rfl
theorem r_241 : mR 241 = some .long := by decide +kernel
theorem k_241_0 : lk 241 0 = some (.aload_n 0, 1, 0, 0, .null) := by decide +kernel
theorem x_241_0 : Tr sc d 241 (0, [some (.ref xk)], [], h) Q = Tr sc d 241 (1, [some (.ref xk)], [.ref xk], h) Q := t_aload_n k_241_0 rfl
theorem k_241_1 : lk 241 1 = some (.getfield 267, 4, 10, 3, .long 0) := by decide +kernel
theorem x_241_1 : Tr sc d 241 (1, [l0], [.ref k0], h) Q = (okp h k0 10 = true ∧ Tr sc d 241 (4, [l0], [.long (hL h k0 3)], h) Q) := t_gd k_241_1 rfl
theorem k_241_4 : lk 241 4 = some (.lreturn, 5, 0, 0, .null) := by decide +kernel
theorem x_241_4 : Tr sc d 241 (4, [l0], [.long j0], h) Q = Q (some (.long j0), h) := t_ret k_241_4 (by rw [r_241]; rfl)
theorem e_241 : Tr sc d 241 (ent0 241 [.ref k0] h) Q = Tr sc d 241 (0, [some (.ref k0)], [], h) Q := by
  have e : mL 241 = 1 := by decide +kernel
  unfold ent0
  rw [e]
  rfl
theorem r_242 : mR 242 = some .int := by decide +kernel
theorem k_242_0 : lk 242 0 = some (.aload_n 0, 1, 0, 0, .null) := by decide +kernel
theorem x_242_0 : Tr sc d 242 (0, [some (.ref xk)], [], h) Q = Tr sc d 242 (1, [some (.ref xk)], [.ref xk], h) Q := t_aload_n k_242_0 rfl
theorem k_242_1 : lk 242 1 = some (.getfield 138, 4, 10, 2, .int 0) := by decide +kernel
theorem x_242_1 : Tr sc d 242 (1, [l0], [.ref k0], h) Q = (okp h k0 10 = true ∧ Tr sc d 242 (4, [l0], [.int (hI h k0 2)], h) Q) := t_gd k_242_1 rfl
theorem k_242_4 : lk 242 4 = some (.ireturn, 5, 0, 0, .null) := by decide +kernel
theorem x_242_4 : Tr sc d 242 (4, [l0], [.int i0], h) Q = Q (some (.int i0), h) := t_ret k_242_4 (by rw [r_242]; rfl)
theorem e_242 : Tr sc d 242 (ent0 242 [.ref k0] h) Q = Tr sc d 242 (0, [some (.ref k0)], [], h) Q := by
  have e : mL 242 = 1 := by decide +kernel
  unfold ent0
  rw [e]
  rfl
theorem r_243 : mR 243 = some .long := by decide +kernel
theorem k_243_0 : lk 243 0 = some (.aload_n 0, 1, 0, 0, .null) := by decide +kernel
theorem x_243_0 : Tr sc d 243 (0, [some (.ref xk)], [], h) Q = Tr sc d 243 (1, [some (.ref xk)], [.ref xk], h) Q := t_aload_n k_243_0 rfl
theorem k_243_1 : lk 243 1 = some (.getfield 141, 4, 10, 4, .long 0) := by decide +kernel
theorem x_243_1 : Tr sc d 243 (1, [l0], [.ref k0], h) Q = (okp h k0 10 = true ∧ Tr sc d 243 (4, [l0], [.long (hL h k0 4)], h) Q) := t_gd k_243_1 rfl
theorem k_243_4 : lk 243 4 = some (.lreturn, 5, 0, 0, .null) := by decide +kernel
theorem x_243_4 : Tr sc d 243 (4, [l0], [.long j0], h) Q = Q (some (.long j0), h) := t_ret k_243_4 (by rw [r_243]; rfl)
theorem e_243 : Tr sc d 243 (ent0 243 [.ref k0] h) Q = Tr sc d 243 (0, [some (.ref k0)], [], h) Q := by
  have e : mL 243 = 1 := by decide +kernel
  unfold ent0
  rw [e]
  rfl
theorem r_244 : mR 244 = some .long := by decide +kernel
theorem k_244_0 : lk 244 0 = some (.aload_n 0, 1, 0, 0, .null) := by decide +kernel
theorem x_244_0 : Tr sc d 244 (0, [some (.ref xk)], [], h) Q = Tr sc d 244 (1, [some (.ref xk)], [.ref xk], h) Q := t_aload_n k_244_0 rfl
theorem k_244_1 : lk 244 1 = some (.getfield 13, 4, 10, 5, .long 0) := by decide +kernel
theorem x_244_1 : Tr sc d 244 (1, [l0], [.ref k0], h) Q = (okp h k0 10 = true ∧ Tr sc d 244 (4, [l0], [.long (hL h k0 5)], h) Q) := t_gd k_244_1 rfl
theorem k_244_4 : lk 244 4 = some (.lreturn, 5, 0, 0, .null) := by decide +kernel
theorem x_244_4 : Tr sc d 244 (4, [l0], [.long j0], h) Q = Q (some (.long j0), h) := t_ret k_244_4 (by rw [r_244]; rfl)
theorem e_244 : Tr sc d 244 (ent0 244 [.ref k0] h) Q = Tr sc d 244 (0, [some (.ref k0)], [], h) Q := by
  have e : mL 244 = 1 := by decide +kernel
  unfold ent0
  rw [e]
  rfl
theorem r_245 : mR 245 = some .int := by decide +kernel
theorem k_245_0 : lk 245 0 = some (.iconst 0, 1, 0, 0, .int 0) := by decide +kernel
theorem x_245_0 : Tr sc d 245 (0, [l0, l1, l2, l3], [], h) Q = Tr sc d 245 (1, [l0, l1, l2, l3], [.int 0], h) Q := t_go k_245_0 rfl
theorem k_245_1 : lk 245 1 = some (.istore_n 2, 2, 2, 0, .null) := by decide +kernel
theorem x_245_1 : Tr sc d 245 (1, [l0, l1, l2, l3], [.int i0], h) Q = Tr sc d 245 (2, [l0, cl2 l1, some (.int i0), l3], [], h) Q := t_istore_n k_245_1 (Nat.le_of_ble_eq_true rfl)
theorem k_245_2 : lk 245 2 = some (.iconst 0, 3, 0, 0, .int 0) := by decide +kernel
theorem x_245_2 : Tr sc d 245 (2, [l0, l1, l2, l3], [], h) Q = Tr sc d 245 (3, [l0, l1, l2, l3], [.int 0], h) Q := t_go k_245_2 rfl
theorem k_245_3 : lk 245 3 = some (.istore_n 3, 4, 3, 0, .null) := by decide +kernel
theorem x_245_3 : Tr sc d 245 (3, [l0, l1, l2, l3], [.int i0], h) Q = Tr sc d 245 (4, [l0, l1, cl2 l2, some (.int i0)], [], h) Q := t_istore_n k_245_3 (Nat.le_of_ble_eq_true rfl)
theorem k_245_4 : lk 245 4 = some (.iload_n 3, 5, 3, 0, .null) := by decide +kernel
theorem x_245_4 : Tr sc d 245 (4, [l0, l1, l2, some (.int x)], [], h) Q = Tr sc d 245 (5, [l0, l1, l2, some (.int x)], [.int x], h) Q := t_iload_n k_245_4 rfl
theorem k_245_5 : lk 245 5 = some (.bipush 6, 7, 0, 0, .int 6) := by decide +kernel
theorem x_245_5 : Tr sc d 245 (5, [l0, l1, l2, l3], [.int i0], h) Q = Tr sc d 245 (7, [l0, l1, l2, l3], [.int 6, .int i0], h) Q := t_go k_245_5 rfl
theorem k_245_7 : lk 245 7 = some (.if_icmp .ge 30, 10, 37, 0, .null) := by decide +kernel
theorem x_245_7 : Tr sc d 245 (7, [l0, l1, l2, l3], [.int i1, .int i0], h) Q = if i1 ≤ i0 then Tr sc d 245 (37, [l0, l1, l2, l3], [], h) Q else Tr sc d 245 (10, [l0, l1, l2, l3], [], h) Q := t_if k_245_7 rfl
theorem k_245_10 : lk 245 10 = some (.iload_n 2, 11, 2, 0, .null) := by decide +kernel
theorem x_245_10 : Tr sc d 245 (10, [l0, l1, some (.int x), l3], [], h) Q = Tr sc d 245 (11, [l0, l1, some (.int x), l3], [.int x], h) Q := t_iload_n k_245_10 rfl
theorem k_245_11 : lk 245 11 = some (.iload_n 1, 12, 1, 0, .null) := by decide +kernel
theorem x_245_11 : Tr sc d 245 (11, [l0, some (.int x), l2, l3], [.int i0], h) Q = Tr sc d 245 (12, [l0, some (.int x), l2, l3], [.int x, .int i0], h) Q := t_iload_n k_245_11 rfl
theorem k_245_12 : lk 245 12 = some (.ifCond .ne 16, 15, 28, 0, .null) := by decide +kernel
theorem x_245_12 : Tr sc d 245 (12, [l0, l1, l2, l3], [.int i1, .int i0], h) Q = if i1 = 0 then Tr sc d 245 (15, [l0, l1, l2, l3], [.int i0], h) Q else Tr sc d 245 (28, [l0, l1, l2, l3], [.int i0], h) Q := t_if k_245_12 rfl
theorem k_245_15 : lk 245 15 = some (.aload_n 0, 16, 0, 0, .null) := by decide +kernel
theorem x_245_15 : Tr sc d 245 (15, [some (.ref xk), l1, l2, l3], [.int i0], h) Q = Tr sc d 245 (16, [some (.ref xk), l1, l2, l3], [.ref xk, .int i0], h) Q := t_aload_n k_245_15 rfl
theorem k_245_16 : lk 245 16 = some (.getfield 17, 19, 10, 6, .null) := by decide +kernel
theorem x_245_16 : Tr sc d 245 (16, [l0, l1, l2, l3], [.ref k1, .int i0], h) Q = (okp h k1 10 = true ∧ ∃ q, hR h k1 6 = some q ∧ Tr sc d 245 (19, [l0, l1, l2, l3], [.ref q, .int i0], h) Q) := t_getr k_245_16
theorem k_245_19 : lk 245 19 = some (.iload_n 3, 20, 3, 0, .null) := by decide +kernel
theorem x_245_19 : Tr sc d 245 (19, [l0, l1, l2, some (.int x)], [.ref k1, .int i0], h) Q = Tr sc d 245 (20, [l0, l1, l2, some (.int x)], [.int x, .ref k1, .int i0], h) Q := t_iload_n k_245_19 rfl
theorem k_245_20 : lk 245 20 = some (.iaload, 21, 0, 0, .null) := by decide +kernel
theorem x_245_20 : Tr sc d 245 (20, [l0, l1, l2, l3], [.int i2, .ref k1, .int i0], h) Q = (iOk sc h k1 i2 ∧ Tr sc d 245 (21, [l0, l1, l2, l3], [.int (iRd sc h k1 i2), .int i0], h) Q) := t_iald k_245_20
theorem k_245_21 : lk 245 21 = some (.ifCond .lt 7, 24, 28, 0, .null) := by decide +kernel
theorem x_245_21 : Tr sc d 245 (21, [l0, l1, l2, l3], [.int i1, .int i0], h) Q = if i1 < 0 then Tr sc d 245 (28, [l0, l1, l2, l3], [.int i0], h) Q else Tr sc d 245 (24, [l0, l1, l2, l3], [.int i0], h) Q := t_if k_245_21 rfl
theorem k_245_24 : lk 245 24 = some (.iconst 1, 25, 0, 0, .int 1) := by decide +kernel
theorem x_245_24 : Tr sc d 245 (24, [l0, l1, l2, l3], [.int i0], h) Q = Tr sc d 245 (25, [l0, l1, l2, l3], [.int 1, .int i0], h) Q := t_go k_245_24 rfl
theorem k_245_25 : lk 245 25 = some (.goto 4, 28, 29, 0, .null) := by decide +kernel
theorem x_245_25 : Tr sc d 245 (25, [l0, l1, l2, l3], [.int i1, .int i0], h) Q = Tr sc d 245 (29, [l0, l1, l2, l3], [.int i1, .int i0], h) Q := t_go k_245_25 rfl
theorem k_245_28 : lk 245 28 = some (.iconst 0, 29, 0, 0, .int 0) := by decide +kernel
theorem x_245_28 : Tr sc d 245 (28, [l0, l1, l2, l3], [.int i0], h) Q = Tr sc d 245 (29, [l0, l1, l2, l3], [.int 0, .int i0], h) Q := t_go k_245_28 rfl
theorem k_245_29 : lk 245 29 = some (.iadd, 30, 0, 0, .null) := by decide +kernel
theorem x_245_29 : Tr sc d 245 (29, [l0, l1, l2, l3], [.int i1, .int i0], h) Q = Tr sc d 245 (30, [l0, l1, l2, l3], [.int (i0 + i1)], h) Q := t_go k_245_29 rfl
theorem k_245_30 : lk 245 30 = some (.istore_n 2, 31, 2, 0, .null) := by decide +kernel
theorem x_245_30 : Tr sc d 245 (30, [l0, l1, l2, l3], [.int i0], h) Q = Tr sc d 245 (31, [l0, cl2 l1, some (.int i0), l3], [], h) Q := t_istore_n k_245_30 (Nat.le_of_ble_eq_true rfl)
theorem k_245_31 : lk 245 31 = some (.iinc 3 1, 34, 3, 0, .int 1) := by decide +kernel
theorem x_245_31 : Tr sc d 245 (31, [l0, l1, l2, some (.int x)], [], h) Q = Tr sc d 245 (34, [l0, l1, cl2 l2, some (.int (x + 1))], [], h) Q := t_inc k_245_31 rfl (Nat.le_of_ble_eq_true rfl)
theorem k_245_34 : lk 245 34 = some (.goto (-30), 37, 4, 0, .null) := by decide +kernel
theorem x_245_34 : Tr sc d 245 (34, [l0, l1, l2, l3], [], h) Q = Tr sc d 245 (4, [l0, l1, l2, l3], [], h) Q := t_go k_245_34 rfl
theorem k_245_37 : lk 245 37 = some (.iconst 0, 38, 0, 0, .int 0) := by decide +kernel
theorem x_245_37 : Tr sc d 245 (37, [l0, l1, l2, l3], [], h) Q = Tr sc d 245 (38, [l0, l1, l2, l3], [.int 0], h) Q := t_go k_245_37 rfl
theorem k_245_38 : lk 245 38 = some (.istore_n 3, 39, 3, 0, .null) := by decide +kernel
theorem x_245_38 : Tr sc d 245 (38, [l0, l1, l2, l3], [.int i0], h) Q = Tr sc d 245 (39, [l0, l1, cl2 l2, some (.int i0)], [], h) Q := t_istore_n k_245_38 (Nat.le_of_ble_eq_true rfl)
theorem k_245_39 : lk 245 39 = some (.iload_n 3, 40, 3, 0, .null) := by decide +kernel
theorem x_245_39 : Tr sc d 245 (39, [l0, l1, l2, some (.int x)], [], h) Q = Tr sc d 245 (40, [l0, l1, l2, some (.int x)], [.int x], h) Q := t_iload_n k_245_39 rfl
theorem k_245_40 : lk 245 40 = some (.iconst 4, 41, 0, 0, .int 4) := by decide +kernel
theorem x_245_40 : Tr sc d 245 (40, [l0, l1, l2, l3], [.int i0], h) Q = Tr sc d 245 (41, [l0, l1, l2, l3], [.int 4, .int i0], h) Q := t_go k_245_40 rfl
theorem k_245_41 : lk 245 41 = some (.if_icmp .ge 31, 44, 72, 0, .null) := by decide +kernel
theorem x_245_41 : Tr sc d 245 (41, [l0, l1, l2, l3], [.int i1, .int i0], h) Q = if i1 ≤ i0 then Tr sc d 245 (72, [l0, l1, l2, l3], [], h) Q else Tr sc d 245 (44, [l0, l1, l2, l3], [], h) Q := t_if k_245_41 rfl
theorem k_245_44 : lk 245 44 = some (.iload_n 2, 45, 2, 0, .null) := by decide +kernel
theorem x_245_44 : Tr sc d 245 (44, [l0, l1, some (.int x), l3], [], h) Q = Tr sc d 245 (45, [l0, l1, some (.int x), l3], [.int x], h) Q := t_iload_n k_245_44 rfl
theorem k_245_45 : lk 245 45 = some (.iload_n 1, 46, 1, 0, .null) := by decide +kernel
theorem x_245_45 : Tr sc d 245 (45, [l0, some (.int x), l2, l3], [.int i0], h) Q = Tr sc d 245 (46, [l0, some (.int x), l2, l3], [.int x, .int i0], h) Q := t_iload_n k_245_45 rfl
theorem k_245_46 : lk 245 46 = some (.iconst 1, 47, 0, 0, .int 1) := by decide +kernel
theorem x_245_46 : Tr sc d 245 (46, [l0, l1, l2, l3], [.int i1, .int i0], h) Q = Tr sc d 245 (47, [l0, l1, l2, l3], [.int 1, .int i1, .int i0], h) Q := t_go k_245_46 rfl
theorem k_245_47 : lk 245 47 = some (.if_icmp .ne 16, 50, 63, 0, .null) := by decide +kernel
theorem x_245_47 : Tr sc d 245 (47, [l0, l1, l2, l3], [.int i2, .int i1, .int i0], h) Q = if i1 = i2 then Tr sc d 245 (50, [l0, l1, l2, l3], [.int i0], h) Q else Tr sc d 245 (63, [l0, l1, l2, l3], [.int i0], h) Q := t_if k_245_47 rfl
theorem k_245_50 : lk 245 50 = some (.aload_n 0, 51, 0, 0, .null) := by decide +kernel
theorem x_245_50 : Tr sc d 245 (50, [some (.ref xk), l1, l2, l3], [.int i0], h) Q = Tr sc d 245 (51, [some (.ref xk), l1, l2, l3], [.ref xk, .int i0], h) Q := t_aload_n k_245_50 rfl
theorem k_245_51 : lk 245 51 = some (.getfield 26, 54, 10, 9, .null) := by decide +kernel
theorem x_245_51 : Tr sc d 245 (51, [l0, l1, l2, l3], [.ref k1, .int i0], h) Q = (okp h k1 10 = true ∧ ∃ q, hR h k1 9 = some q ∧ Tr sc d 245 (54, [l0, l1, l2, l3], [.ref q, .int i0], h) Q) := t_getr k_245_51
theorem k_245_54 : lk 245 54 = some (.iload_n 3, 55, 3, 0, .null) := by decide +kernel
theorem x_245_54 : Tr sc d 245 (54, [l0, l1, l2, some (.int x)], [.ref k1, .int i0], h) Q = Tr sc d 245 (55, [l0, l1, l2, some (.int x)], [.int x, .ref k1, .int i0], h) Q := t_iload_n k_245_54 rfl
theorem k_245_55 : lk 245 55 = some (.iaload, 56, 0, 0, .null) := by decide +kernel
theorem x_245_55 : Tr sc d 245 (55, [l0, l1, l2, l3], [.int i2, .ref k1, .int i0], h) Q = (iOk sc h k1 i2 ∧ Tr sc d 245 (56, [l0, l1, l2, l3], [.int (iRd sc h k1 i2), .int i0], h) Q) := t_iald k_245_55
theorem k_245_56 : lk 245 56 = some (.ifCond .lt 7, 59, 63, 0, .null) := by decide +kernel
theorem x_245_56 : Tr sc d 245 (56, [l0, l1, l2, l3], [.int i1, .int i0], h) Q = if i1 < 0 then Tr sc d 245 (63, [l0, l1, l2, l3], [.int i0], h) Q else Tr sc d 245 (59, [l0, l1, l2, l3], [.int i0], h) Q := t_if k_245_56 rfl
theorem k_245_59 : lk 245 59 = some (.iconst 1, 60, 0, 0, .int 1) := by decide +kernel
theorem x_245_59 : Tr sc d 245 (59, [l0, l1, l2, l3], [.int i0], h) Q = Tr sc d 245 (60, [l0, l1, l2, l3], [.int 1, .int i0], h) Q := t_go k_245_59 rfl
theorem k_245_60 : lk 245 60 = some (.goto 4, 63, 64, 0, .null) := by decide +kernel
theorem x_245_60 : Tr sc d 245 (60, [l0, l1, l2, l3], [.int i1, .int i0], h) Q = Tr sc d 245 (64, [l0, l1, l2, l3], [.int i1, .int i0], h) Q := t_go k_245_60 rfl
theorem k_245_63 : lk 245 63 = some (.iconst 0, 64, 0, 0, .int 0) := by decide +kernel
theorem x_245_63 : Tr sc d 245 (63, [l0, l1, l2, l3], [.int i0], h) Q = Tr sc d 245 (64, [l0, l1, l2, l3], [.int 0, .int i0], h) Q := t_go k_245_63 rfl
theorem k_245_64 : lk 245 64 = some (.iadd, 65, 0, 0, .null) := by decide +kernel
theorem x_245_64 : Tr sc d 245 (64, [l0, l1, l2, l3], [.int i1, .int i0], h) Q = Tr sc d 245 (65, [l0, l1, l2, l3], [.int (i0 + i1)], h) Q := t_go k_245_64 rfl
theorem k_245_65 : lk 245 65 = some (.istore_n 2, 66, 2, 0, .null) := by decide +kernel
theorem x_245_65 : Tr sc d 245 (65, [l0, l1, l2, l3], [.int i0], h) Q = Tr sc d 245 (66, [l0, cl2 l1, some (.int i0), l3], [], h) Q := t_istore_n k_245_65 (Nat.le_of_ble_eq_true rfl)
theorem k_245_66 : lk 245 66 = some (.iinc 3 1, 69, 3, 0, .int 1) := by decide +kernel
theorem x_245_66 : Tr sc d 245 (66, [l0, l1, l2, some (.int x)], [], h) Q = Tr sc d 245 (69, [l0, l1, cl2 l2, some (.int (x + 1))], [], h) Q := t_inc k_245_66 rfl (Nat.le_of_ble_eq_true rfl)
theorem k_245_69 : lk 245 69 = some (.goto (-30), 72, 39, 0, .null) := by decide +kernel
theorem x_245_69 : Tr sc d 245 (69, [l0, l1, l2, l3], [], h) Q = Tr sc d 245 (39, [l0, l1, l2, l3], [], h) Q := t_go k_245_69 rfl
theorem k_245_72 : lk 245 72 = some (.iconst 0, 73, 0, 0, .int 0) := by decide +kernel
theorem x_245_72 : Tr sc d 245 (72, [l0, l1, l2, l3], [], h) Q = Tr sc d 245 (73, [l0, l1, l2, l3], [.int 0], h) Q := t_go k_245_72 rfl
theorem k_245_73 : lk 245 73 = some (.istore_n 3, 74, 3, 0, .null) := by decide +kernel
theorem x_245_73 : Tr sc d 245 (73, [l0, l1, l2, l3], [.int i0], h) Q = Tr sc d 245 (74, [l0, l1, cl2 l2, some (.int i0)], [], h) Q := t_istore_n k_245_73 (Nat.le_of_ble_eq_true rfl)
theorem k_245_74 : lk 245 74 = some (.iload_n 3, 75, 3, 0, .null) := by decide +kernel
theorem x_245_74 : Tr sc d 245 (74, [l0, l1, l2, some (.int x)], [], h) Q = Tr sc d 245 (75, [l0, l1, l2, some (.int x)], [.int x], h) Q := t_iload_n k_245_74 rfl
theorem k_245_75 : lk 245 75 = some (.bipush 8, 77, 0, 0, .int 8) := by decide +kernel
theorem x_245_75 : Tr sc d 245 (75, [l0, l1, l2, l3], [.int i0], h) Q = Tr sc d 245 (77, [l0, l1, l2, l3], [.int 8, .int i0], h) Q := t_go k_245_75 rfl
theorem k_245_77 : lk 245 77 = some (.if_icmp .ge 44, 80, 121, 0, .null) := by decide +kernel
theorem x_245_77 : Tr sc d 245 (77, [l0, l1, l2, l3], [.int i1, .int i0], h) Q = if i1 ≤ i0 then Tr sc d 245 (121, [l0, l1, l2, l3], [], h) Q else Tr sc d 245 (80, [l0, l1, l2, l3], [], h) Q := t_if k_245_77 rfl
theorem k_245_80 : lk 245 80 = some (.iload_n 2, 81, 2, 0, .null) := by decide +kernel
theorem x_245_80 : Tr sc d 245 (80, [l0, l1, some (.int x), l3], [], h) Q = Tr sc d 245 (81, [l0, l1, some (.int x), l3], [.int x], h) Q := t_iload_n k_245_80 rfl
theorem k_245_81 : lk 245 81 = some (.aload_n 0, 82, 0, 0, .null) := by decide +kernel
theorem x_245_81 : Tr sc d 245 (81, [some (.ref xk), l1, l2, l3], [.int i0], h) Q = Tr sc d 245 (82, [some (.ref xk), l1, l2, l3], [.ref xk, .int i0], h) Q := t_aload_n k_245_81 rfl
theorem k_245_82 : lk 245 82 = some (.getfield 41, 85, 10, 18, .null) := by decide +kernel
theorem x_245_82 : Tr sc d 245 (82, [l0, l1, l2, l3], [.ref k1, .int i0], h) Q = (okp h k1 10 = true ∧ ∃ q, hR h k1 18 = some q ∧ Tr sc d 245 (85, [l0, l1, l2, l3], [.ref q, .int i0], h) Q) := t_getr k_245_82
theorem k_245_85 : lk 245 85 = some (.iload_n 3, 86, 3, 0, .null) := by decide +kernel
theorem x_245_85 : Tr sc d 245 (85, [l0, l1, l2, some (.int x)], [.ref k1, .int i0], h) Q = Tr sc d 245 (86, [l0, l1, l2, some (.int x)], [.int x, .ref k1, .int i0], h) Q := t_iload_n k_245_85 rfl
theorem k_245_86 : lk 245 86 = some (.iaload, 87, 0, 0, .null) := by decide +kernel
theorem x_245_86 : Tr sc d 245 (86, [l0, l1, l2, l3], [.int i2, .ref k1, .int i0], h) Q = (iOk sc h k1 i2 ∧ Tr sc d 245 (87, [l0, l1, l2, l3], [.int (iRd sc h k1 i2), .int i0], h) Q) := t_iald k_245_86
theorem k_245_87 : lk 245 87 = some (.ifCond .le 25, 90, 112, 0, .null) := by decide +kernel
theorem x_245_87 : Tr sc d 245 (87, [l0, l1, l2, l3], [.int i1, .int i0], h) Q = if i1 ≤ 0 then Tr sc d 245 (112, [l0, l1, l2, l3], [.int i0], h) Q else Tr sc d 245 (90, [l0, l1, l2, l3], [.int i0], h) Q := t_if k_245_87 rfl
theorem k_245_90 : lk 245 90 = some (.iload_n 1, 91, 1, 0, .null) := by decide +kernel
theorem x_245_90 : Tr sc d 245 (90, [l0, some (.int x), l2, l3], [.int i0], h) Q = Tr sc d 245 (91, [l0, some (.int x), l2, l3], [.int x, .int i0], h) Q := t_iload_n k_245_90 rfl
theorem k_245_91 : lk 245 91 = some (.iconst 2, 92, 0, 0, .int 2) := by decide +kernel
theorem x_245_91 : Tr sc d 245 (91, [l0, l1, l2, l3], [.int i1, .int i0], h) Q = Tr sc d 245 (92, [l0, l1, l2, l3], [.int 2, .int i1, .int i0], h) Q := t_go k_245_91 rfl
theorem k_245_92 : lk 245 92 = some (.if_icmp .eq 16, 95, 108, 0, .null) := by decide +kernel
theorem x_245_92 : Tr sc d 245 (92, [l0, l1, l2, l3], [.int i2, .int i1, .int i0], h) Q = if i1 = i2 then Tr sc d 245 (108, [l0, l1, l2, l3], [.int i0], h) Q else Tr sc d 245 (95, [l0, l1, l2, l3], [.int i0], h) Q := t_if k_245_92 rfl
theorem k_245_95 : lk 245 95 = some (.iload_n 1, 96, 1, 0, .null) := by decide +kernel
theorem x_245_95 : Tr sc d 245 (95, [l0, some (.int x), l2, l3], [.int i0], h) Q = Tr sc d 245 (96, [l0, some (.int x), l2, l3], [.int x, .int i0], h) Q := t_iload_n k_245_95 rfl
theorem k_245_96 : lk 245 96 = some (.iconst 3, 97, 0, 0, .int 3) := by decide +kernel
theorem x_245_96 : Tr sc d 245 (96, [l0, l1, l2, l3], [.int i1, .int i0], h) Q = Tr sc d 245 (97, [l0, l1, l2, l3], [.int 3, .int i1, .int i0], h) Q := t_go k_245_96 rfl
theorem k_245_97 : lk 245 97 = some (.if_icmp .ne 15, 100, 112, 0, .null) := by decide +kernel
theorem x_245_97 : Tr sc d 245 (97, [l0, l1, l2, l3], [.int i2, .int i1, .int i0], h) Q = if i1 = i2 then Tr sc d 245 (100, [l0, l1, l2, l3], [.int i0], h) Q else Tr sc d 245 (112, [l0, l1, l2, l3], [.int i0], h) Q := t_if k_245_97 rfl
theorem k_245_100 : lk 245 100 = some (.aload_n 0, 101, 0, 0, .null) := by decide +kernel
theorem x_245_100 : Tr sc d 245 (100, [some (.ref xk), l1, l2, l3], [.int i0], h) Q = Tr sc d 245 (101, [some (.ref xk), l1, l2, l3], [.ref xk, .int i0], h) Q := t_aload_n k_245_100 rfl
theorem k_245_101 : lk 245 101 = some (.iload_n 3, 102, 3, 0, .null) := by decide +kernel
theorem x_245_101 : Tr sc d 245 (101, [l0, l1, l2, some (.int x)], [.ref k1, .int i0], h) Q = Tr sc d 245 (102, [l0, l1, l2, some (.int x)], [.int x, .ref k1, .int i0], h) Q := t_iload_n k_245_101 rfl
theorem k_245_102 : lk 245 102 = some (.invokevirtual 223, 105, 193, 1, .null) := by decide +kernel
theorem x_245_102 : Tr sc (d + 1) 245 (102, [l0, l1, l2, l3], [.int i2, .ref k1, .int i0], h) Q = (okp h k1 10 = true ∧ Tr sc d 193 (ent0 193 [.ref k1, .int i2] h) (fun z => Tr sc (d + 1) 245 (105, [l0, l1, l2, l3], z.1.toList ++ [.int i0], z.2) Q)) := t_cv (as := [.int i2]) (r := [.int i0]) k_245_102 rfl rfl (Nat.le_of_ble_eq_true rfl) (Nat.le_of_ble_eq_true rfl) (Nat.le_of_ble_eq_true rfl)
theorem k_245_105 : lk 245 105 = some (.ifCond .eq 7, 108, 112, 0, .null) := by decide +kernel
theorem x_245_105 : Tr sc d 245 (105, [l0, l1, l2, l3], [.int i1, .int i0], h) Q = if i1 = 0 then Tr sc d 245 (112, [l0, l1, l2, l3], [.int i0], h) Q else Tr sc d 245 (108, [l0, l1, l2, l3], [.int i0], h) Q := t_if k_245_105 rfl
theorem k_245_108 : lk 245 108 = some (.iconst 1, 109, 0, 0, .int 1) := by decide +kernel
theorem x_245_108 : Tr sc d 245 (108, [l0, l1, l2, l3], [.int i0], h) Q = Tr sc d 245 (109, [l0, l1, l2, l3], [.int 1, .int i0], h) Q := t_go k_245_108 rfl
theorem k_245_109 : lk 245 109 = some (.goto 4, 112, 113, 0, .null) := by decide +kernel
theorem x_245_109 : Tr sc d 245 (109, [l0, l1, l2, l3], [.int i1, .int i0], h) Q = Tr sc d 245 (113, [l0, l1, l2, l3], [.int i1, .int i0], h) Q := t_go k_245_109 rfl
theorem k_245_112 : lk 245 112 = some (.iconst 0, 113, 0, 0, .int 0) := by decide +kernel
theorem x_245_112 : Tr sc d 245 (112, [l0, l1, l2, l3], [.int i0], h) Q = Tr sc d 245 (113, [l0, l1, l2, l3], [.int 0, .int i0], h) Q := t_go k_245_112 rfl
theorem k_245_113 : lk 245 113 = some (.iadd, 114, 0, 0, .null) := by decide +kernel
theorem x_245_113 : Tr sc d 245 (113, [l0, l1, l2, l3], [.int i1, .int i0], h) Q = Tr sc d 245 (114, [l0, l1, l2, l3], [.int (i0 + i1)], h) Q := t_go k_245_113 rfl
theorem k_245_114 : lk 245 114 = some (.istore_n 2, 115, 2, 0, .null) := by decide +kernel
theorem x_245_114 : Tr sc d 245 (114, [l0, l1, l2, l3], [.int i0], h) Q = Tr sc d 245 (115, [l0, cl2 l1, some (.int i0), l3], [], h) Q := t_istore_n k_245_114 (Nat.le_of_ble_eq_true rfl)
theorem k_245_115 : lk 245 115 = some (.iinc 3 1, 118, 3, 0, .int 1) := by decide +kernel
theorem x_245_115 : Tr sc d 245 (115, [l0, l1, l2, some (.int x)], [], h) Q = Tr sc d 245 (118, [l0, l1, cl2 l2, some (.int (x + 1))], [], h) Q := t_inc k_245_115 rfl (Nat.le_of_ble_eq_true rfl)
theorem k_245_118 : lk 245 118 = some (.goto (-44), 121, 74, 0, .null) := by decide +kernel
theorem x_245_118 : Tr sc d 245 (118, [l0, l1, l2, l3], [], h) Q = Tr sc d 245 (74, [l0, l1, l2, l3], [], h) Q := t_go k_245_118 rfl
theorem k_245_121 : lk 245 121 = some (.iload_n 1, 122, 1, 0, .null) := by decide +kernel
theorem x_245_121 : Tr sc d 245 (121, [l0, some (.int x), l2, l3], [], h) Q = Tr sc d 245 (122, [l0, some (.int x), l2, l3], [.int x], h) Q := t_iload_n k_245_121 rfl
theorem k_245_122 : lk 245 122 = some (.iconst 0, 123, 0, 0, .int 0) := by decide +kernel
theorem x_245_122 : Tr sc d 245 (122, [l0, l1, l2, l3], [.int i0], h) Q = Tr sc d 245 (123, [l0, l1, l2, l3], [.int 0, .int i0], h) Q := t_go k_245_122 rfl
theorem k_245_123 : lk 245 123 = some (.iconst 3, 124, 0, 0, .int 3) := by decide +kernel
theorem x_245_123 : Tr sc d 245 (123, [l0, l1, l2, l3], [.int i1, .int i0], h) Q = Tr sc d 245 (124, [l0, l1, l2, l3], [.int 3, .int i1, .int i0], h) Q := t_go k_245_123 rfl
theorem k_245_124 : lk 245 124 = some (.invokestatic 144, 127, 156, 3, .null) := by decide +kernel
theorem x_245_124 : Tr sc (d + 1) 245 (124, [l0, l1, l2, l3], [.int i2, .int i1, .int i0], h) Q = Tr sc d 156 (ent0 156 [.int i0, .int i1, .int i2] h) (fun z => Tr sc (d + 1) 245 (127, [l0, l1, l2, l3], z.1.toList ++ [], z.2) Q) := t_cs (as := [.int i0, .int i1, .int i2]) (r := []) k_245_124 (by decide) rfl rfl (Nat.le_of_ble_eq_true rfl) (Nat.le_of_ble_eq_true rfl)
theorem k_245_127 : lk 245 127 = some (.ifCond .eq 7, 130, 134, 0, .null) := by decide +kernel
theorem x_245_127 : Tr sc d 245 (127, [l0, l1, l2, l3], [.int i0], h) Q = if i0 = 0 then Tr sc d 245 (134, [l0, l1, l2, l3], [], h) Q else Tr sc d 245 (130, [l0, l1, l2, l3], [], h) Q := t_if k_245_127 rfl
theorem k_245_130 : lk 245 130 = some (.iload_n 2, 131, 2, 0, .null) := by decide +kernel
theorem x_245_130 : Tr sc d 245 (130, [l0, l1, some (.int x), l3], [], h) Q = Tr sc d 245 (131, [l0, l1, some (.int x), l3], [.int x], h) Q := t_iload_n k_245_130 rfl
theorem k_245_131 : lk 245 131 = some (.goto 4, 134, 135, 0, .null) := by decide +kernel
theorem x_245_131 : Tr sc d 245 (131, [l0, l1, l2, l3], [.int i0], h) Q = Tr sc d 245 (135, [l0, l1, l2, l3], [.int i0], h) Q := t_go k_245_131 rfl
theorem k_245_134 : lk 245 134 = some (.iconst (-1), 135, 0, 0, .int (-1)) := by decide +kernel
theorem x_245_134 : Tr sc d 245 (134, [l0, l1, l2, l3], [], h) Q = Tr sc d 245 (135, [l0, l1, l2, l3], [.int (-1)], h) Q := t_go k_245_134 rfl
theorem k_245_135 : lk 245 135 = some (.ireturn, 136, 0, 0, .null) := by decide +kernel
theorem x_245_135 : Tr sc d 245 (135, [l0, l1, l2, l3], [.int i0], h) Q = Q (some (.int i0), h) := t_ret k_245_135 (by rw [r_245]; rfl)
theorem e_245 : Tr sc d 245 (ent0 245 [.ref k0, .int i1] h) Q = Tr sc d 245 (0, [some (.ref k0), some (.int i1), none, none], [], h) Q := by
  have e : mL 245 = 4 := by decide +kernel
  unfold ent0
  rw [e]
  rfl
theorem r_246 : mR 246 = some .int := by decide +kernel
theorem k_246_0 : lk 246 0 = some (.aload_n 0, 1, 0, 0, .null) := by decide +kernel
theorem x_246_0 : Tr sc d 246 (0, [some (.ref xk)], [], h) Q = Tr sc d 246 (1, [some (.ref xk)], [.ref xk], h) Q := t_aload_n k_246_0 rfl
theorem k_246_1 : lk 246 1 = some (.getfield 134, 4, 10, 0, .int 0) := by decide +kernel
theorem x_246_1 : Tr sc d 246 (1, [l0], [.ref k0], h) Q = (okp h k0 10 = true ∧ Tr sc d 246 (4, [l0], [.int (hI h k0 0)], h) Q) := t_gd k_246_1 rfl
theorem k_246_4 : lk 246 4 = some (.ireturn, 5, 0, 0, .null) := by decide +kernel
theorem x_246_4 : Tr sc d 246 (4, [l0], [.int i0], h) Q = Q (some (.int i0), h) := t_ret k_246_4 (by rw [r_246]; rfl)
theorem e_246 : Tr sc d 246 (ent0 246 [.ref k0] h) Q = Tr sc d 246 (0, [some (.ref k0)], [], h) Q := by
  have e : mL 246 = 1 := by decide +kernel
  unfold ent0
  rw [e]
  rfl
theorem r_247 : mR 247 = some .int := by decide +kernel
theorem k_247_0 : lk 247 0 = some (.iload_n 1, 1, 1, 0, .null) := by decide +kernel
theorem x_247_0 : Tr sc d 247 (0, [l0, some (.int x)], [], h) Q = Tr sc d 247 (1, [l0, some (.int x)], [.int x], h) Q := t_iload_n k_247_0 rfl
theorem k_247_1 : lk 247 1 = some (.iconst 1, 2, 0, 0, .int 1) := by decide +kernel
theorem x_247_1 : Tr sc d 247 (1, [l0, l1], [.int i0], h) Q = Tr sc d 247 (2, [l0, l1], [.int 1, .int i0], h) Q := t_go k_247_1 rfl
theorem k_247_2 : lk 247 2 = some (.iconst 5, 3, 0, 0, .int 5) := by decide +kernel
theorem x_247_2 : Tr sc d 247 (2, [l0, l1], [.int i1, .int i0], h) Q = Tr sc d 247 (3, [l0, l1], [.int 5, .int i1, .int i0], h) Q := t_go k_247_2 rfl
theorem k_247_3 : lk 247 3 = some (.invokestatic 144, 6, 156, 3, .null) := by decide +kernel
theorem x_247_3 : Tr sc (d + 1) 247 (3, [l0, l1], [.int i2, .int i1, .int i0], h) Q = Tr sc d 156 (ent0 156 [.int i0, .int i1, .int i2] h) (fun z => Tr sc (d + 1) 247 (6, [l0, l1], z.1.toList ++ [], z.2) Q) := t_cs (as := [.int i0, .int i1, .int i2]) (r := []) k_247_3 (by decide) rfl rfl (Nat.le_of_ble_eq_true rfl) (Nat.le_of_ble_eq_true rfl)
theorem k_247_6 : lk 247 6 = some (.ifCond .eq 12, 9, 18, 0, .null) := by decide +kernel
theorem x_247_6 : Tr sc d 247 (6, [l0, l1], [.int i0], h) Q = if i0 = 0 then Tr sc d 247 (18, [l0, l1], [], h) Q else Tr sc d 247 (9, [l0, l1], [], h) Q := t_if k_247_6 rfl
theorem k_247_9 : lk 247 9 = some (.aload_n 0, 10, 0, 0, .null) := by decide +kernel
theorem x_247_9 : Tr sc d 247 (9, [some (.ref xk), l1], [], h) Q = Tr sc d 247 (10, [some (.ref xk), l1], [.ref xk], h) Q := t_aload_n k_247_9 rfl
theorem k_247_10 : lk 247 10 = some (.getfield 7, 13, 10, 1, .null) := by decide +kernel
theorem x_247_10 : Tr sc d 247 (10, [l0, l1], [.ref k0], h) Q = (okp h k0 10 = true ∧ ∃ q, hR h k0 1 = some q ∧ Tr sc d 247 (13, [l0, l1], [.ref q], h) Q) := t_getr k_247_10
theorem k_247_13 : lk 247 13 = some (.iload_n 1, 14, 1, 0, .null) := by decide +kernel
theorem x_247_13 : Tr sc d 247 (13, [l0, some (.int x)], [.ref k0], h) Q = Tr sc d 247 (14, [l0, some (.int x)], [.int x, .ref k0], h) Q := t_iload_n k_247_13 rfl
theorem k_247_14 : lk 247 14 = some (.iaload, 15, 0, 0, .null) := by decide +kernel
theorem x_247_14 : Tr sc d 247 (14, [l0, l1], [.int i1, .ref k0], h) Q = (iOk sc h k0 i1 ∧ Tr sc d 247 (15, [l0, l1], [.int (iRd sc h k0 i1)], h) Q) := t_iald k_247_14
theorem k_247_15 : lk 247 15 = some (.goto 4, 18, 19, 0, .null) := by decide +kernel
theorem x_247_15 : Tr sc d 247 (15, [l0, l1], [.int i0], h) Q = Tr sc d 247 (19, [l0, l1], [.int i0], h) Q := t_go k_247_15 rfl
theorem k_247_18 : lk 247 18 = some (.iconst (-1), 19, 0, 0, .int (-1)) := by decide +kernel
theorem x_247_18 : Tr sc d 247 (18, [l0, l1], [], h) Q = Tr sc d 247 (19, [l0, l1], [.int (-1)], h) Q := t_go k_247_18 rfl
theorem k_247_19 : lk 247 19 = some (.ireturn, 20, 0, 0, .null) := by decide +kernel
theorem x_247_19 : Tr sc d 247 (19, [l0, l1], [.int i0], h) Q = Q (some (.int i0), h) := t_ret k_247_19 (by rw [r_247]; rfl)
theorem e_247 : Tr sc d 247 (ent0 247 [.ref k0, .int i1] h) Q = Tr sc d 247 (0, [some (.ref k0), some (.int i1)], [], h) Q := by
  have e : mL 247 = 2 := by decide +kernel
  unfold ent0
  rw [e]
  rfl
theorem r_248 : mR 248 = none := by decide +kernel
theorem k_248_0 : lk 248 0 = some (.aload_n 0, 1, 0, 0, .null) := by decide +kernel
theorem x_248_0 : Tr sc d 248 (0, [some (.ref xk), l1], [], h) Q = Tr sc d 248 (1, [some (.ref xk), l1], [.ref xk], h) Q := t_aload_n k_248_0 rfl
theorem k_248_1 : lk 248 1 = some (.ldc2_w 368, 4, 0, 1742, .long 31) := by decide +kernel
theorem x_248_1 : Tr sc d 248 (1, [l0, l1], [.ref k0], h) Q = Tr sc d 248 (4, [l0, l1], [.long 31, .ref k0], h) Q := t_go k_248_1 rfl
theorem k_248_4 : lk 248 4 = some (.aload_n 0, 5, 0, 0, .null) := by decide +kernel
theorem x_248_4 : Tr sc d 248 (4, [some (.ref xk), l1], [.long j1, .ref k0], h) Q = Tr sc d 248 (5, [some (.ref xk), l1], [.ref xk, .long j1, .ref k0], h) Q := t_aload_n k_248_4 rfl
theorem k_248_5 : lk 248 5 = some (.getfield 370, 8, 10, 62, .long 0) := by decide +kernel
theorem x_248_5 : Tr sc d 248 (5, [l0, l1], [.ref k2, .long j1, .ref k0], h) Q = (okp h k2 10 = true ∧ Tr sc d 248 (8, [l0, l1], [.long (hL h k2 62), .long j1, .ref k0], h) Q) := t_gd k_248_5 rfl
theorem k_248_8 : lk 248 8 = some (.lmul, 9, 0, 0, .null) := by decide +kernel
theorem x_248_8 : Tr sc d 248 (8, [l0, l1], [.long j2, .long j1, .ref k0], h) Q = Tr sc d 248 (9, [l0, l1], [.long (j1 * j2), .ref k0], h) Q := t_go k_248_8 rfl
theorem k_248_9 : lk 248 9 = some (.iload_n 1, 10, 1, 0, .null) := by decide +kernel
theorem x_248_9 : Tr sc d 248 (9, [l0, some (.int x)], [.long j1, .ref k0], h) Q = Tr sc d 248 (10, [l0, some (.int x)], [.int x, .long j1, .ref k0], h) Q := t_iload_n k_248_9 rfl
theorem k_248_10 : lk 248 10 = some (.i2l, 11, 0, 0, .null) := by decide +kernel
theorem x_248_10 : Tr sc d 248 (10, [l0, l1], [.int i2, .long j1, .ref k0], h) Q = Tr sc d 248 (11, [l0, l1], [.long i2.toInt64, .long j1, .ref k0], h) Q := t_go k_248_10 rfl
theorem k_248_11 : lk 248 11 = some (.ladd, 12, 0, 0, .null) := by decide +kernel
theorem x_248_11 : Tr sc d 248 (11, [l0, l1], [.long j2, .long j1, .ref k0], h) Q = Tr sc d 248 (12, [l0, l1], [.long (j1 + j2), .ref k0], h) Q := t_go k_248_11 rfl
theorem k_248_12 : lk 248 12 = some (.putfield 370, 15, 10, 62, .long 0) := by decide +kernel
theorem x_248_12 : Tr sc d 248 (12, [l0, l1], [.long j1, .ref k0], h) Q = (okp h k0 10 = true ∧ Tr sc d 248 (15, [l0, l1], [], (sL h k0 62 j1)) Q) := t_gd k_248_12 rfl
theorem k_248_15 : lk 248 15 = some (.return_, 16, 0, 0, .null) := by decide +kernel
theorem x_248_15 : Tr sc d 248 (15, [l0, l1], [], h) Q = Q (none, h) := t_ret k_248_15 (by rw [r_248]; rfl)
theorem e_248 : Tr sc d 248 (ent0 248 [.ref k0, .int i1] h) Q = Tr sc d 248 (0, [some (.ref k0), some (.int i1)], [], h) Q := by
  have e : mL 248 = 2 := by decide +kernel
  unfold ent0
  rw [e]
  rfl
theorem r_249 : mR 249 = none := by decide +kernel
theorem k_249_0 : lk 249 0 = some (.aload_n 0, 1, 0, 0, .null) := by decide +kernel
theorem x_249_0 : Tr sc d 249 (0, [some (.ref xk), l1, l2, l3], [], h) Q = Tr sc d 249 (1, [some (.ref xk), l1, l2, l3], [.ref xk], h) Q := t_aload_n k_249_0 rfl
theorem k_249_1 : lk 249 1 = some (.getfield 41, 4, 10, 18, .null) := by decide +kernel
theorem x_249_1 : Tr sc d 249 (1, [l0, l1, l2, l3], [.ref k0], h) Q = (okp h k0 10 = true ∧ ∃ q, hR h k0 18 = some q ∧ Tr sc d 249 (4, [l0, l1, l2, l3], [.ref q], h) Q) := t_getr k_249_1
theorem k_249_4 : lk 249 4 = some (.iload_n 1, 5, 1, 0, .null) := by decide +kernel
theorem x_249_4 : Tr sc d 249 (4, [l0, some (.int x), l2, l3], [.ref k0], h) Q = Tr sc d 249 (5, [l0, some (.int x), l2, l3], [.int x, .ref k0], h) Q := t_iload_n k_249_4 rfl
theorem k_249_5 : lk 249 5 = some (.iaload, 6, 0, 0, .null) := by decide +kernel
theorem x_249_5 : Tr sc d 249 (5, [l0, l1, l2, l3], [.int i1, .ref k0], h) Q = (iOk sc h k0 i1 ∧ Tr sc d 249 (6, [l0, l1, l2, l3], [.int (iRd sc h k0 i1)], h) Q) := t_iald k_249_5
theorem k_249_6 : lk 249 6 = some (.ifCond .ne 9, 9, 15, 0, .null) := by decide +kernel
theorem x_249_6 : Tr sc d 249 (6, [l0, l1, l2, l3], [.int i0], h) Q = if i0 = 0 then Tr sc d 249 (9, [l0, l1, l2, l3], [], h) Q else Tr sc d 249 (15, [l0, l1, l2, l3], [], h) Q := t_if k_249_6 rfl
theorem k_249_9 : lk 249 9 = some (.aload_n 0, 10, 0, 0, .null) := by decide +kernel
theorem x_249_9 : Tr sc d 249 (9, [some (.ref xk), l1, l2, l3], [], h) Q = Tr sc d 249 (10, [some (.ref xk), l1, l2, l3], [.ref xk], h) Q := t_aload_n k_249_9 rfl
theorem k_249_10 : lk 249 10 = some (.iconst (-1), 11, 0, 0, .int (-1)) := by decide +kernel
theorem x_249_10 : Tr sc d 249 (10, [l0, l1, l2, l3], [.ref k0], h) Q = Tr sc d 249 (11, [l0, l1, l2, l3], [.int (-1), .ref k0], h) Q := t_go k_249_10 rfl
theorem k_249_11 : lk 249 11 = some (.invokevirtual 373, 14, 248, 1, .null) := by decide +kernel
theorem x_249_11 : Tr sc (d + 1) 249 (11, [l0, l1, l2, l3], [.int i1, .ref k0], h) Q = (okp h k0 10 = true ∧ Tr sc d 248 (ent0 248 [.ref k0, .int i1] h) (fun z => Tr sc (d + 1) 249 (14, [l0, l1, l2, l3], z.1.toList ++ [], z.2) Q)) := t_cv (as := [.int i1]) (r := []) k_249_11 rfl rfl (Nat.le_of_ble_eq_true rfl) (Nat.le_of_ble_eq_true rfl) (Nat.le_of_ble_eq_true rfl)
theorem k_249_14 : lk 249 14 = some (.return_, 15, 0, 0, .null) := by decide +kernel
theorem x_249_14 : Tr sc d 249 (14, [l0, l1, l2, l3], [], h) Q = Q (none, h) := t_ret k_249_14 (by rw [r_249]; rfl)
theorem k_249_15 : lk 249 15 = some (.aload_n 0, 16, 0, 0, .null) := by decide +kernel
theorem x_249_15 : Tr sc d 249 (15, [some (.ref xk), l1, l2, l3], [], h) Q = Tr sc d 249 (16, [some (.ref xk), l1, l2, l3], [.ref xk], h) Q := t_aload_n k_249_15 rfl
theorem k_249_16 : lk 249 16 = some (.aload_n 0, 17, 0, 0, .null) := by decide +kernel
theorem x_249_16 : Tr sc d 249 (16, [some (.ref xk), l1, l2, l3], [.ref k0], h) Q = Tr sc d 249 (17, [some (.ref xk), l1, l2, l3], [.ref xk, .ref k0], h) Q := t_aload_n k_249_16 rfl
theorem k_249_17 : lk 249 17 = some (.getfield 35, 20, 10, 16, .null) := by decide +kernel
theorem x_249_17 : Tr sc d 249 (17, [l0, l1, l2, l3], [.ref k1, .ref k0], h) Q = (okp h k1 10 = true ∧ ∃ q, hR h k1 16 = some q ∧ Tr sc d 249 (20, [l0, l1, l2, l3], [.ref q, .ref k0], h) Q) := t_getr k_249_17
theorem k_249_20 : lk 249 20 = some (.iload_n 1, 21, 1, 0, .null) := by decide +kernel
theorem x_249_20 : Tr sc d 249 (20, [l0, some (.int x), l2, l3], [.ref k1, .ref k0], h) Q = Tr sc d 249 (21, [l0, some (.int x), l2, l3], [.int x, .ref k1, .ref k0], h) Q := t_iload_n k_249_20 rfl
theorem k_249_21 : lk 249 21 = some (.iaload, 22, 0, 0, .null) := by decide +kernel
theorem x_249_21 : Tr sc d 249 (21, [l0, l1, l2, l3], [.int i2, .ref k1, .ref k0], h) Q = (iOk sc h k1 i2 ∧ Tr sc d 249 (22, [l0, l1, l2, l3], [.int (iRd sc h k1 i2), .ref k0], h) Q) := t_iald k_249_21
theorem k_249_22 : lk 249 22 = some (.invokevirtual 373, 25, 248, 1, .null) := by decide +kernel
theorem x_249_22 : Tr sc (d + 1) 249 (22, [l0, l1, l2, l3], [.int i1, .ref k0], h) Q = (okp h k0 10 = true ∧ Tr sc d 248 (ent0 248 [.ref k0, .int i1] h) (fun z => Tr sc (d + 1) 249 (25, [l0, l1, l2, l3], z.1.toList ++ [], z.2) Q)) := t_cv (as := [.int i1]) (r := []) k_249_22 rfl rfl (Nat.le_of_ble_eq_true rfl) (Nat.le_of_ble_eq_true rfl) (Nat.le_of_ble_eq_true rfl)
theorem k_249_25 : lk 249 25 = some (.aload_n 0, 26, 0, 0, .null) := by decide +kernel
theorem x_249_25 : Tr sc d 249 (25, [some (.ref xk), l1, l2, l3], [], h) Q = Tr sc d 249 (26, [some (.ref xk), l1, l2, l3], [.ref xk], h) Q := t_aload_n k_249_25 rfl
theorem k_249_26 : lk 249 26 = some (.aload_n 0, 27, 0, 0, .null) := by decide +kernel
theorem x_249_26 : Tr sc d 249 (26, [some (.ref xk), l1, l2, l3], [.ref k0], h) Q = Tr sc d 249 (27, [some (.ref xk), l1, l2, l3], [.ref xk, .ref k0], h) Q := t_aload_n k_249_26 rfl
theorem k_249_27 : lk 249 27 = some (.getfield 38, 30, 10, 17, .null) := by decide +kernel
theorem x_249_27 : Tr sc d 249 (27, [l0, l1, l2, l3], [.ref k1, .ref k0], h) Q = (okp h k1 10 = true ∧ ∃ q, hR h k1 17 = some q ∧ Tr sc d 249 (30, [l0, l1, l2, l3], [.ref q, .ref k0], h) Q) := t_getr k_249_27
theorem k_249_30 : lk 249 30 = some (.iload_n 1, 31, 1, 0, .null) := by decide +kernel
theorem x_249_30 : Tr sc d 249 (30, [l0, some (.int x), l2, l3], [.ref k1, .ref k0], h) Q = Tr sc d 249 (31, [l0, some (.int x), l2, l3], [.int x, .ref k1, .ref k0], h) Q := t_iload_n k_249_30 rfl
theorem k_249_31 : lk 249 31 = some (.iaload, 32, 0, 0, .null) := by decide +kernel
theorem x_249_31 : Tr sc d 249 (31, [l0, l1, l2, l3], [.int i2, .ref k1, .ref k0], h) Q = (iOk sc h k1 i2 ∧ Tr sc d 249 (32, [l0, l1, l2, l3], [.int (iRd sc h k1 i2), .ref k0], h) Q) := t_iald k_249_31
theorem k_249_32 : lk 249 32 = some (.invokevirtual 373, 35, 248, 1, .null) := by decide +kernel
theorem x_249_32 : Tr sc (d + 1) 249 (32, [l0, l1, l2, l3], [.int i1, .ref k0], h) Q = (okp h k0 10 = true ∧ Tr sc d 248 (ent0 248 [.ref k0, .int i1] h) (fun z => Tr sc (d + 1) 249 (35, [l0, l1, l2, l3], z.1.toList ++ [], z.2) Q)) := t_cv (as := [.int i1]) (r := []) k_249_32 rfl rfl (Nat.le_of_ble_eq_true rfl) (Nat.le_of_ble_eq_true rfl) (Nat.le_of_ble_eq_true rfl)
theorem k_249_35 : lk 249 35 = some (.aload_n 0, 36, 0, 0, .null) := by decide +kernel
theorem x_249_35 : Tr sc d 249 (35, [some (.ref xk), l1, l2, l3], [], h) Q = Tr sc d 249 (36, [some (.ref xk), l1, l2, l3], [.ref xk], h) Q := t_aload_n k_249_35 rfl
theorem k_249_36 : lk 249 36 = some (.aload_n 0, 37, 0, 0, .null) := by decide +kernel
theorem x_249_36 : Tr sc d 249 (36, [some (.ref xk), l1, l2, l3], [.ref k0], h) Q = Tr sc d 249 (37, [some (.ref xk), l1, l2, l3], [.ref xk, .ref k0], h) Q := t_aload_n k_249_36 rfl
theorem k_249_37 : lk 249 37 = some (.getfield 41, 40, 10, 18, .null) := by decide +kernel
theorem x_249_37 : Tr sc d 249 (37, [l0, l1, l2, l3], [.ref k1, .ref k0], h) Q = (okp h k1 10 = true ∧ ∃ q, hR h k1 18 = some q ∧ Tr sc d 249 (40, [l0, l1, l2, l3], [.ref q, .ref k0], h) Q) := t_getr k_249_37
theorem k_249_40 : lk 249 40 = some (.iload_n 1, 41, 1, 0, .null) := by decide +kernel
theorem x_249_40 : Tr sc d 249 (40, [l0, some (.int x), l2, l3], [.ref k1, .ref k0], h) Q = Tr sc d 249 (41, [l0, some (.int x), l2, l3], [.int x, .ref k1, .ref k0], h) Q := t_iload_n k_249_40 rfl
theorem k_249_41 : lk 249 41 = some (.iaload, 42, 0, 0, .null) := by decide +kernel
theorem x_249_41 : Tr sc d 249 (41, [l0, l1, l2, l3], [.int i2, .ref k1, .ref k0], h) Q = (iOk sc h k1 i2 ∧ Tr sc d 249 (42, [l0, l1, l2, l3], [.int (iRd sc h k1 i2), .ref k0], h) Q) := t_iald k_249_41
theorem k_249_42 : lk 249 42 = some (.invokevirtual 373, 45, 248, 1, .null) := by decide +kernel
theorem x_249_42 : Tr sc (d + 1) 249 (42, [l0, l1, l2, l3], [.int i1, .ref k0], h) Q = (okp h k0 10 = true ∧ Tr sc d 248 (ent0 248 [.ref k0, .int i1] h) (fun z => Tr sc (d + 1) 249 (45, [l0, l1, l2, l3], z.1.toList ++ [], z.2) Q)) := t_cv (as := [.int i1]) (r := []) k_249_42 rfl rfl (Nat.le_of_ble_eq_true rfl) (Nat.le_of_ble_eq_true rfl) (Nat.le_of_ble_eq_true rfl)
theorem k_249_45 : lk 249 45 = some (.iconst 0, 46, 0, 0, .int 0) := by decide +kernel
theorem x_249_45 : Tr sc d 249 (45, [l0, l1, l2, l3], [], h) Q = Tr sc d 249 (46, [l0, l1, l2, l3], [.int 0], h) Q := t_go k_249_45 rfl
theorem k_249_46 : lk 249 46 = some (.istore_n 2, 47, 2, 0, .null) := by decide +kernel
theorem x_249_46 : Tr sc d 249 (46, [l0, l1, l2, l3], [.int i0], h) Q = Tr sc d 249 (47, [l0, cl2 l1, some (.int i0), l3], [], h) Q := t_istore_n k_249_46 (Nat.le_of_ble_eq_true rfl)
theorem k_249_47 : lk 249 47 = some (.iload_n 2, 48, 2, 0, .null) := by decide +kernel
theorem x_249_47 : Tr sc d 249 (47, [l0, l1, some (.int x), l3], [], h) Q = Tr sc d 249 (48, [l0, l1, some (.int x), l3], [.int x], h) Q := t_iload_n k_249_47 rfl
theorem k_249_48 : lk 249 48 = some (.aload_n 0, 49, 0, 0, .null) := by decide +kernel
theorem x_249_48 : Tr sc d 249 (48, [some (.ref xk), l1, l2, l3], [.int i0], h) Q = Tr sc d 249 (49, [some (.ref xk), l1, l2, l3], [.ref xk, .int i0], h) Q := t_aload_n k_249_48 rfl
theorem k_249_49 : lk 249 49 = some (.getfield 41, 52, 10, 18, .null) := by decide +kernel
theorem x_249_49 : Tr sc d 249 (49, [l0, l1, l2, l3], [.ref k1, .int i0], h) Q = (okp h k1 10 = true ∧ ∃ q, hR h k1 18 = some q ∧ Tr sc d 249 (52, [l0, l1, l2, l3], [.ref q, .int i0], h) Q) := t_getr k_249_49
theorem k_249_52 : lk 249 52 = some (.iload_n 1, 53, 1, 0, .null) := by decide +kernel
theorem x_249_52 : Tr sc d 249 (52, [l0, some (.int x), l2, l3], [.ref k1, .int i0], h) Q = Tr sc d 249 (53, [l0, some (.int x), l2, l3], [.int x, .ref k1, .int i0], h) Q := t_iload_n k_249_52 rfl
theorem k_249_53 : lk 249 53 = some (.iaload, 54, 0, 0, .null) := by decide +kernel
theorem x_249_53 : Tr sc d 249 (53, [l0, l1, l2, l3], [.int i2, .ref k1, .int i0], h) Q = (iOk sc h k1 i2 ∧ Tr sc d 249 (54, [l0, l1, l2, l3], [.int (iRd sc h k1 i2), .int i0], h) Q) := t_iald k_249_53
theorem k_249_54 : lk 249 54 = some (.if_icmp .ge 76, 57, 130, 0, .null) := by decide +kernel
theorem x_249_54 : Tr sc d 249 (54, [l0, l1, l2, l3], [.int i1, .int i0], h) Q = if i1 ≤ i0 then Tr sc d 249 (130, [l0, l1, l2, l3], [], h) Q else Tr sc d 249 (57, [l0, l1, l2, l3], [], h) Q := t_if k_249_54 rfl
theorem k_249_57 : lk 249 57 = some (.bipush 6, 59, 0, 0, .int 6) := by decide +kernel
theorem x_249_57 : Tr sc d 249 (57, [l0, l1, l2, l3], [], h) Q = Tr sc d 249 (59, [l0, l1, l2, l3], [.int 6], h) Q := t_go k_249_57 rfl
theorem k_249_59 : lk 249 59 = some (.iload_n 1, 60, 1, 0, .null) := by decide +kernel
theorem x_249_59 : Tr sc d 249 (59, [l0, some (.int x), l2, l3], [.int i0], h) Q = Tr sc d 249 (60, [l0, some (.int x), l2, l3], [.int x, .int i0], h) Q := t_iload_n k_249_59 rfl
theorem k_249_60 : lk 249 60 = some (.imul, 61, 0, 0, .null) := by decide +kernel
theorem x_249_60 : Tr sc d 249 (60, [l0, l1, l2, l3], [.int i1, .int i0], h) Q = Tr sc d 249 (61, [l0, l1, l2, l3], [.int (i0 * i1)], h) Q := t_go k_249_60 rfl
theorem k_249_61 : lk 249 61 = some (.iload_n 2, 62, 2, 0, .null) := by decide +kernel
theorem x_249_61 : Tr sc d 249 (61, [l0, l1, some (.int x), l3], [.int i0], h) Q = Tr sc d 249 (62, [l0, l1, some (.int x), l3], [.int x, .int i0], h) Q := t_iload_n k_249_61 rfl
theorem k_249_62 : lk 249 62 = some (.iadd, 63, 0, 0, .null) := by decide +kernel
theorem x_249_62 : Tr sc d 249 (62, [l0, l1, l2, l3], [.int i1, .int i0], h) Q = Tr sc d 249 (63, [l0, l1, l2, l3], [.int (i0 + i1)], h) Q := t_go k_249_62 rfl
theorem k_249_63 : lk 249 63 = some (.istore_n 3, 64, 3, 0, .null) := by decide +kernel
theorem x_249_63 : Tr sc d 249 (63, [l0, l1, l2, l3], [.int i0], h) Q = Tr sc d 249 (64, [l0, l1, cl2 l2, some (.int i0)], [], h) Q := t_istore_n k_249_63 (Nat.le_of_ble_eq_true rfl)
theorem k_249_64 : lk 249 64 = some (.aload_n 0, 65, 0, 0, .null) := by decide +kernel
theorem x_249_64 : Tr sc d 249 (64, [some (.ref xk), l1, l2, l3], [], h) Q = Tr sc d 249 (65, [some (.ref xk), l1, l2, l3], [.ref xk], h) Q := t_aload_n k_249_64 rfl
theorem k_249_65 : lk 249 65 = some (.aload_n 0, 66, 0, 0, .null) := by decide +kernel
theorem x_249_65 : Tr sc d 249 (65, [some (.ref xk), l1, l2, l3], [.ref k0], h) Q = Tr sc d 249 (66, [some (.ref xk), l1, l2, l3], [.ref xk, .ref k0], h) Q := t_aload_n k_249_65 rfl
theorem k_249_66 : lk 249 66 = some (.getfield 44, 69, 10, 19, .null) := by decide +kernel
theorem x_249_66 : Tr sc d 249 (66, [l0, l1, l2, l3], [.ref k1, .ref k0], h) Q = (okp h k1 10 = true ∧ ∃ q, hR h k1 19 = some q ∧ Tr sc d 249 (69, [l0, l1, l2, l3], [.ref q, .ref k0], h) Q) := t_getr k_249_66
theorem k_249_69 : lk 249 69 = some (.iload_n 3, 70, 3, 0, .null) := by decide +kernel
theorem x_249_69 : Tr sc d 249 (69, [l0, l1, l2, some (.int x)], [.ref k1, .ref k0], h) Q = Tr sc d 249 (70, [l0, l1, l2, some (.int x)], [.int x, .ref k1, .ref k0], h) Q := t_iload_n k_249_69 rfl
theorem k_249_70 : lk 249 70 = some (.iaload, 71, 0, 0, .null) := by decide +kernel
theorem x_249_70 : Tr sc d 249 (70, [l0, l1, l2, l3], [.int i2, .ref k1, .ref k0], h) Q = (iOk sc h k1 i2 ∧ Tr sc d 249 (71, [l0, l1, l2, l3], [.int (iRd sc h k1 i2), .ref k0], h) Q) := t_iald k_249_70
theorem k_249_71 : lk 249 71 = some (.invokevirtual 373, 74, 248, 1, .null) := by decide +kernel
theorem x_249_71 : Tr sc (d + 1) 249 (71, [l0, l1, l2, l3], [.int i1, .ref k0], h) Q = (okp h k0 10 = true ∧ Tr sc d 248 (ent0 248 [.ref k0, .int i1] h) (fun z => Tr sc (d + 1) 249 (74, [l0, l1, l2, l3], z.1.toList ++ [], z.2) Q)) := t_cv (as := [.int i1]) (r := []) k_249_71 rfl rfl (Nat.le_of_ble_eq_true rfl) (Nat.le_of_ble_eq_true rfl) (Nat.le_of_ble_eq_true rfl)
theorem k_249_74 : lk 249 74 = some (.aload_n 0, 75, 0, 0, .null) := by decide +kernel
theorem x_249_74 : Tr sc d 249 (74, [some (.ref xk), l1, l2, l3], [], h) Q = Tr sc d 249 (75, [some (.ref xk), l1, l2, l3], [.ref xk], h) Q := t_aload_n k_249_74 rfl
theorem k_249_75 : lk 249 75 = some (.aload_n 0, 76, 0, 0, .null) := by decide +kernel
theorem x_249_75 : Tr sc d 249 (75, [some (.ref xk), l1, l2, l3], [.ref k0], h) Q = Tr sc d 249 (76, [some (.ref xk), l1, l2, l3], [.ref xk, .ref k0], h) Q := t_aload_n k_249_75 rfl
theorem k_249_76 : lk 249 76 = some (.getfield 47, 79, 10, 20, .null) := by decide +kernel
theorem x_249_76 : Tr sc d 249 (76, [l0, l1, l2, l3], [.ref k1, .ref k0], h) Q = (okp h k1 10 = true ∧ ∃ q, hR h k1 20 = some q ∧ Tr sc d 249 (79, [l0, l1, l2, l3], [.ref q, .ref k0], h) Q) := t_getr k_249_76
theorem k_249_79 : lk 249 79 = some (.iload_n 3, 80, 3, 0, .null) := by decide +kernel
theorem x_249_79 : Tr sc d 249 (79, [l0, l1, l2, some (.int x)], [.ref k1, .ref k0], h) Q = Tr sc d 249 (80, [l0, l1, l2, some (.int x)], [.int x, .ref k1, .ref k0], h) Q := t_iload_n k_249_79 rfl
theorem k_249_80 : lk 249 80 = some (.iaload, 81, 0, 0, .null) := by decide +kernel
theorem x_249_80 : Tr sc d 249 (80, [l0, l1, l2, l3], [.int i2, .ref k1, .ref k0], h) Q = (iOk sc h k1 i2 ∧ Tr sc d 249 (81, [l0, l1, l2, l3], [.int (iRd sc h k1 i2), .ref k0], h) Q) := t_iald k_249_80
theorem k_249_81 : lk 249 81 = some (.invokevirtual 373, 84, 248, 1, .null) := by decide +kernel
theorem x_249_81 : Tr sc (d + 1) 249 (81, [l0, l1, l2, l3], [.int i1, .ref k0], h) Q = (okp h k0 10 = true ∧ Tr sc d 248 (ent0 248 [.ref k0, .int i1] h) (fun z => Tr sc (d + 1) 249 (84, [l0, l1, l2, l3], z.1.toList ++ [], z.2) Q)) := t_cv (as := [.int i1]) (r := []) k_249_81 rfl rfl (Nat.le_of_ble_eq_true rfl) (Nat.le_of_ble_eq_true rfl) (Nat.le_of_ble_eq_true rfl)
theorem k_249_84 : lk 249 84 = some (.aload_n 0, 85, 0, 0, .null) := by decide +kernel
theorem x_249_84 : Tr sc d 249 (84, [some (.ref xk), l1, l2, l3], [], h) Q = Tr sc d 249 (85, [some (.ref xk), l1, l2, l3], [.ref xk], h) Q := t_aload_n k_249_84 rfl
theorem k_249_85 : lk 249 85 = some (.aload_n 0, 86, 0, 0, .null) := by decide +kernel
theorem x_249_85 : Tr sc d 249 (85, [some (.ref xk), l1, l2, l3], [.ref k0], h) Q = Tr sc d 249 (86, [some (.ref xk), l1, l2, l3], [.ref xk, .ref k0], h) Q := t_aload_n k_249_85 rfl
theorem k_249_86 : lk 249 86 = some (.getfield 50, 89, 10, 21, .null) := by decide +kernel
theorem x_249_86 : Tr sc d 249 (86, [l0, l1, l2, l3], [.ref k1, .ref k0], h) Q = (okp h k1 10 = true ∧ ∃ q, hR h k1 21 = some q ∧ Tr sc d 249 (89, [l0, l1, l2, l3], [.ref q, .ref k0], h) Q) := t_getr k_249_86
theorem k_249_89 : lk 249 89 = some (.iload_n 3, 90, 3, 0, .null) := by decide +kernel
theorem x_249_89 : Tr sc d 249 (89, [l0, l1, l2, some (.int x)], [.ref k1, .ref k0], h) Q = Tr sc d 249 (90, [l0, l1, l2, some (.int x)], [.int x, .ref k1, .ref k0], h) Q := t_iload_n k_249_89 rfl
theorem k_249_90 : lk 249 90 = some (.iaload, 91, 0, 0, .null) := by decide +kernel
theorem x_249_90 : Tr sc d 249 (90, [l0, l1, l2, l3], [.int i2, .ref k1, .ref k0], h) Q = (iOk sc h k1 i2 ∧ Tr sc d 249 (91, [l0, l1, l2, l3], [.int (iRd sc h k1 i2), .ref k0], h) Q) := t_iald k_249_90
theorem k_249_91 : lk 249 91 = some (.invokevirtual 373, 94, 248, 1, .null) := by decide +kernel
theorem x_249_91 : Tr sc (d + 1) 249 (91, [l0, l1, l2, l3], [.int i1, .ref k0], h) Q = (okp h k0 10 = true ∧ Tr sc d 248 (ent0 248 [.ref k0, .int i1] h) (fun z => Tr sc (d + 1) 249 (94, [l0, l1, l2, l3], z.1.toList ++ [], z.2) Q)) := t_cv (as := [.int i1]) (r := []) k_249_91 rfl rfl (Nat.le_of_ble_eq_true rfl) (Nat.le_of_ble_eq_true rfl) (Nat.le_of_ble_eq_true rfl)
theorem k_249_94 : lk 249 94 = some (.aload_n 0, 95, 0, 0, .null) := by decide +kernel
theorem x_249_94 : Tr sc d 249 (94, [some (.ref xk), l1, l2, l3], [], h) Q = Tr sc d 249 (95, [some (.ref xk), l1, l2, l3], [.ref xk], h) Q := t_aload_n k_249_94 rfl
theorem k_249_95 : lk 249 95 = some (.getfield 35, 98, 10, 16, .null) := by decide +kernel
theorem x_249_95 : Tr sc d 249 (95, [l0, l1, l2, l3], [.ref k0], h) Q = (okp h k0 10 = true ∧ ∃ q, hR h k0 16 = some q ∧ Tr sc d 249 (98, [l0, l1, l2, l3], [.ref q], h) Q) := t_getr k_249_95
theorem k_249_98 : lk 249 98 = some (.iload_n 1, 99, 1, 0, .null) := by decide +kernel
theorem x_249_98 : Tr sc d 249 (98, [l0, some (.int x), l2, l3], [.ref k0], h) Q = Tr sc d 249 (99, [l0, some (.int x), l2, l3], [.int x, .ref k0], h) Q := t_iload_n k_249_98 rfl
theorem k_249_99 : lk 249 99 = some (.iaload, 100, 0, 0, .null) := by decide +kernel
theorem x_249_99 : Tr sc d 249 (99, [l0, l1, l2, l3], [.int i1, .ref k0], h) Q = (iOk sc h k0 i1 ∧ Tr sc d 249 (100, [l0, l1, l2, l3], [.int (iRd sc h k0 i1)], h) Q) := t_iald k_249_99
theorem k_249_100 : lk 249 100 = some (.iconst 3, 101, 0, 0, .int 3) := by decide +kernel
theorem x_249_100 : Tr sc d 249 (100, [l0, l1, l2, l3], [.int i0], h) Q = Tr sc d 249 (101, [l0, l1, l2, l3], [.int 3, .int i0], h) Q := t_go k_249_100 rfl
theorem k_249_101 : lk 249 101 = some (.if_icmp .eq 13, 104, 114, 0, .null) := by decide +kernel
theorem x_249_101 : Tr sc d 249 (101, [l0, l1, l2, l3], [.int i1, .int i0], h) Q = if i0 = i1 then Tr sc d 249 (114, [l0, l1, l2, l3], [], h) Q else Tr sc d 249 (104, [l0, l1, l2, l3], [], h) Q := t_if k_249_101 rfl
theorem k_249_104 : lk 249 104 = some (.aload_n 0, 105, 0, 0, .null) := by decide +kernel
theorem x_249_104 : Tr sc d 249 (104, [some (.ref xk), l1, l2, l3], [], h) Q = Tr sc d 249 (105, [some (.ref xk), l1, l2, l3], [.ref xk], h) Q := t_aload_n k_249_104 rfl
theorem k_249_105 : lk 249 105 = some (.getfield 35, 108, 10, 16, .null) := by decide +kernel
theorem x_249_105 : Tr sc d 249 (105, [l0, l1, l2, l3], [.ref k0], h) Q = (okp h k0 10 = true ∧ ∃ q, hR h k0 16 = some q ∧ Tr sc d 249 (108, [l0, l1, l2, l3], [.ref q], h) Q) := t_getr k_249_105
theorem k_249_108 : lk 249 108 = some (.iload_n 1, 109, 1, 0, .null) := by decide +kernel
theorem x_249_108 : Tr sc d 249 (108, [l0, some (.int x), l2, l3], [.ref k0], h) Q = Tr sc d 249 (109, [l0, some (.int x), l2, l3], [.int x, .ref k0], h) Q := t_iload_n k_249_108 rfl
theorem k_249_109 : lk 249 109 = some (.iaload, 110, 0, 0, .null) := by decide +kernel
theorem x_249_109 : Tr sc d 249 (109, [l0, l1, l2, l3], [.int i1, .ref k0], h) Q = (iOk sc h k0 i1 ∧ Tr sc d 249 (110, [l0, l1, l2, l3], [.int (iRd sc h k0 i1)], h) Q) := t_iald k_249_109
theorem k_249_110 : lk 249 110 = some (.iconst 4, 111, 0, 0, .int 4) := by decide +kernel
theorem x_249_110 : Tr sc d 249 (110, [l0, l1, l2, l3], [.int i0], h) Q = Tr sc d 249 (111, [l0, l1, l2, l3], [.int 4, .int i0], h) Q := t_go k_249_110 rfl
theorem k_249_111 : lk 249 111 = some (.if_icmp .ne 13, 114, 124, 0, .null) := by decide +kernel
theorem x_249_111 : Tr sc d 249 (111, [l0, l1, l2, l3], [.int i1, .int i0], h) Q = if i0 = i1 then Tr sc d 249 (114, [l0, l1, l2, l3], [], h) Q else Tr sc d 249 (124, [l0, l1, l2, l3], [], h) Q := t_if k_249_111 rfl
theorem k_249_114 : lk 249 114 = some (.aload_n 0, 115, 0, 0, .null) := by decide +kernel
theorem x_249_114 : Tr sc d 249 (114, [some (.ref xk), l1, l2, l3], [], h) Q = Tr sc d 249 (115, [some (.ref xk), l1, l2, l3], [.ref xk], h) Q := t_aload_n k_249_114 rfl
theorem k_249_115 : lk 249 115 = some (.aload_n 0, 116, 0, 0, .null) := by decide +kernel
theorem x_249_115 : Tr sc d 249 (115, [some (.ref xk), l1, l2, l3], [.ref k0], h) Q = Tr sc d 249 (116, [some (.ref xk), l1, l2, l3], [.ref xk, .ref k0], h) Q := t_aload_n k_249_115 rfl
theorem k_249_116 : lk 249 116 = some (.getfield 53, 119, 10, 22, .null) := by decide +kernel
theorem x_249_116 : Tr sc d 249 (116, [l0, l1, l2, l3], [.ref k1, .ref k0], h) Q = (okp h k1 10 = true ∧ ∃ q, hR h k1 22 = some q ∧ Tr sc d 249 (119, [l0, l1, l2, l3], [.ref q, .ref k0], h) Q) := t_getr k_249_116
theorem k_249_119 : lk 249 119 = some (.iload_n 3, 120, 3, 0, .null) := by decide +kernel
theorem x_249_119 : Tr sc d 249 (119, [l0, l1, l2, some (.int x)], [.ref k1, .ref k0], h) Q = Tr sc d 249 (120, [l0, l1, l2, some (.int x)], [.int x, .ref k1, .ref k0], h) Q := t_iload_n k_249_119 rfl
theorem k_249_120 : lk 249 120 = some (.iaload, 121, 0, 0, .null) := by decide +kernel
theorem x_249_120 : Tr sc d 249 (120, [l0, l1, l2, l3], [.int i2, .ref k1, .ref k0], h) Q = (iOk sc h k1 i2 ∧ Tr sc d 249 (121, [l0, l1, l2, l3], [.int (iRd sc h k1 i2), .ref k0], h) Q) := t_iald k_249_120
theorem k_249_121 : lk 249 121 = some (.invokevirtual 373, 124, 248, 1, .null) := by decide +kernel
theorem x_249_121 : Tr sc (d + 1) 249 (121, [l0, l1, l2, l3], [.int i1, .ref k0], h) Q = (okp h k0 10 = true ∧ Tr sc d 248 (ent0 248 [.ref k0, .int i1] h) (fun z => Tr sc (d + 1) 249 (124, [l0, l1, l2, l3], z.1.toList ++ [], z.2) Q)) := t_cv (as := [.int i1]) (r := []) k_249_121 rfl rfl (Nat.le_of_ble_eq_true rfl) (Nat.le_of_ble_eq_true rfl) (Nat.le_of_ble_eq_true rfl)
theorem k_249_124 : lk 249 124 = some (.iinc 2 1, 127, 2, 0, .int 1) := by decide +kernel
theorem x_249_124 : Tr sc d 249 (124, [l0, l1, some (.int x), l3], [], h) Q = Tr sc d 249 (127, [l0, cl2 l1, some (.int (x + 1)), l3], [], h) Q := t_inc k_249_124 rfl (Nat.le_of_ble_eq_true rfl)
theorem k_249_127 : lk 249 127 = some (.goto (-80), 130, 47, 0, .null) := by decide +kernel
theorem x_249_127 : Tr sc d 249 (127, [l0, l1, l2, l3], [], h) Q = Tr sc d 249 (47, [l0, l1, l2, l3], [], h) Q := t_go k_249_127 rfl
theorem k_249_130 : lk 249 130 = some (.return_, 131, 0, 0, .null) := by decide +kernel
theorem x_249_130 : Tr sc d 249 (130, [l0, l1, l2, l3], [], h) Q = Q (none, h) := t_ret k_249_130 (by rw [r_249]; rfl)
theorem e_249 : Tr sc d 249 (ent0 249 [.ref k0, .int i1] h) Q = Tr sc d 249 (0, [some (.ref k0), some (.int i1), none, none], [], h) Q := by
  have e : mL 249 = 4 := by decide +kernel
  unfold ent0
  rw [e]
  rfl
theorem r_250 : mR 250 = some .long := by decide +kernel
theorem k_250_0 : lk 250 0 = some (.aload_n 0, 1, 0, 0, .null) := by decide +kernel
theorem x_250_0 : Tr sc d 250 (0, [some (.ref xk), l1, l2], [], h) Q = Tr sc d 250 (1, [some (.ref xk), l1, l2], [.ref xk], h) Q := t_aload_n k_250_0 rfl
theorem k_250_1 : lk 250 1 = some (.ldc2_w 376, 4, 0, 1733, .long 17) := by decide +kernel
theorem x_250_1 : Tr sc d 250 (1, [l0, l1, l2], [.ref k0], h) Q = Tr sc d 250 (4, [l0, l1, l2], [.long 17, .ref k0], h) Q := t_go k_250_1 rfl
theorem k_250_4 : lk 250 4 = some (.putfield 370, 7, 10, 62, .long 0) := by decide +kernel
theorem x_250_4 : Tr sc d 250 (4, [l0, l1, l2], [.long j1, .ref k0], h) Q = (okp h k0 10 = true ∧ Tr sc d 250 (7, [l0, l1, l2], [], (sL h k0 62 j1)) Q) := t_gd k_250_4 rfl
theorem k_250_7 : lk 250 7 = some (.iconst 0, 8, 0, 0, .int 0) := by decide +kernel
theorem x_250_7 : Tr sc d 250 (7, [l0, l1, l2], [], h) Q = Tr sc d 250 (8, [l0, l1, l2], [.int 0], h) Q := t_go k_250_7 rfl
theorem k_250_8 : lk 250 8 = some (.istore_n 1, 9, 1, 0, .null) := by decide +kernel
theorem x_250_8 : Tr sc d 250 (8, [l0, l1, l2], [.int i0], h) Q = Tr sc d 250 (9, [cl2 l0, some (.int i0), l2], [], h) Q := t_istore_n k_250_8 (Nat.le_of_ble_eq_true rfl)
theorem k_250_9 : lk 250 9 = some (.iload_n 1, 10, 1, 0, .null) := by decide +kernel
theorem x_250_9 : Tr sc d 250 (9, [l0, some (.int x), l2], [], h) Q = Tr sc d 250 (10, [l0, some (.int x), l2], [.int x], h) Q := t_iload_n k_250_9 rfl
theorem k_250_10 : lk 250 10 = some (.bipush 8, 12, 0, 0, .int 8) := by decide +kernel
theorem x_250_10 : Tr sc d 250 (10, [l0, l1, l2], [.int i0], h) Q = Tr sc d 250 (12, [l0, l1, l2], [.int 8, .int i0], h) Q := t_go k_250_10 rfl
theorem k_250_12 : lk 250 12 = some (.if_icmp .ge 14, 15, 26, 0, .null) := by decide +kernel
theorem x_250_12 : Tr sc d 250 (12, [l0, l1, l2], [.int i1, .int i0], h) Q = if i1 ≤ i0 then Tr sc d 250 (26, [l0, l1, l2], [], h) Q else Tr sc d 250 (15, [l0, l1, l2], [], h) Q := t_if k_250_12 rfl
theorem k_250_15 : lk 250 15 = some (.aload_n 0, 16, 0, 0, .null) := by decide +kernel
theorem x_250_15 : Tr sc d 250 (15, [some (.ref xk), l1, l2], [], h) Q = Tr sc d 250 (16, [some (.ref xk), l1, l2], [.ref xk], h) Q := t_aload_n k_250_15 rfl
theorem k_250_16 : lk 250 16 = some (.iload_n 1, 17, 1, 0, .null) := by decide +kernel
theorem x_250_16 : Tr sc d 250 (16, [l0, some (.int x), l2], [.ref k0], h) Q = Tr sc d 250 (17, [l0, some (.int x), l2], [.int x, .ref k0], h) Q := t_iload_n k_250_16 rfl
theorem k_250_17 : lk 250 17 = some (.invokevirtual 378, 20, 249, 1, .null) := by decide +kernel
theorem x_250_17 : Tr sc (d + 1) 250 (17, [l0, l1, l2], [.int i1, .ref k0], h) Q = (okp h k0 10 = true ∧ Tr sc d 249 (ent0 249 [.ref k0, .int i1] h) (fun z => Tr sc (d + 1) 250 (20, [l0, l1, l2], z.1.toList ++ [], z.2) Q)) := t_cv (as := [.int i1]) (r := []) k_250_17 rfl rfl (Nat.le_of_ble_eq_true rfl) (Nat.le_of_ble_eq_true rfl) (Nat.le_of_ble_eq_true rfl)
theorem k_250_20 : lk 250 20 = some (.iinc 1 1, 23, 1, 0, .int 1) := by decide +kernel
theorem x_250_20 : Tr sc d 250 (20, [l0, some (.int x), l2], [], h) Q = Tr sc d 250 (23, [cl2 l0, some (.int (x + 1)), l2], [], h) Q := t_inc k_250_20 rfl (Nat.le_of_ble_eq_true rfl)
theorem k_250_23 : lk 250 23 = some (.goto (-14), 26, 9, 0, .null) := by decide +kernel
theorem x_250_23 : Tr sc d 250 (23, [l0, l1, l2], [], h) Q = Tr sc d 250 (9, [l0, l1, l2], [], h) Q := t_go k_250_23 rfl
theorem k_250_26 : lk 250 26 = some (.iconst 0, 27, 0, 0, .int 0) := by decide +kernel
theorem x_250_26 : Tr sc d 250 (26, [l0, l1, l2], [], h) Q = Tr sc d 250 (27, [l0, l1, l2], [.int 0], h) Q := t_go k_250_26 rfl
theorem k_250_27 : lk 250 27 = some (.istore_n 1, 28, 1, 0, .null) := by decide +kernel
theorem x_250_27 : Tr sc d 250 (27, [l0, l1, l2], [.int i0], h) Q = Tr sc d 250 (28, [cl2 l0, some (.int i0), l2], [], h) Q := t_istore_n k_250_27 (Nat.le_of_ble_eq_true rfl)
theorem k_250_28 : lk 250 28 = some (.iload_n 1, 29, 1, 0, .null) := by decide +kernel
theorem x_250_28 : Tr sc d 250 (28, [l0, some (.int x), l2], [], h) Q = Tr sc d 250 (29, [l0, some (.int x), l2], [.int x], h) Q := t_iload_n k_250_28 rfl
theorem k_250_29 : lk 250 29 = some (.bipush 6, 31, 0, 0, .int 6) := by decide +kernel
theorem x_250_29 : Tr sc d 250 (29, [l0, l1, l2], [.int i0], h) Q = Tr sc d 250 (31, [l0, l1, l2], [.int 6, .int i0], h) Q := t_go k_250_29 rfl
theorem k_250_31 : lk 250 31 = some (.if_icmp .ge 65, 34, 96, 0, .null) := by decide +kernel
theorem x_250_31 : Tr sc d 250 (31, [l0, l1, l2], [.int i1, .int i0], h) Q = if i1 ≤ i0 then Tr sc d 250 (96, [l0, l1, l2], [], h) Q else Tr sc d 250 (34, [l0, l1, l2], [], h) Q := t_if k_250_31 rfl
theorem k_250_34 : lk 250 34 = some (.aload_n 0, 35, 0, 0, .null) := by decide +kernel
theorem x_250_34 : Tr sc d 250 (34, [some (.ref xk), l1, l2], [], h) Q = Tr sc d 250 (35, [some (.ref xk), l1, l2], [.ref xk], h) Q := t_aload_n k_250_34 rfl
theorem k_250_35 : lk 250 35 = some (.aload_n 0, 36, 0, 0, .null) := by decide +kernel
theorem x_250_35 : Tr sc d 250 (35, [some (.ref xk), l1, l2], [.ref k0], h) Q = Tr sc d 250 (36, [some (.ref xk), l1, l2], [.ref xk, .ref k0], h) Q := t_aload_n k_250_35 rfl
theorem k_250_36 : lk 250 36 = some (.getfield 17, 39, 10, 6, .null) := by decide +kernel
theorem x_250_36 : Tr sc d 250 (36, [l0, l1, l2], [.ref k1, .ref k0], h) Q = (okp h k1 10 = true ∧ ∃ q, hR h k1 6 = some q ∧ Tr sc d 250 (39, [l0, l1, l2], [.ref q, .ref k0], h) Q) := t_getr k_250_36
theorem k_250_39 : lk 250 39 = some (.iload_n 1, 40, 1, 0, .null) := by decide +kernel
theorem x_250_39 : Tr sc d 250 (39, [l0, some (.int x), l2], [.ref k1, .ref k0], h) Q = Tr sc d 250 (40, [l0, some (.int x), l2], [.int x, .ref k1, .ref k0], h) Q := t_iload_n k_250_39 rfl
theorem k_250_40 : lk 250 40 = some (.iaload, 41, 0, 0, .null) := by decide +kernel
theorem x_250_40 : Tr sc d 250 (40, [l0, l1, l2], [.int i2, .ref k1, .ref k0], h) Q = (iOk sc h k1 i2 ∧ Tr sc d 250 (41, [l0, l1, l2], [.int (iRd sc h k1 i2), .ref k0], h) Q) := t_iald k_250_40
theorem k_250_41 : lk 250 41 = some (.ifCond .ge 7, 44, 48, 0, .null) := by decide +kernel
theorem x_250_41 : Tr sc d 250 (41, [l0, l1, l2], [.int i1, .ref k0], h) Q = if 0 ≤ i1 then Tr sc d 250 (48, [l0, l1, l2], [.ref k0], h) Q else Tr sc d 250 (44, [l0, l1, l2], [.ref k0], h) Q := t_if k_250_41 rfl
theorem k_250_44 : lk 250 44 = some (.iconst (-1), 45, 0, 0, .int (-1)) := by decide +kernel
theorem x_250_44 : Tr sc d 250 (44, [l0, l1, l2], [.ref k0], h) Q = Tr sc d 250 (45, [l0, l1, l2], [.int (-1), .ref k0], h) Q := t_go k_250_44 rfl
theorem k_250_45 : lk 250 45 = some (.goto 9, 48, 54, 0, .null) := by decide +kernel
theorem x_250_45 : Tr sc d 250 (45, [l0, l1, l2], [.int i1, .ref k0], h) Q = Tr sc d 250 (54, [l0, l1, l2], [.int i1, .ref k0], h) Q := t_go k_250_45 rfl
theorem k_250_48 : lk 250 48 = some (.aload_n 0, 49, 0, 0, .null) := by decide +kernel
theorem x_250_48 : Tr sc d 250 (48, [some (.ref xk), l1, l2], [.ref k0], h) Q = Tr sc d 250 (49, [some (.ref xk), l1, l2], [.ref xk, .ref k0], h) Q := t_aload_n k_250_48 rfl
theorem k_250_49 : lk 250 49 = some (.getfield 17, 52, 10, 6, .null) := by decide +kernel
theorem x_250_49 : Tr sc d 250 (49, [l0, l1, l2], [.ref k1, .ref k0], h) Q = (okp h k1 10 = true ∧ ∃ q, hR h k1 6 = some q ∧ Tr sc d 250 (52, [l0, l1, l2], [.ref q, .ref k0], h) Q) := t_getr k_250_49
theorem k_250_52 : lk 250 52 = some (.iload_n 1, 53, 1, 0, .null) := by decide +kernel
theorem x_250_52 : Tr sc d 250 (52, [l0, some (.int x), l2], [.ref k1, .ref k0], h) Q = Tr sc d 250 (53, [l0, some (.int x), l2], [.int x, .ref k1, .ref k0], h) Q := t_iload_n k_250_52 rfl
theorem k_250_53 : lk 250 53 = some (.iaload, 54, 0, 0, .null) := by decide +kernel
theorem x_250_53 : Tr sc d 250 (53, [l0, l1, l2], [.int i2, .ref k1, .ref k0], h) Q = (iOk sc h k1 i2 ∧ Tr sc d 250 (54, [l0, l1, l2], [.int (iRd sc h k1 i2), .ref k0], h) Q) := t_iald k_250_53
theorem k_250_54 : lk 250 54 = some (.invokevirtual 373, 57, 248, 1, .null) := by decide +kernel
theorem x_250_54 : Tr sc (d + 1) 250 (54, [l0, l1, l2], [.int i1, .ref k0], h) Q = (okp h k0 10 = true ∧ Tr sc d 248 (ent0 248 [.ref k0, .int i1] h) (fun z => Tr sc (d + 1) 250 (57, [l0, l1, l2], z.1.toList ++ [], z.2) Q)) := t_cv (as := [.int i1]) (r := []) k_250_54 rfl rfl (Nat.le_of_ble_eq_true rfl) (Nat.le_of_ble_eq_true rfl) (Nat.le_of_ble_eq_true rfl)
theorem k_250_57 : lk 250 57 = some (.iconst 0, 58, 0, 0, .int 0) := by decide +kernel
theorem x_250_57 : Tr sc d 250 (57, [l0, l1, l2], [], h) Q = Tr sc d 250 (58, [l0, l1, l2], [.int 0], h) Q := t_go k_250_57 rfl
theorem k_250_58 : lk 250 58 = some (.istore_n 2, 59, 2, 0, .null) := by decide +kernel
theorem x_250_58 : Tr sc d 250 (58, [l0, l1, l2], [.int i0], h) Q = Tr sc d 250 (59, [l0, cl2 l1, some (.int i0)], [], h) Q := t_istore_n k_250_58 (Nat.le_of_ble_eq_true rfl)
theorem k_250_59 : lk 250 59 = some (.iload_n 2, 60, 2, 0, .null) := by decide +kernel
theorem x_250_59 : Tr sc d 250 (59, [l0, l1, some (.int x)], [], h) Q = Tr sc d 250 (60, [l0, l1, some (.int x)], [.int x], h) Q := t_iload_n k_250_59 rfl
theorem k_250_60 : lk 250 60 = some (.aload_n 0, 61, 0, 0, .null) := by decide +kernel
theorem x_250_60 : Tr sc d 250 (60, [some (.ref xk), l1, l2], [.int i0], h) Q = Tr sc d 250 (61, [some (.ref xk), l1, l2], [.ref xk, .int i0], h) Q := t_aload_n k_250_60 rfl
theorem k_250_61 : lk 250 61 = some (.getfield 17, 64, 10, 6, .null) := by decide +kernel
theorem x_250_61 : Tr sc d 250 (61, [l0, l1, l2], [.ref k1, .int i0], h) Q = (okp h k1 10 = true ∧ ∃ q, hR h k1 6 = some q ∧ Tr sc d 250 (64, [l0, l1, l2], [.ref q, .int i0], h) Q) := t_getr k_250_61
theorem k_250_64 : lk 250 64 = some (.iload_n 1, 65, 1, 0, .null) := by decide +kernel
theorem x_250_64 : Tr sc d 250 (64, [l0, some (.int x), l2], [.ref k1, .int i0], h) Q = Tr sc d 250 (65, [l0, some (.int x), l2], [.int x, .ref k1, .int i0], h) Q := t_iload_n k_250_64 rfl
theorem k_250_65 : lk 250 65 = some (.iaload, 66, 0, 0, .null) := by decide +kernel
theorem x_250_65 : Tr sc d 250 (65, [l0, l1, l2], [.int i2, .ref k1, .int i0], h) Q = (iOk sc h k1 i2 ∧ Tr sc d 250 (66, [l0, l1, l2], [.int (iRd sc h k1 i2), .int i0], h) Q) := t_iald k_250_65
theorem k_250_66 : lk 250 66 = some (.if_icmp .ge 24, 69, 90, 0, .null) := by decide +kernel
theorem x_250_66 : Tr sc d 250 (66, [l0, l1, l2], [.int i1, .int i0], h) Q = if i1 ≤ i0 then Tr sc d 250 (90, [l0, l1, l2], [], h) Q else Tr sc d 250 (69, [l0, l1, l2], [], h) Q := t_if k_250_66 rfl
theorem k_250_69 : lk 250 69 = some (.aload_n 0, 70, 0, 0, .null) := by decide +kernel
theorem x_250_69 : Tr sc d 250 (69, [some (.ref xk), l1, l2], [], h) Q = Tr sc d 250 (70, [some (.ref xk), l1, l2], [.ref xk], h) Q := t_aload_n k_250_69 rfl
theorem k_250_70 : lk 250 70 = some (.aload_n 0, 71, 0, 0, .null) := by decide +kernel
theorem x_250_70 : Tr sc d 250 (70, [some (.ref xk), l1, l2], [.ref k0], h) Q = Tr sc d 250 (71, [some (.ref xk), l1, l2], [.ref xk, .ref k0], h) Q := t_aload_n k_250_70 rfl
theorem k_250_71 : lk 250 71 = some (.getfield 20, 74, 10, 7, .null) := by decide +kernel
theorem x_250_71 : Tr sc d 250 (71, [l0, l1, l2], [.ref k1, .ref k0], h) Q = (okp h k1 10 = true ∧ ∃ q, hR h k1 7 = some q ∧ Tr sc d 250 (74, [l0, l1, l2], [.ref q, .ref k0], h) Q) := t_getr k_250_71
theorem k_250_74 : lk 250 74 = some (.bipush 40, 76, 0, 0, .int 40) := by decide +kernel
theorem x_250_74 : Tr sc d 250 (74, [l0, l1, l2], [.ref k1, .ref k0], h) Q = Tr sc d 250 (76, [l0, l1, l2], [.int 40, .ref k1, .ref k0], h) Q := t_go k_250_74 rfl
theorem k_250_76 : lk 250 76 = some (.iload_n 1, 77, 1, 0, .null) := by decide +kernel
theorem x_250_76 : Tr sc d 250 (76, [l0, some (.int x), l2], [.int i2, .ref k1, .ref k0], h) Q = Tr sc d 250 (77, [l0, some (.int x), l2], [.int x, .int i2, .ref k1, .ref k0], h) Q := t_iload_n k_250_76 rfl
theorem k_250_77 : lk 250 77 = some (.imul, 78, 0, 0, .null) := by decide +kernel
theorem x_250_77 : Tr sc d 250 (77, [l0, l1, l2], [.int i3, .int i2, .ref k1, .ref k0], h) Q = Tr sc d 250 (78, [l0, l1, l2], [.int (i2 * i3), .ref k1, .ref k0], h) Q := t_go k_250_77 rfl
theorem k_250_78 : lk 250 78 = some (.iload_n 2, 79, 2, 0, .null) := by decide +kernel
theorem x_250_78 : Tr sc d 250 (78, [l0, l1, some (.int x)], [.int i2, .ref k1, .ref k0], h) Q = Tr sc d 250 (79, [l0, l1, some (.int x)], [.int x, .int i2, .ref k1, .ref k0], h) Q := t_iload_n k_250_78 rfl
theorem k_250_79 : lk 250 79 = some (.iadd, 80, 0, 0, .null) := by decide +kernel
theorem x_250_79 : Tr sc d 250 (79, [l0, l1, l2], [.int i3, .int i2, .ref k1, .ref k0], h) Q = Tr sc d 250 (80, [l0, l1, l2], [.int (i2 + i3), .ref k1, .ref k0], h) Q := t_go k_250_79 rfl
theorem k_250_80 : lk 250 80 = some (.iaload, 81, 0, 0, .null) := by decide +kernel
theorem x_250_80 : Tr sc d 250 (80, [l0, l1, l2], [.int i2, .ref k1, .ref k0], h) Q = (iOk sc h k1 i2 ∧ Tr sc d 250 (81, [l0, l1, l2], [.int (iRd sc h k1 i2), .ref k0], h) Q) := t_iald k_250_80
theorem k_250_81 : lk 250 81 = some (.invokevirtual 373, 84, 248, 1, .null) := by decide +kernel
theorem x_250_81 : Tr sc (d + 1) 250 (81, [l0, l1, l2], [.int i1, .ref k0], h) Q = (okp h k0 10 = true ∧ Tr sc d 248 (ent0 248 [.ref k0, .int i1] h) (fun z => Tr sc (d + 1) 250 (84, [l0, l1, l2], z.1.toList ++ [], z.2) Q)) := t_cv (as := [.int i1]) (r := []) k_250_81 rfl rfl (Nat.le_of_ble_eq_true rfl) (Nat.le_of_ble_eq_true rfl) (Nat.le_of_ble_eq_true rfl)
theorem k_250_84 : lk 250 84 = some (.iinc 2 1, 87, 2, 0, .int 1) := by decide +kernel
theorem x_250_84 : Tr sc d 250 (84, [l0, l1, some (.int x)], [], h) Q = Tr sc d 250 (87, [l0, cl2 l1, some (.int (x + 1))], [], h) Q := t_inc k_250_84 rfl (Nat.le_of_ble_eq_true rfl)
theorem k_250_87 : lk 250 87 = some (.goto (-28), 90, 59, 0, .null) := by decide +kernel
theorem x_250_87 : Tr sc d 250 (87, [l0, l1, l2], [], h) Q = Tr sc d 250 (59, [l0, l1, l2], [], h) Q := t_go k_250_87 rfl
theorem k_250_90 : lk 250 90 = some (.iinc 1 1, 93, 1, 0, .int 1) := by decide +kernel
theorem x_250_90 : Tr sc d 250 (90, [l0, some (.int x), l2], [], h) Q = Tr sc d 250 (93, [cl2 l0, some (.int (x + 1)), l2], [], h) Q := t_inc k_250_90 rfl (Nat.le_of_ble_eq_true rfl)
theorem k_250_93 : lk 250 93 = some (.goto (-65), 96, 28, 0, .null) := by decide +kernel
theorem x_250_93 : Tr sc d 250 (93, [l0, l1, l2], [], h) Q = Tr sc d 250 (28, [l0, l1, l2], [], h) Q := t_go k_250_93 rfl
theorem k_250_96 : lk 250 96 = some (.iconst 0, 97, 0, 0, .int 0) := by decide +kernel
theorem x_250_96 : Tr sc d 250 (96, [l0, l1, l2], [], h) Q = Tr sc d 250 (97, [l0, l1, l2], [.int 0], h) Q := t_go k_250_96 rfl
theorem k_250_97 : lk 250 97 = some (.istore_n 1, 98, 1, 0, .null) := by decide +kernel
theorem x_250_97 : Tr sc d 250 (97, [l0, l1, l2], [.int i0], h) Q = Tr sc d 250 (98, [cl2 l0, some (.int i0), l2], [], h) Q := t_istore_n k_250_97 (Nat.le_of_ble_eq_true rfl)
theorem k_250_98 : lk 250 98 = some (.iload_n 1, 99, 1, 0, .null) := by decide +kernel
theorem x_250_98 : Tr sc d 250 (98, [l0, some (.int x), l2], [], h) Q = Tr sc d 250 (99, [l0, some (.int x), l2], [.int x], h) Q := t_iload_n k_250_98 rfl
theorem k_250_99 : lk 250 99 = some (.iconst 4, 100, 0, 0, .int 4) := by decide +kernel
theorem x_250_99 : Tr sc d 250 (99, [l0, l1, l2], [.int i0], h) Q = Tr sc d 250 (100, [l0, l1, l2], [.int 4, .int i0], h) Q := t_go k_250_99 rfl
theorem k_250_100 : lk 250 100 = some (.if_icmp .ge 65, 103, 165, 0, .null) := by decide +kernel
theorem x_250_100 : Tr sc d 250 (100, [l0, l1, l2], [.int i1, .int i0], h) Q = if i1 ≤ i0 then Tr sc d 250 (165, [l0, l1, l2], [], h) Q else Tr sc d 250 (103, [l0, l1, l2], [], h) Q := t_if k_250_100 rfl
theorem k_250_103 : lk 250 103 = some (.aload_n 0, 104, 0, 0, .null) := by decide +kernel
theorem x_250_103 : Tr sc d 250 (103, [some (.ref xk), l1, l2], [], h) Q = Tr sc d 250 (104, [some (.ref xk), l1, l2], [.ref xk], h) Q := t_aload_n k_250_103 rfl
theorem k_250_104 : lk 250 104 = some (.aload_n 0, 105, 0, 0, .null) := by decide +kernel
theorem x_250_104 : Tr sc d 250 (104, [some (.ref xk), l1, l2], [.ref k0], h) Q = Tr sc d 250 (105, [some (.ref xk), l1, l2], [.ref xk, .ref k0], h) Q := t_aload_n k_250_104 rfl
theorem k_250_105 : lk 250 105 = some (.getfield 26, 108, 10, 9, .null) := by decide +kernel
theorem x_250_105 : Tr sc d 250 (105, [l0, l1, l2], [.ref k1, .ref k0], h) Q = (okp h k1 10 = true ∧ ∃ q, hR h k1 9 = some q ∧ Tr sc d 250 (108, [l0, l1, l2], [.ref q, .ref k0], h) Q) := t_getr k_250_105
theorem k_250_108 : lk 250 108 = some (.iload_n 1, 109, 1, 0, .null) := by decide +kernel
theorem x_250_108 : Tr sc d 250 (108, [l0, some (.int x), l2], [.ref k1, .ref k0], h) Q = Tr sc d 250 (109, [l0, some (.int x), l2], [.int x, .ref k1, .ref k0], h) Q := t_iload_n k_250_108 rfl
theorem k_250_109 : lk 250 109 = some (.iaload, 110, 0, 0, .null) := by decide +kernel
theorem x_250_109 : Tr sc d 250 (109, [l0, l1, l2], [.int i2, .ref k1, .ref k0], h) Q = (iOk sc h k1 i2 ∧ Tr sc d 250 (110, [l0, l1, l2], [.int (iRd sc h k1 i2), .ref k0], h) Q) := t_iald k_250_109
theorem k_250_110 : lk 250 110 = some (.ifCond .ge 7, 113, 117, 0, .null) := by decide +kernel
theorem x_250_110 : Tr sc d 250 (110, [l0, l1, l2], [.int i1, .ref k0], h) Q = if 0 ≤ i1 then Tr sc d 250 (117, [l0, l1, l2], [.ref k0], h) Q else Tr sc d 250 (113, [l0, l1, l2], [.ref k0], h) Q := t_if k_250_110 rfl
theorem k_250_113 : lk 250 113 = some (.iconst (-1), 114, 0, 0, .int (-1)) := by decide +kernel
theorem x_250_113 : Tr sc d 250 (113, [l0, l1, l2], [.ref k0], h) Q = Tr sc d 250 (114, [l0, l1, l2], [.int (-1), .ref k0], h) Q := t_go k_250_113 rfl
theorem k_250_114 : lk 250 114 = some (.goto 9, 117, 123, 0, .null) := by decide +kernel
theorem x_250_114 : Tr sc d 250 (114, [l0, l1, l2], [.int i1, .ref k0], h) Q = Tr sc d 250 (123, [l0, l1, l2], [.int i1, .ref k0], h) Q := t_go k_250_114 rfl
theorem k_250_117 : lk 250 117 = some (.aload_n 0, 118, 0, 0, .null) := by decide +kernel
theorem x_250_117 : Tr sc d 250 (117, [some (.ref xk), l1, l2], [.ref k0], h) Q = Tr sc d 250 (118, [some (.ref xk), l1, l2], [.ref xk, .ref k0], h) Q := t_aload_n k_250_117 rfl
theorem k_250_118 : lk 250 118 = some (.getfield 26, 121, 10, 9, .null) := by decide +kernel
theorem x_250_118 : Tr sc d 250 (118, [l0, l1, l2], [.ref k1, .ref k0], h) Q = (okp h k1 10 = true ∧ ∃ q, hR h k1 9 = some q ∧ Tr sc d 250 (121, [l0, l1, l2], [.ref q, .ref k0], h) Q) := t_getr k_250_118
theorem k_250_121 : lk 250 121 = some (.iload_n 1, 122, 1, 0, .null) := by decide +kernel
theorem x_250_121 : Tr sc d 250 (121, [l0, some (.int x), l2], [.ref k1, .ref k0], h) Q = Tr sc d 250 (122, [l0, some (.int x), l2], [.int x, .ref k1, .ref k0], h) Q := t_iload_n k_250_121 rfl
theorem k_250_122 : lk 250 122 = some (.iaload, 123, 0, 0, .null) := by decide +kernel
theorem x_250_122 : Tr sc d 250 (122, [l0, l1, l2], [.int i2, .ref k1, .ref k0], h) Q = (iOk sc h k1 i2 ∧ Tr sc d 250 (123, [l0, l1, l2], [.int (iRd sc h k1 i2), .ref k0], h) Q) := t_iald k_250_122
theorem k_250_123 : lk 250 123 = some (.invokevirtual 373, 126, 248, 1, .null) := by decide +kernel
theorem x_250_123 : Tr sc (d + 1) 250 (123, [l0, l1, l2], [.int i1, .ref k0], h) Q = (okp h k0 10 = true ∧ Tr sc d 248 (ent0 248 [.ref k0, .int i1] h) (fun z => Tr sc (d + 1) 250 (126, [l0, l1, l2], z.1.toList ++ [], z.2) Q)) := t_cv (as := [.int i1]) (r := []) k_250_123 rfl rfl (Nat.le_of_ble_eq_true rfl) (Nat.le_of_ble_eq_true rfl) (Nat.le_of_ble_eq_true rfl)
theorem k_250_126 : lk 250 126 = some (.iconst 0, 127, 0, 0, .int 0) := by decide +kernel
theorem x_250_126 : Tr sc d 250 (126, [l0, l1, l2], [], h) Q = Tr sc d 250 (127, [l0, l1, l2], [.int 0], h) Q := t_go k_250_126 rfl
theorem k_250_127 : lk 250 127 = some (.istore_n 2, 128, 2, 0, .null) := by decide +kernel
theorem x_250_127 : Tr sc d 250 (127, [l0, l1, l2], [.int i0], h) Q = Tr sc d 250 (128, [l0, cl2 l1, some (.int i0)], [], h) Q := t_istore_n k_250_127 (Nat.le_of_ble_eq_true rfl)
theorem k_250_128 : lk 250 128 = some (.iload_n 2, 129, 2, 0, .null) := by decide +kernel
theorem x_250_128 : Tr sc d 250 (128, [l0, l1, some (.int x)], [], h) Q = Tr sc d 250 (129, [l0, l1, some (.int x)], [.int x], h) Q := t_iload_n k_250_128 rfl
theorem k_250_129 : lk 250 129 = some (.aload_n 0, 130, 0, 0, .null) := by decide +kernel
theorem x_250_129 : Tr sc d 250 (129, [some (.ref xk), l1, l2], [.int i0], h) Q = Tr sc d 250 (130, [some (.ref xk), l1, l2], [.ref xk, .int i0], h) Q := t_aload_n k_250_129 rfl
theorem k_250_130 : lk 250 130 = some (.getfield 26, 133, 10, 9, .null) := by decide +kernel
theorem x_250_130 : Tr sc d 250 (130, [l0, l1, l2], [.ref k1, .int i0], h) Q = (okp h k1 10 = true ∧ ∃ q, hR h k1 9 = some q ∧ Tr sc d 250 (133, [l0, l1, l2], [.ref q, .int i0], h) Q) := t_getr k_250_130
theorem k_250_133 : lk 250 133 = some (.iload_n 1, 134, 1, 0, .null) := by decide +kernel
theorem x_250_133 : Tr sc d 250 (133, [l0, some (.int x), l2], [.ref k1, .int i0], h) Q = Tr sc d 250 (134, [l0, some (.int x), l2], [.int x, .ref k1, .int i0], h) Q := t_iload_n k_250_133 rfl
theorem k_250_134 : lk 250 134 = some (.iaload, 135, 0, 0, .null) := by decide +kernel
theorem x_250_134 : Tr sc d 250 (134, [l0, l1, l2], [.int i2, .ref k1, .int i0], h) Q = (iOk sc h k1 i2 ∧ Tr sc d 250 (135, [l0, l1, l2], [.int (iRd sc h k1 i2), .int i0], h) Q) := t_iald k_250_134
theorem k_250_135 : lk 250 135 = some (.if_icmp .ge 24, 138, 159, 0, .null) := by decide +kernel
theorem x_250_135 : Tr sc d 250 (135, [l0, l1, l2], [.int i1, .int i0], h) Q = if i1 ≤ i0 then Tr sc d 250 (159, [l0, l1, l2], [], h) Q else Tr sc d 250 (138, [l0, l1, l2], [], h) Q := t_if k_250_135 rfl
theorem k_250_138 : lk 250 138 = some (.aload_n 0, 139, 0, 0, .null) := by decide +kernel
theorem x_250_138 : Tr sc d 250 (138, [some (.ref xk), l1, l2], [], h) Q = Tr sc d 250 (139, [some (.ref xk), l1, l2], [.ref xk], h) Q := t_aload_n k_250_138 rfl
theorem k_250_139 : lk 250 139 = some (.aload_n 0, 140, 0, 0, .null) := by decide +kernel
theorem x_250_139 : Tr sc d 250 (139, [some (.ref xk), l1, l2], [.ref k0], h) Q = Tr sc d 250 (140, [some (.ref xk), l1, l2], [.ref xk, .ref k0], h) Q := t_aload_n k_250_139 rfl
theorem k_250_140 : lk 250 140 = some (.getfield 29, 143, 10, 10, .null) := by decide +kernel
theorem x_250_140 : Tr sc d 250 (140, [l0, l1, l2], [.ref k1, .ref k0], h) Q = (okp h k1 10 = true ∧ ∃ q, hR h k1 10 = some q ∧ Tr sc d 250 (143, [l0, l1, l2], [.ref q, .ref k0], h) Q) := t_getr k_250_140
theorem k_250_143 : lk 250 143 = some (.bipush 60, 145, 0, 0, .int 60) := by decide +kernel
theorem x_250_143 : Tr sc d 250 (143, [l0, l1, l2], [.ref k1, .ref k0], h) Q = Tr sc d 250 (145, [l0, l1, l2], [.int 60, .ref k1, .ref k0], h) Q := t_go k_250_143 rfl
theorem k_250_145 : lk 250 145 = some (.iload_n 1, 146, 1, 0, .null) := by decide +kernel
theorem x_250_145 : Tr sc d 250 (145, [l0, some (.int x), l2], [.int i2, .ref k1, .ref k0], h) Q = Tr sc d 250 (146, [l0, some (.int x), l2], [.int x, .int i2, .ref k1, .ref k0], h) Q := t_iload_n k_250_145 rfl
theorem k_250_146 : lk 250 146 = some (.imul, 147, 0, 0, .null) := by decide +kernel
theorem x_250_146 : Tr sc d 250 (146, [l0, l1, l2], [.int i3, .int i2, .ref k1, .ref k0], h) Q = Tr sc d 250 (147, [l0, l1, l2], [.int (i2 * i3), .ref k1, .ref k0], h) Q := t_go k_250_146 rfl
theorem k_250_147 : lk 250 147 = some (.iload_n 2, 148, 2, 0, .null) := by decide +kernel
theorem x_250_147 : Tr sc d 250 (147, [l0, l1, some (.int x)], [.int i2, .ref k1, .ref k0], h) Q = Tr sc d 250 (148, [l0, l1, some (.int x)], [.int x, .int i2, .ref k1, .ref k0], h) Q := t_iload_n k_250_147 rfl
theorem k_250_148 : lk 250 148 = some (.iadd, 149, 0, 0, .null) := by decide +kernel
theorem x_250_148 : Tr sc d 250 (148, [l0, l1, l2], [.int i3, .int i2, .ref k1, .ref k0], h) Q = Tr sc d 250 (149, [l0, l1, l2], [.int (i2 + i3), .ref k1, .ref k0], h) Q := t_go k_250_148 rfl
theorem k_250_149 : lk 250 149 = some (.iaload, 150, 0, 0, .null) := by decide +kernel
theorem x_250_149 : Tr sc d 250 (149, [l0, l1, l2], [.int i2, .ref k1, .ref k0], h) Q = (iOk sc h k1 i2 ∧ Tr sc d 250 (150, [l0, l1, l2], [.int (iRd sc h k1 i2), .ref k0], h) Q) := t_iald k_250_149
theorem k_250_150 : lk 250 150 = some (.invokevirtual 373, 153, 248, 1, .null) := by decide +kernel
theorem x_250_150 : Tr sc (d + 1) 250 (150, [l0, l1, l2], [.int i1, .ref k0], h) Q = (okp h k0 10 = true ∧ Tr sc d 248 (ent0 248 [.ref k0, .int i1] h) (fun z => Tr sc (d + 1) 250 (153, [l0, l1, l2], z.1.toList ++ [], z.2) Q)) := t_cv (as := [.int i1]) (r := []) k_250_150 rfl rfl (Nat.le_of_ble_eq_true rfl) (Nat.le_of_ble_eq_true rfl) (Nat.le_of_ble_eq_true rfl)
theorem k_250_153 : lk 250 153 = some (.iinc 2 1, 156, 2, 0, .int 1) := by decide +kernel
theorem x_250_153 : Tr sc d 250 (153, [l0, l1, some (.int x)], [], h) Q = Tr sc d 250 (156, [l0, cl2 l1, some (.int (x + 1))], [], h) Q := t_inc k_250_153 rfl (Nat.le_of_ble_eq_true rfl)
theorem k_250_156 : lk 250 156 = some (.goto (-28), 159, 128, 0, .null) := by decide +kernel
theorem x_250_156 : Tr sc d 250 (156, [l0, l1, l2], [], h) Q = Tr sc d 250 (128, [l0, l1, l2], [], h) Q := t_go k_250_156 rfl
theorem k_250_159 : lk 250 159 = some (.iinc 1 1, 162, 1, 0, .int 1) := by decide +kernel
theorem x_250_159 : Tr sc d 250 (159, [l0, some (.int x), l2], [], h) Q = Tr sc d 250 (162, [cl2 l0, some (.int (x + 1)), l2], [], h) Q := t_inc k_250_159 rfl (Nat.le_of_ble_eq_true rfl)
theorem k_250_162 : lk 250 162 = some (.goto (-64), 165, 98, 0, .null) := by decide +kernel
theorem x_250_162 : Tr sc d 250 (162, [l0, l1, l2], [], h) Q = Tr sc d 250 (98, [l0, l1, l2], [], h) Q := t_go k_250_162 rfl
theorem k_250_165 : lk 250 165 = some (.aload_n 0, 166, 0, 0, .null) := by decide +kernel
theorem x_250_165 : Tr sc d 250 (165, [some (.ref xk), l1, l2], [], h) Q = Tr sc d 250 (166, [some (.ref xk), l1, l2], [.ref xk], h) Q := t_aload_n k_250_165 rfl
theorem k_250_166 : lk 250 166 = some (.getfield 370, 169, 10, 62, .long 0) := by decide +kernel
theorem x_250_166 : Tr sc d 250 (166, [l0, l1, l2], [.ref k0], h) Q = (okp h k0 10 = true ∧ Tr sc d 250 (169, [l0, l1, l2], [.long (hL h k0 62)], h) Q) := t_gd k_250_166 rfl
theorem k_250_169 : lk 250 169 = some (.lreturn, 170, 0, 0, .null) := by decide +kernel
theorem x_250_169 : Tr sc d 250 (169, [l0, l1, l2], [.long j0], h) Q = Q (some (.long j0), h) := t_ret k_250_169 (by rw [r_250]; rfl)
theorem e_250 : Tr sc d 250 (ent0 250 [.ref k0] h) Q = Tr sc d 250 (0, [some (.ref k0), none, none], [], h) Q := by
  have e : mL 250 = 3 := by decide +kernel
  unfold ent0
  rw [e]
  rfl
end XX
