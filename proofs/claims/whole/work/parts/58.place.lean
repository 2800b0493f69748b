/-! ===== place ===== -/
section PL
variable {sc : Nat × (Nat → Int32)} {d : Nat} {Q : PRes → Prop} {h h' H : PH} {k s r b M i j t n a : Nat} {kd x y z w v : Int32} {tn : Nat → Nat} {sx sy ex : Nat → Int} {zz : Int × Int × Int × Int × Int × Int} {S : Int}
theorem c_divisor (ha : okp h a 0 = true) (A : AfC h a zz S) : Tr sc d 5 (ent0 5 [.ref a] h) Q = Q (some (.long (jv ((S - zz.1) * (S - zz.2.2.2.1) - zz.2.1 * zz.2.2.1))), h) := by
  obtain ⟨a0, a1, a2, a3, a4, a5, a6⟩ := A
  rw [e_5]
  simp only [x_5_0, x_5_1, x_5_4, x_5_5, x_5_8, x_5_9, x_5_10, x_5_13, x_5_14, x_5_17, x_5_18, x_5_19, x_5_20, x_5_23, x_5_24, x_5_27, x_5_28, x_5_29, cl2_i, cl2_r, cl2_n, cl2_l, tl_s, tl_n, true_and, and_true, Option.some.injEq, exists_eq_left', Bool.and_self, Bool.true_and, Bool.and_true, Bool.or_true, Bool.true_or, i_10, i_00, if_true, if_false, not_true_eq_false, not_false_eq_true, and_false, false_and, okp_sI, okp_sL, okp_aI, okp_aL, hR_sI, hR_sL, hR_aI, hR_aL, ha, a0, a1, a2, a3, a4, a5, a6, jv_sub, jv_mul]
theorem c_fixedX (ha : okp h a 0 = true) (A : AfC h a zz S) : Tr sc d 6 (ent0 6 [.ref a] h) Q = Q (some (.long (jv ((S - zz.2.2.2.1) * zz.2.2.2.2.1 + zz.2.1 * zz.2.2.2.2.2))), h) := by
  obtain ⟨a0, a1, a2, a3, a4, a5, a6⟩ := A
  rw [e_6]
  simp only [x_6_0, x_6_1, x_6_4, x_6_5, x_6_8, x_6_9, x_6_10, x_6_13, x_6_14, x_6_15, x_6_18, x_6_19, x_6_22, x_6_23, x_6_24, cl2_i, cl2_r, cl2_n, cl2_l, tl_s, tl_n, true_and, and_true, Option.some.injEq, exists_eq_left', Bool.and_self, Bool.true_and, Bool.and_true, Bool.or_true, Bool.true_or, i_10, i_00, if_true, if_false, not_true_eq_false, not_false_eq_true, and_false, false_and, okp_sI, okp_sL, okp_aI, okp_aL, hR_sI, hR_sL, hR_aI, hR_aL, ha, a0, a1, a2, a3, a4, a5, a6, jv_sub, jv_mul, jv_add]
theorem c_fixedY (ha : okp h a 0 = true) (A : AfC h a zz S) : Tr sc d 7 (ent0 7 [.ref a] h) Q = Q (some (.long (jv (zz.2.2.1 * zz.2.2.2.2.1 + (S - zz.1) * zz.2.2.2.2.2))), h) := by
  obtain ⟨a0, a1, a2, a3, a4, a5, a6⟩ := A
  rw [e_7]
  simp only [x_7_0, x_7_1, x_7_4, x_7_5, x_7_8, x_7_9, x_7_10, x_7_13, x_7_14, x_7_17, x_7_18, x_7_19, x_7_22, x_7_23, x_7_24, cl2_i, cl2_r, cl2_n, cl2_l, tl_s, tl_n, true_and, and_true, Option.some.injEq, exists_eq_left', Bool.and_self, Bool.true_and, Bool.and_true, Bool.or_true, Bool.true_or, i_10, i_00, if_true, if_false, not_true_eq_false, not_false_eq_true, and_false, false_and, okp_sI, okp_sL, okp_aI, okp_aL, hR_sI, hR_sL, hR_aI, hR_aL, ha, a0, a1, a2, a3, a4, a5, a6, jv_sub, jv_mul, jv_add]
def plD (S : Int) (z : Int × Int × Int × Int × Int × Int) : Int := (S - z.1) * (S - z.2.2.2.1) - z.2.1 * z.2.2.1
def plX (S : Int) (z : Int × Int × Int × Int × Int × Int) : Int := (S - z.2.2.2.1) * z.2.2.2.2.1 + z.2.1 * z.2.2.2.2.2
def plY (S : Int) (z : Int × Int × Int × Int × Int × Int) : Int := z.2.2.1 * z.2.2.2.2.1 + (S - z.1) * z.2.2.2.2.2
/-- what is told of a place: its upper half (y, x), and the lower -/
def upY (S : Int) (z zh : Int × Int × Int × Int × Int × Int) : Int := zh.2.2.1 * plX S z + zh.2.2.2.1 * plY S z + zh.2.2.2.2.2 * plD S z
def upX (S : Int) (z zh : Int × Int × Int × Int × Int × Int) : Int := zh.1 * plX S z + zh.2.1 * plY S z + zh.2.2.2.2.1 * plD S z
def AfK (z : Int × Int × Int × Int × Int × Int) (B : Int) : Prop := (∃ t, t ≤ 7 ∧ z.1 = xxT t ∧ z.2.1 = xyT t ∧ z.2.2.1 = yxT t ∧ z.2.2.2.1 = yyT t) ∧ (-B ≤ z.2.2.2.2.1 ∧ z.2.2.2.2.1 ≤ B) ∧ (-B ≤ z.2.2.2.2.2 ∧ z.2.2.2.2.2 ≤ B)
theorem pl_ok {zh : Int × Int × Int × Int × Int × Int} {C : Int} (hS : 2 ≤ S) (hS2 : S ≤ 4096) (hC : 1 ≤ C) (hC2 : C ≤ 4096) (hz : AfK zz 12288) (hh : AfK zh 12288) : (R6 (upX S zz zh) ∧ upX S zz zh ≠ -9223372036854775808) ∧ (R6 (upY S zz zh) ∧ upY S zz zh ≠ -9223372036854775808) ∧ 0 < C * plD S zz ∧ R6 (C * plD S zz) := by
  obtain ⟨⟨t, ht, e1, e2, e3, e4⟩, p1, p2⟩ := hz
  obtain ⟨⟨t', ht', f1, f2, f3, f4⟩, q1, q2⟩ := hh
  obtain ⟨d1, d2⟩ := dv_pos hS hS2 ht
  obtain ⟨⟨a1, a1'⟩, ⟨a2, a2'⟩, ⟨a3, a3'⟩, a4, a4'⟩ := tb_R ht
  obtain ⟨b1, b2, b3, b4⟩ := tb_R ht'
  have hD : plD S zz = (S - xxT t) * (S - yyT t) - xyT t * yxT t := by unfold plD; rw [e1, e2, e3, e4]
  have hX : -60000000 ≤ plX S zz ∧ plX S zz ≤ 60000000 := by
    unfold plX
    rw [e2, e4]
    have m1 := mulB (a := S - yyT t) (A := 4097) (by omega) p1
    have m2 := mulB (a := xyT t) (A := 1) (by omega) p2
    omega
  have hY : -60000000 ≤ plY S zz ∧ plY S zz ≤ 60000000 := by
    unfold plY
    rw [e1, e3]
    have m1 := mulB (a := S - xxT t) (A := 4097) (by omega) p2
    have m2 := mulB (a := yxT t) (A := 1) (by omega) p1
    omega
  have hDb : -20000000 ≤ plD S zz ∧ plD S zz ≤ 20000000 := by rw [hD]; omega
  have hDp : 0 < plD S zz := by rw [hD]; exact d1
  have uX : -1000000000000 ≤ upX S zz zh ∧ upX S zz zh ≤ 1000000000000 := by
    unfold upX
    rw [f1, f2]
    have m1 := mulB b1 hX
    have m2 := mulB b2 hY
    have m3 := mulB q1 hDb
    omega
  have uY : -1000000000000 ≤ upY S zz zh ∧ upY S zz zh ≤ 1000000000000 := by
    unfold upY
    rw [f3, f4]
    have m1 := mulB b3 hX
    have m2 := mulB b4 hY
    have m3 := mulB q2 hDb
    omega
  have m4 := mulB (a := C) (A := 4096) (by omega) hDb
  have m5 := Int.mul_pos (show 0 < C by omega) hDp
  unfold R6
  exact ⟨⟨⟨by omega, by omega⟩, by omega⟩, ⟨⟨by omega, by omega⟩, by omega⟩, m5, by omega, by omega⟩
theorem both_place (hc : CM h) : Both sc 114 200 [.int x, .int y, .int z, .int v, .int w] h := by
  have hw := hc.1
  have tz : ∀ {c m : Int32} {n : Nat}, m.toInt = (n : Int) → n < 100 → 0 ≤ c ∧ c ≤ m → ∃ N, N ≤ n ∧ c = nI N := fun {c m n} e hn q => by
    obtain ⟨j, hj, e2⟩ := nI_of2 (x := c) (M := m) (n := n) e (Int32.not_lt.mpr q.1) q.2
    exact ⟨j, hj, e2⟩
  refine glue_wd (x := x) (y := y) (n := z.toNatClampNeg % 7 + v.toNatClampNeg % 7) (T := (0 ≤ z ∧ z ≤ 6) ∧ (1 ≤ v ∧ v ≤ 6)) (CC := fun s r Q => Tr sc 19 114 (61, [some (.ref 0), some (.int (nI s)), some (.int (nI r)), some (.int z), some (.int v), some (.int w), some (.int 1), some (.int 0), none, none, none, none, none, none], [], h) Q) (MC := fun s r h1 Q => Tr sc 19 200 (43, [some (.ref 124), some (.int (nI s)), some (.int (nI r)), some (.int z), some (.int v), some (.int w), some (.int 0), none, none, none, none, none, none, none, none, none, none, none, none, none, none, none, none, none, none, none, none], [], h1) Q) (by omega) hc (fun hb Q => ?_) (fun hb Q => ?_) (fun hT s r hs hr hx hy Q => ?_) (fun hT s r hs hr hx hy h1 Q hw1 => ?_) (fun hT s r hs hr hx hy hA kd b M tn sx sy ex ww W C D hwd => ?_) (fun s r A B hAB q => Tr_mono q hAB)
  · rw [e_114]
    by_cases e1 : z < 0
    · simp only [x_114_0, x_114_1, x_114_4, x_114_5, x_114_7, x_114_10, x_114_12, x_114_13, x_114_16, x_114_18, x_114_20, x_114_23, x_114_24, x_114_27, x_114_28, x_114_30, x_114_31, x_114_32, x_114_33, x_114_35, x_114_38, x_114_39, x_114_41, x_114_42, x_114_45, x_114_46, x_114_48, x_114_51, x_114_53, x_114_55, x_114_58, x_114_60, o_0 hw, cl2_i, cl2_r, cl2_n, cl2_l, tl_s, tl_n, true_and, and_true, Option.some.injEq, exists_eq_left', Bool.and_self, Bool.true_and, Bool.and_true, Bool.or_true, Bool.true_or, i_10, i_00, if_true, if_false, not_true_eq_false, not_false_eq_true, and_false, false_and, okp_sI, okp_sL, okp_aI, okp_aL, hR_sI, hR_sL, hR_aI, hR_aL, e1, c_word_bad (t := 0) (Or.inr (Or.inr rfl)), i_1m1]
    · by_cases e2 : 6 < z
      · simp only [x_114_0, x_114_1, x_114_4, x_114_5, x_114_7, x_114_10, x_114_12, x_114_13, x_114_16, x_114_18, x_114_20, x_114_23, x_114_24, x_114_27, x_114_28, x_114_30, x_114_31, x_114_32, x_114_33, x_114_35, x_114_38, x_114_39, x_114_41, x_114_42, x_114_45, x_114_46, x_114_48, x_114_51, x_114_53, x_114_55, x_114_58, x_114_60, o_0 hw, cl2_i, cl2_r, cl2_n, cl2_l, tl_s, tl_n, true_and, and_true, Option.some.injEq, exists_eq_left', Bool.and_self, Bool.true_and, Bool.and_true, Bool.or_true, Bool.true_or, i_10, i_00, if_true, if_false, not_true_eq_false, not_false_eq_true, and_false, false_and, okp_sI, okp_sL, okp_aI, okp_aL, hR_sI, hR_sL, hR_aI, hR_aL, e1, e2, c_word_bad (t := 0) (Or.inr (Or.inr rfl)), i_1m1]
      · by_cases e3 : v < 1
        · simp only [x_114_0, x_114_1, x_114_4, x_114_5, x_114_7, x_114_10, x_114_12, x_114_13, x_114_16, x_114_18, x_114_20, x_114_23, x_114_24, x_114_27, x_114_28, x_114_30, x_114_31, x_114_32, x_114_33, x_114_35, x_114_38, x_114_39, x_114_41, x_114_42, x_114_45, x_114_46, x_114_48, x_114_51, x_114_53, x_114_55, x_114_58, x_114_60, o_0 hw, cl2_i, cl2_r, cl2_n, cl2_l, tl_s, tl_n, true_and, and_true, Option.some.injEq, exists_eq_left', Bool.and_self, Bool.true_and, Bool.and_true, Bool.or_true, Bool.true_or, i_10, i_00, if_true, if_false, not_true_eq_false, not_false_eq_true, and_false, false_and, okp_sI, okp_sL, okp_aI, okp_aL, hR_sI, hR_sL, hR_aI, hR_aL, e1, e2, e3, c_word_bad (t := 0) (Or.inr (Or.inr rfl)), i_1m1]
        · by_cases e4 : 6 < v
          · simp only [x_114_0, x_114_1, x_114_4, x_114_5, x_114_7, x_114_10, x_114_12, x_114_13, x_114_16, x_114_18, x_114_20, x_114_23, x_114_24, x_114_27, x_114_28, x_114_30, x_114_31, x_114_32, x_114_33, x_114_35, x_114_38, x_114_39, x_114_41, x_114_42, x_114_45, x_114_46, x_114_48, x_114_51, x_114_53, x_114_55, x_114_58, x_114_60, o_0 hw, cl2_i, cl2_r, cl2_n, cl2_l, tl_s, tl_n, true_and, and_true, Option.some.injEq, exists_eq_left', Bool.and_self, Bool.true_and, Bool.and_true, Bool.or_true, Bool.true_or, i_10, i_00, if_true, if_false, not_true_eq_false, not_false_eq_true, and_false, false_and, okp_sI, okp_sL, okp_aI, okp_aL, hR_sI, hR_sL, hR_aI, hR_aL, e1, e2, e3, e4, c_word_bad (t := 0) (Or.inr (Or.inr rfl)), i_1m1]
          · have e5 : ¬ (0 ≤ x ∧ x < 8) ∨ ¬ (0 ≤ y ∧ y < 6) ∨ (1 : Int32) = 0 := by
              by_cases q1 : 0 ≤ x ∧ x < 8
              · by_cases q2 : 0 ≤ y ∧ y < 6
                · exact absurd ⟨⟨q1, q2⟩, ⟨Int32.not_lt.mp e1, Int32.not_lt.mp e2⟩, Int32.not_lt.mp e3, Int32.not_lt.mp e4⟩ hb
                · exact Or.inr (Or.inl q2)
              · exact Or.inl q1
            simp only [x_114_0, x_114_1, x_114_4, x_114_5, x_114_7, x_114_10, x_114_12, x_114_13, x_114_16, x_114_18, x_114_20, x_114_23, x_114_24, x_114_27, x_114_28, x_114_30, x_114_31, x_114_32, x_114_33, x_114_35, x_114_38, x_114_39, x_114_41, x_114_42, x_114_45, x_114_46, x_114_48, x_114_51, x_114_53, x_114_55, x_114_58, x_114_60, o_0 hw, cl2_i, cl2_r, cl2_n, cl2_l, tl_s, tl_n, true_and, and_true, Option.some.injEq, exists_eq_left', Bool.and_self, Bool.true_and, Bool.and_true, Bool.or_true, Bool.true_or, i_10, i_00, if_true, if_false, not_true_eq_false, not_false_eq_true, and_false, false_and, okp_sI, okp_sL, okp_aI, okp_aL, hR_sI, hR_sL, hR_aI, hR_aL, e1, e2, e3, e4, c_word_bad e5, i_1m1]
  · rw [e_200]
    by_cases e1 : 0 ≤ z ∧ z ≤ 6
    · by_cases e2 : 1 ≤ v ∧ v ≤ 6
      · have e3 : ¬ (0 ≤ x ∧ x < 8) ∨ ¬ (0 ≤ y ∧ y < 6) := by
          by_cases q1 : 0 ≤ x ∧ x < 8
          · by_cases q2 : 0 ≤ y ∧ y < 6
            · exact absurd ⟨⟨q1, q2⟩, e1, e2⟩ hb
            · exact Or.inr q2
          · exact Or.inl q1
        simp only [x_200_0, x_200_1, x_200_2, x_200_4, x_200_7, x_200_10, x_200_12, x_200_13, x_200_15, x_200_18, x_200_21, x_200_22, x_200_23, x_200_24, x_200_25, x_200_26, x_200_27, x_200_29, x_200_30, x_200_33, x_200_35, x_200_37, x_200_40, x_200_42, o_124 hw, cl2_i, cl2_r, cl2_n, cl2_l, tl_s, tl_n, true_and, and_true, Option.some.injEq, exists_eq_left', Bool.and_self, Bool.true_and, Bool.and_true, Bool.or_true, Bool.true_or, i_10, i_00, if_true, if_false, not_true_eq_false, not_false_eq_true, and_false, false_and, okp_sI, okp_sL, okp_aI, okp_aL, hR_sI, hR_sL, hR_aI, hR_aL, m_in, bI_t e1, bI_t e2, m_word_bad e3, i_m1]
      · simp only [x_200_0, x_200_1, x_200_2, x_200_4, x_200_7, x_200_10, x_200_12, x_200_13, x_200_15, x_200_18, x_200_21, x_200_22, x_200_23, x_200_24, x_200_25, x_200_26, x_200_27, x_200_29, x_200_30, x_200_33, x_200_35, x_200_37, x_200_40, x_200_42, o_124 hw, cl2_i, cl2_r, cl2_n, cl2_l, tl_s, tl_n, true_and, and_true, Option.some.injEq, exists_eq_left', Bool.and_self, Bool.true_and, Bool.and_true, Bool.or_true, Bool.true_or, i_10, i_00, if_true, if_false, not_true_eq_false, not_false_eq_true, and_false, false_and, okp_sI, okp_sL, okp_aI, okp_aL, hR_sI, hR_sL, hR_aI, hR_aL, m_in, bI_t e1, bI_f e2]
    · simp only [x_200_0, x_200_1, x_200_2, x_200_4, x_200_7, x_200_10, x_200_12, x_200_13, x_200_15, x_200_18, x_200_21, x_200_22, x_200_23, x_200_24, x_200_25, x_200_26, x_200_27, x_200_29, x_200_30, x_200_33, x_200_35, x_200_37, x_200_40, x_200_42, o_124 hw, cl2_i, cl2_r, cl2_n, cl2_l, tl_s, tl_n, true_and, and_true, Option.some.injEq, exists_eq_left', Bool.and_self, Bool.true_and, Bool.and_true, Bool.or_true, Bool.true_or, i_10, i_00, if_true, if_false, not_true_eq_false, not_false_eq_true, and_false, false_and, okp_sI, okp_sL, okp_aI, okp_aL, hR_sI, hR_sL, hR_aI, hR_aL, m_in, bI_f e1]
  · subst hx hy
    obtain ⟨N, hN, rfl⟩ := tz (n := 6) rfl (by decide) hT.1
    obtain ⟨L, hL, rfl⟩ := tz (n := 6) rfl (by decide) ⟨i_le0 hT.2.1, hT.2.2⟩
    have z1 : (nI N < 0) = False := eq_false (Int32.not_lt.mpr hT.1.1)
    have z2 : (6 < nI N) = False := eq_false (Int32.not_lt.mpr hT.1.2)
    have z3 : (nI L < 1) = False := eq_false (Int32.not_lt.mpr hT.2.1)
    have z4 : (6 < nI L) = False := eq_false (Int32.not_lt.mpr hT.2.2)
    rw [nI_clamp (n := N) (by omega), Nat.mod_eq_of_lt (show N < 7 by omega), nI_clamp (n := L) (by omega), Nat.mod_eq_of_lt (show L < 7 by omega), e_114]
    simp only [x_114_0, x_114_1, x_114_4, x_114_5, x_114_7, x_114_10, x_114_12, x_114_13, x_114_16, x_114_18, x_114_20, x_114_23, x_114_24, x_114_27, x_114_28, x_114_30, x_114_31, x_114_32, x_114_33, x_114_35, x_114_38, x_114_39, x_114_41, x_114_42, x_114_45, x_114_46, x_114_48, x_114_51, x_114_53, x_114_55, x_114_58, x_114_60, o_0 hw, cl2_i, cl2_r, cl2_n, cl2_l, tl_s, tl_n, true_and, and_true, Option.some.injEq, exists_eq_left', Bool.and_self, Bool.true_and, Bool.and_true, Bool.or_true, Bool.true_or, i_10, i_00, if_true, if_false, not_true_eq_false, not_false_eq_true, and_false, false_and, okp_sI, okp_sL, okp_aI, okp_aL, hR_sI, hR_sL, hR_aI, hR_aL, z1, z2, z3, z4, nI_add, c_word hw hs hr (show N + L ≤ 40 by omega), i_3m1]
  · subst hx hy
    obtain ⟨N, hN, rfl⟩ := tz (n := 6) rfl (by decide) hT.1
    obtain ⟨L, hL, rfl⟩ := tz (n := 6) rfl (by decide) ⟨i_le0 hT.2.1, hT.2.2⟩
    rw [nI_clamp (n := N) (by omega), Nat.mod_eq_of_lt (show N < 7 by omega), nI_clamp (n := L) (by omega), Nat.mod_eq_of_lt (show L < 7 by omega), e_200]
    simp only [x_200_0, x_200_1, x_200_2, x_200_4, x_200_7, x_200_10, x_200_12, x_200_13, x_200_15, x_200_18, x_200_21, x_200_22, x_200_23, x_200_24, x_200_25, x_200_26, x_200_27, x_200_29, x_200_30, x_200_33, x_200_35, x_200_37, x_200_40, x_200_42, o_124 hw1, cl2_i, cl2_r, cl2_n, cl2_l, tl_s, tl_n, true_and, and_true, Option.some.injEq, exists_eq_left', Bool.and_self, Bool.true_and, Bool.and_true, Bool.or_true, Bool.true_or, i_10, i_00, if_true, if_false, not_true_eq_false, not_false_eq_true, and_false, false_and, okp_sI, okp_sL, okp_aI, okp_aL, hR_sI, hR_sL, hR_aI, hR_aL, m_in, bI_t hT.1, bI_t hT.2, nI_add, m_word hw1 hs hr (show N + L ≤ 40 by omega), i_m3, i_0]
  · obtain ⟨N, hN, rfl⟩ := tz (n := 6) rfl (by decide) hT.1
    obtain ⟨L, hL, rfl⟩ := tz (n := 6) rfl (by decide) ⟨i_le0 hT.2.1, hT.2.2⟩
    rw [nI_clamp (n := N) (by omega), Nat.mod_eq_of_lt (show N < 7 by omega), nI_clamp (n := L) (by omega), Nat.mod_eq_of_lt (show L < 7 by omega)] at hwd
    have hL1 : 1 ≤ L := (nI_leI (a := 1) (b := L) (by decide) (by omega)).mp hT.2.1
    obtain ⟨w1, w2, -⟩ := hw.shape hs
    obtain ⟨v1, v2, v3, v4, v5⟩ := hw.row hr
    have W' := W
    obtain ⟨-, ⟨b1, b2⟩, ⟨m1, m2⟩, wt⟩ := W'
    have hu : ∀ (f c : Nat), f + c ≤ N + L → ∀ m, m < c → tn (ww (f + (c - 1 - m))) ≤ 7 ∧ (-9 ≤ sx (ww (f + (c - 1 - m))) ∧ sx (ww (f + (c - 1 - m))) ≤ 9) ∧ (-9 ≤ sy (ww (f + (c - 1 - m))) ∧ sy (ww (f + (c - 1 - m))) ≤ 9) := fun f c q m hm => by
      obtain ⟨q1, q2, q3, -⟩ := wt _ (hwd (f + (c - 1 - m)) (by omega)).2.2
      exact ⟨q1, q2, q3⟩
    have pw : ∀ c, c ≤ 6 → 1 ≤ (b : Int) ^ c ∧ (b : Int) ^ c ≤ 4096 := fun c q => by
      have q1 := Nat.pow_le_pow_left b2 c
      have q2 := Nat.pow_le_pow_right (show 0 < 4 by decide) q
      have q3 : 0 < b ^ c := Nat.pow_pos (by omega)
      have q4 : ((b ^ c : Nat) : Int) = (b : Int) ^ c := by norm_cast
      have q5 : (4 : Nat) ^ 6 = 4096 := by decide
      omega
    have pw2 : 2 ≤ (b : Int) ^ L := by
      have q1 : b ^ 1 ≤ b ^ L := Nat.pow_le_pow_right (by omega) hL1
      rw [Nat.pow_one] at q1
      have q4 : ((b ^ L : Nat) : Int) = (b : Int) ^ L := by norm_cast
      omega
    have p4 : ∀ c : Nat, c ≤ 6 → (3 * 4 ^ c : Int) ≤ 12288 := fun c q => by
      have q2 := Nat.pow_le_pow_right (show 0 < 4 by decide) q
      have q4 : ((4 ^ c : Nat) : Int) = (4 : Int) ^ c := by norm_cast
      have q5 : (4 : Nat) ^ 6 = 4096 := by decide
      omega
    have akH : AfK (afs b tn sx sy (fun m => ww (N - 1 - m)) N) 12288 := by
      obtain ⟨g1, g2, g3⟩ := afs_ok (b := b) (tn := tn) (sx := sx) (sy := sy) (u := fun m => ww (N - 1 - m)) b2 (fun m hm => by have := hu 0 N (by omega) m hm; rw [Nat.zero_add] at this; exact this) N (Nat.le_refl _)
      have := p4 N hN
      exact ⟨g1, by omega, by omega⟩
    have akR : AfK (afs b tn sx sy (fun m => ww (N + (L - 1 - m))) L) 12288 := by
      obtain ⟨g1, g2, g3⟩ := afs_ok (b := b) (tn := tn) (sx := sx) (sy := sy) (u := fun m => ww (N + (L - 1 - m))) b2 (fun m hm => hu N L (by omega) m hm) L (Nat.le_refl _)
      have := p4 L hL
      exact ⟨g1, by omega, by omega⟩
    simp only [x_114_61, x_114_62, x_114_65, x_114_66, x_114_69, x_114_70, x_114_71, x_114_72, x_114_75, x_114_76, x_114_77, x_114_78, x_114_79, o_0 hw, w_0_0 hw, w_0_2 hw, w_0_5 hw, o_14 hw, o_3 hw, show LN 3 = 8 from rfl, o_1 hw, show LN 1 = 6 from rfl, cl2_i, cl2_r, cl2_n, cl2_l, tl_s, tl_n, true_and, and_true, Option.some.injEq, exists_eq_left', Bool.and_self, Bool.true_and, Bool.and_true, Bool.or_true, Bool.true_or, i_10, i_00, if_true, if_false, not_true_eq_false, not_false_eq_true, and_false, false_and, okp_sI, okp_sL, okp_aI, okp_aL, hR_sI, hR_sL, hR_aI, hR_aL, inb_nI (n := 8) hs (by decide), nI_clamp (n := s) (by omega), w1, w2, inb_nI (n := 6) hr (by decide), nI_clamp (n := r) (by omega), v1]
    refine c_follow (fr := 0) (n := N) (w := ww) hw (o_14 hw) (is_sh hs) C W (by omega) (by omega) v3 v2 v4 v5 (by omega) (fun j hj => by rw [Nat.zero_add]; exact ⟨(hwd j (by omega)).1, (hwd j (by omega)).2.2⟩) (fun h1 f1 A1 => ?_)
    have hw1 := f1.WF hw
    obtain ⟨w1', w2', -⟩ := hw1.shape hs
    obtain ⟨v1', v2', v3', v4', v5'⟩ := hw1.row hr
    have C1 := C.fr f1 (fun a j h1 h2 q => by omega)
    simp only [x_114_82, x_114_83, x_114_86, x_114_87, x_114_90, x_114_91, x_114_92, x_114_93, x_114_96, x_114_97, x_114_98, x_114_99, x_114_101, o_0 hw1, w_0_0 hw1, w_0_2 hw1, w_0_6 hw1, o_15 hw1, o_3 hw1, show LN 3 = 8 from rfl, o_1 hw1, show LN 1 = 6 from rfl, cl2_i, cl2_r, cl2_n, cl2_l, tl_s, tl_n, true_and, and_true, Option.some.injEq, exists_eq_left', Bool.and_self, Bool.true_and, Bool.and_true, Bool.or_true, Bool.true_or, i_10, i_00, if_true, if_false, not_true_eq_false, not_false_eq_true, and_false, false_and, okp_sI, okp_sL, okp_aI, okp_aL, hR_sI, hR_sL, hR_aI, hR_aL, inb_nI (n := 8) hs (by decide), nI_clamp (n := s) (by omega), w1', w2', inb_nI (n := 6) hr (by decide), nI_clamp (n := r) (by omega), v1']
    refine c_follow (fr := N) (n := L) (w := fun j => ww (N + j)) hw1 (o_15 hw1) (is_sh hs) C1 W (by omega) (by omega) v3' v2' v4' v5' (by omega) (fun j hj => by rw [f1.i (by omega)]; exact ⟨(hwd (N + j) (by omega)).1, (hwd (N + j) (by omega)).2.2⟩) (fun h2 f2 A2 => ?_)
    have hw2 := f2.WF hw1
    have A1' := A1.fr f2 (fun j q => by omega)
    have f2S : Fq Sc h h2 := (f1.wk (fun a b q => by unfold Sc; omega)).tr (f2.wk (fun a b q => by unfold Sc; omega))
    obtain ⟨okX, okY, okL, okL2⟩ := pl_ok (S := (b : Int) ^ L) (C := (b : Int) ^ N) pw2 (pw L hL).2 (pw N hN).1 (pw N hN).2 akR akH
    have key : ∀ U : Int, R6 U → U ≠ -9223372036854775808 → (U = if w = 0 then upX ((b : Int) ^ L) (afs b tn sx sy (fun m => ww (N + (L - 1 - m))) L) (afs b tn sx sy (fun m => ww (N - 1 - m)) N) else upY ((b : Int) ^ L) (afs b tn sx sy (fun m => ww (N + (L - 1 - m))) L) (afs b tn sx sy (fun m => ww (N - 1 - m)) N)) → Fq Sd h (sL (sL h2 0 17 (jv U / lN (gdN U ((b : Int) ^ N * plD ((b : Int) ^ L) (afs b tn sx sy (fun m => ww (N + (L - 1 - m))) L))))) 0 18 (jv ((b : Int) ^ N * plD ((b : Int) ^ L) (afs b tn sx sy (fun m => ww (N + (L - 1 - m))) L)) / lN (gdN U ((b : Int) ^ N * plD ((b : Int) ^ L) (afs b tn sx sy (fun m => ww (N + (L - 1 - m))) L))))) ∧ Tr sc 19 200 (43, [some (.ref 124), some (.int (nI s)), some (.int (nI r)), some (.int (nI N)), some (.int (nI L)), some (.int w), some (.int 0), none, none, none, none, none, none, none, none, none, none, none, none, none, none, none, none, none, none, none, none], [], sL (sL h2 0 17 (jv U / lN (gdN U ((b : Int) ^ N * plD ((b : Int) ^ L) (afs b tn sx sy (fun m => ww (N + (L - 1 - m))) L))))) 0 18 (jv ((b : Int) ^ N * plD ((b : Int) ^ L) (afs b tn sx sy (fun m => ww (N + (L - 1 - m))) L)) / lN (gdN U ((b : Int) ^ N * plD ((b : Int) ^ L) (afs b tn sx sy (fun m => ww (N + (L - 1 - m))) L))))) (fun r2 => r2.1 = some (Value.int 1) ∧ CM r2.2) := by
      intro U hU hU2 eU
      refine ⟨(f2S.toD.sL (by unfold Sd; omega)).sL (by unfold Sd; omega), ?_⟩
      generalize hh3 : sL (sL h2 0 17 (jv U / lN (gdN U ((b : Int) ^ N * plD ((b : Int) ^ L) (afs b tn sx sy (fun m => ww (N + (L - 1 - m))) L))))) 0 18 (jv ((b : Int) ^ N * plD ((b : Int) ^ L) (afs b tn sx sy (fun m => ww (N + (L - 1 - m))) L)) / lN (gdN U ((b : Int) ^ N * plD ((b : Int) ^ L) (afs b tn sx sy (fun m => ww (N + (L - 1 - m))) L)))) = h3
      have hw3 : WF h3 := by rw [← hh3]; exact hw2
      have f3 : Fq Sd h h3 := by rw [← hh3]; exact (f2S.toD.sL (by unfold Sd; omega)).sL (by unfold Sd; omega)
      have D3 : ShM h3 s kd b M tn sx sy ex := D.fr f3 (fun a j h1 h2 => by unfold Sd Sc; omega)
      simp only [x_200_43, x_200_44, x_200_45, x_200_46, x_200_47, x_200_49, o_124 hw3, cl2_i, cl2_r, cl2_n, cl2_l, tl_s, tl_n, true_and, and_true, Option.some.injEq, exists_eq_left', Bool.and_self, Bool.true_and, Bool.and_true, Bool.or_true, Bool.true_or, i_10, i_00, if_true, if_false, not_true_eq_false, not_false_eq_true, and_false, false_and, okp_sI, okp_sL, okp_aI, okp_aL, hR_sI, hR_sL, hR_aI, hR_aL]
      refine m_setWord (fr := N) (n := L) (w := fun j => ww (N + j)) hw3 hs hr D3 W (by omega) (fun j hj => by rw [f3.i (by unfold Sd Sc; omega)]; exact (hwd (N + j) (by omega)).2) (fun h4 f4 A4 => ?_)
      have hw4 := f4.WF hw3
      have f4S : Fq Sc h3 h4 := f4.wk (fun a b q => by unfold Pq at q; unfold Sc; omega)
      have D4 := D3.fr f4 (fun a j h1 h2 q => by unfold Pq at q; omega)
      obtain ⟨⟨t, ht, e1, e2, e3, e4⟩, p1, p2⟩ := akR
      obtain ⟨⟨t', ht', e1', e2', e3', e4'⟩, p1', p2'⟩ := akH
      obtain ⟨g1, g2, g3, g4⟩ := tb_R ht
      obtain ⟨g1', g2', g3', g4'⟩ := tb_R ht'
      rw [← e1] at g1; rw [← e2] at g2; rw [← e3] at g3; rw [← e4] at g4
      rw [← e1'] at g1'; rw [← e2'] at g2'; rw [← e3'] at g3'; rw [← e4'] at g4'
      generalize hzR : afs b tn sx sy (fun m => ww (N + (L - 1 - m))) L = zR at *
      generalize hzH : afs b tn sx sy (fun m => ww (N - 1 - m)) N = zH at *
      obtain ⟨d0, d1, d2, d3, d4, d5⟩ := A4
      have pwL := pw L hL
      have pwN := pw N hN
      simp only [x_200_52, x_200_53, x_200_56, x_200_57, x_200_58, x_200_60, x_200_63, x_200_64, x_200_66, x_200_68, x_200_69, x_200_72, x_200_73, x_200_74, x_200_76, x_200_77, x_200_80, x_200_81, x_200_82, x_200_84, x_200_85, x_200_88, x_200_89, x_200_90, x_200_92, x_200_94, x_200_95, x_200_98, x_200_99, x_200_100, x_200_102, x_200_104, x_200_106, x_200_107, x_200_109, x_200_111, x_200_112, x_200_113, x_200_115, x_200_117, x_200_118, x_200_121, x_200_122, x_200_123, x_200_125, x_200_126, x_200_129, x_200_130, x_200_131, x_200_132, x_200_134, x_200_136, x_200_137, x_200_140, x_200_141, x_200_142, x_200_144, x_200_145, x_200_148, x_200_149, x_200_150, x_200_151, x_200_153, x_200_154, x_200_155, x_200_156, x_200_157, x_200_158, o_124 hw4, w_124_17 hw4, o_133 hw4, iOk_lt (k := 133) (by decide), iRd_lt (k := 133) (by decide), show LN 133 = 8 from rfl, cl2_i, cl2_r, cl2_n, cl2_l, tl_s, tl_n, true_and, and_true, Option.some.injEq, exists_eq_left', Bool.and_self, Bool.true_and, Bool.and_true, Bool.or_true, Bool.true_or, i_10, i_00, if_true, if_false, not_true_eq_false, not_false_eq_true, and_false, false_and, okp_sI, okp_sL, okp_aI, okp_aL, hR_sI, hR_sL, hR_aI, hR_aL, inb_nI (n := 8) hs (by decide), nI_clamp (n := s) (by omega), D4.2.1, m_power (b := b) (n := L) (by omega), d0, d1, d2, d3, d4, d5, iv_neg, iv_l (z := (b : Int) ^ L) ⟨by omega, by omega⟩, iv_l (z := zR.1) ⟨by omega, by omega⟩, iv_l (z := -zR.2.1) ⟨by omega, by omega⟩, iv_l (z := -zR.2.2.1) ⟨by omega, by omega⟩, iv_l (z := zR.2.2.2.1) ⟨by omega, by omega⟩, iv_l (z := zR.2.2.2.2.1) ⟨by omega, by omega⟩, iv_l (z := zR.2.2.2.2.2) ⟨by omega, by omega⟩, jv_sub, jv_mul]
      refine m_setWord (fr := 0) (n := N) (w := ww) hw4 hs hr D4 W (by omega) (fun j hj => by rw [Nat.zero_add, f4.i (by unfold Pq; omega), f3.i (by unfold Sd Sc; omega)]; exact (hwd j (by omega)).2) (fun h5 f5 A5 => ?_)
      have hw5 := f5.WF hw4
      have f5S : Fq Sc h3 h5 := f4S.tr (f5.wk (fun a b q => by unfold Pq at q; unfold Sc; omega))
      have D5 := D4.fr f5 (fun a j h1 h2 q => by unfold Pq at q; omega)
      rw [hzH] at A5
      obtain ⟨c0, c1, c2, c3, c4, c5⟩ := A5
      have eD : (↑b ^ L - zR.1) * (↑b ^ L - zR.2.2.2.1) - -zR.2.1 * -zR.2.2.1 = plD (↑b ^ L) zR := by unfold plD; rw [Int.neg_mul_neg]
      have eX : (↑b ^ L - zR.2.2.2.1) * zR.2.2.2.2.1 - -zR.2.1 * zR.2.2.2.2.2 = plX (↑b ^ L) zR := by unfold plX; rw [Int.neg_mul, Int.sub_neg]
      have eY : (↑b ^ L - zR.1) * zR.2.2.2.2.2 - -zR.2.2.1 * zR.2.2.2.2.1 = plY (↑b ^ L) zR := by unfold plY; rw [Int.neg_mul, Int.sub_neg, Int.add_comm]
      have eUX : zH.1 * plX (↑b ^ L) zR + zH.2.1 * plY (↑b ^ L) zR + plD (↑b ^ L) zR * zH.2.2.2.2.1 = upX (↑b ^ L) zR zH := by unfold upX; rw [Int.mul_comm (plD _ _)]
      have eUY : zH.2.2.1 * plX (↑b ^ L) zR + zH.2.2.2.1 * plY (↑b ^ L) zR + plD (↑b ^ L) zR * zH.2.2.2.2.2 = upY (↑b ^ L) zR zH := by unfold upY; rw [Int.mul_comm (plD _ _)]
      have eL : plD (↑b ^ L) zR * ↑b ^ N = ↑b ^ N * plD (↑b ^ L) zR := Int.mul_comm _ _
      simp only [x_200_161, x_200_162, x_200_165, x_200_166, x_200_168, x_200_169, x_200_170, x_200_173, x_200_174, x_200_176, x_200_177, x_200_178, x_200_180, x_200_181, x_200_184, x_200_185, x_200_186, x_200_187, x_200_189, x_200_190, x_200_193, x_200_194, x_200_196, x_200_197, x_200_198, x_200_201, x_200_202, x_200_204, x_200_205, x_200_206, x_200_208, x_200_209, x_200_212, x_200_213, x_200_214, x_200_215, x_200_217, x_200_218, x_200_220, x_200_223, x_200_225, x_200_228, x_200_230, x_200_232, x_200_233, x_200_236, x_200_237, x_200_238, x_200_239, x_200_242, x_200_243, x_200_244, o_124 hw5, w_124_17 hw5, o_133 hw5, iOk_lt (k := 133) (by decide), iRd_lt (k := 133) (by decide), show LN 133 = 8 from rfl, cl2_i, cl2_r, cl2_n, cl2_l, tl_s, tl_n, true_and, and_true, Option.some.injEq, exists_eq_left', Bool.and_self, Bool.true_and, Bool.and_true, Bool.or_true, Bool.true_or, i_10, i_00, if_true, if_false, not_true_eq_false, not_false_eq_true, and_false, false_and, okp_sI, okp_sL, okp_aI, okp_aL, hR_sI, hR_sL, hR_aI, hR_aL, inb_nI (n := 8) hs (by decide), nI_clamp (n := s) (by omega), D5.2.1, m_power (b := b) (n := N) (by omega), c0, c1, c2, c3, c4, c5, eD, eX, eY, iv_l (z := (b : Int) ^ N) ⟨by omega, by omega⟩, iv_l (z := zH.1) ⟨by omega, by omega⟩, iv_l (z := zH.2.1) ⟨by omega, by omega⟩, iv_l (z := zH.2.2.1) ⟨by omega, by omega⟩, iv_l (z := zH.2.2.2.1) ⟨by omega, by omega⟩, iv_l (z := zH.2.2.2.2.1) ⟨by omega, by omega⟩, iv_l (z := zH.2.2.2.2.2) ⟨by omega, by omega⟩, jv_add, jv_mul, eUX, eUY, eL]
      rw [← hh3] at f5S
      by_cases ew : w = 0
      · rw [if_pos ew] at eU ⊢
        rw [← eU, m_share hw5 hU hU2 okL okL2]
        simp only [x_200_247, cl2_i, cl2_r, cl2_n, cl2_l, tl_s, tl_n, true_and, and_true, Option.some.injEq, exists_eq_left', Bool.and_self, Bool.true_and, Bool.and_true, Bool.or_true, Bool.true_or, i_10, i_00, if_true, if_false, not_true_eq_false, not_false_eq_true, and_false, false_and, okp_sI, okp_sL, okp_aI, okp_aL, hR_sI, hR_sL, hR_aI, hR_aL]
        first | exact cm_eF hc f2S f5S | exact ⟨rfl, cm_eF hc f2S f5S⟩ | exact ⟨⟨_, rfl, rfl⟩, cm_eF hc f2S f5S⟩
      · rw [if_neg ew] at eU ⊢
        rw [← eU, m_share hw5 hU hU2 okL okL2]
        simp only [x_200_247, cl2_i, cl2_r, cl2_n, cl2_l, tl_s, tl_n, true_and, and_true, Option.some.injEq, exists_eq_left', Bool.and_self, Bool.true_and, Bool.and_true, Bool.or_true, Bool.true_or, i_10, i_00, if_true, if_false, not_true_eq_false, not_false_eq_true, and_false, false_and, okp_sI, okp_sL, okp_aI, okp_aL, hR_sI, hR_sL, hR_aI, hR_aL]
        first | exact cm_eF hc f2S f5S | exact ⟨rfl, cm_eF hc f2S f5S⟩ | exact ⟨⟨_, rfl, rfl⟩, cm_eF hc f2S f5S⟩
    have A2' := A2
    obtain ⟨a0, a1, a2, a3, a4, a5, a6⟩ := A1'
    simp only [x_114_104, x_114_105, x_114_108, x_114_111, x_114_113, x_114_114, x_114_117, x_114_120, x_114_122, x_114_124, x_114_127, x_114_128, x_114_131, x_114_134, x_114_136, x_114_137, x_114_138, x_114_141, x_114_144, x_114_145, x_114_148, x_114_151, x_114_152, x_114_153, x_114_154, x_114_157, x_114_160, x_114_162, x_114_163, x_114_164, x_114_167, x_114_168, x_114_171, x_114_174, x_114_176, x_114_177, x_114_178, x_114_181, x_114_184, x_114_185, x_114_188, x_114_191, x_114_192, x_114_193, x_114_194, x_114_197, x_114_200, x_114_202, x_114_203, x_114_204, o_0 hw2, w_0_5 hw2, w_0_6 hw2, o_15 hw2, o_14 hw2, cl2_i, cl2_r, cl2_n, cl2_l, tl_s, tl_n, true_and, and_true, Option.some.injEq, exists_eq_left', Bool.and_self, Bool.true_and, Bool.and_true, Bool.or_true, Bool.true_or, i_10, i_00, if_true, if_false, not_true_eq_false, not_false_eq_true, and_false, false_and, okp_sI, okp_sL, okp_aI, okp_aL, hR_sI, hR_sL, hR_aI, hR_aL, o_14 hw2, o_15 hw2, c_fixedX (o_15 hw2) A2', c_fixedY (o_15 hw2) A2', c_divisor (o_15 hw2) A2', a0, a1, a2, a3, a4, a5, a6, jv_mul, jv_add]
    by_cases ew : w = 0
    · rw [if_pos ew]
      simp only [x_114_206, x_114_207, x_114_209, x_114_210, x_114_213, x_114_216, x_114_218, x_114_219, o_0 hw2, w_0_5 hw2, o_14 hw2, cl2_i, cl2_r, cl2_n, cl2_l, tl_s, tl_n, true_and, and_true, Option.some.injEq, exists_eq_left', Bool.and_self, Bool.true_and, Bool.and_true, Bool.or_true, Bool.true_or, i_10, i_00, if_true, if_false, not_true_eq_false, not_false_eq_true, and_false, false_and, okp_sI, okp_sL, okp_aI, okp_aL, hR_sI, hR_sL, hR_aI, hR_aL, o_14 hw2, a6, jv_mul]
      change Tr sc 18 154 (ent0 154 [.ref 0, .long (jv (upX ((b : Int) ^ L) (afs b tn sx sy (fun m => ww (N + (L - 1 - m))) L) (afs b tn sx sy (fun m => ww (N - 1 - m)) N))), .long (jv ((b : Int) ^ N * plD ((b : Int) ^ L) (afs b tn sx sy (fun m => ww (N + (L - 1 - m))) L)))] h2) _
      rw [c_tell hw2 okX.1 okX.2 okL okL2]
      simp only [x_114_222, x_114_223, cl2_i, cl2_r, cl2_n, cl2_l, tl_s, tl_n, true_and, and_true, Option.some.injEq, exists_eq_left', Bool.and_self, Bool.true_and, Bool.and_true, Bool.or_true, Bool.true_or, i_10, i_00, if_true, if_false, not_true_eq_false, not_false_eq_true, and_false, false_and, okp_sI, okp_sL, okp_aI, okp_aL, hR_sI, hR_sL, hR_aI, hR_aL]
      exact key _ okX.1 okX.2 (by rw [if_pos ew])
    · rw [if_neg ew]
      simp only [x_114_206, x_114_207, x_114_209, x_114_210, x_114_213, x_114_216, x_114_218, x_114_219, o_0 hw2, w_0_5 hw2, o_14 hw2, cl2_i, cl2_r, cl2_n, cl2_l, tl_s, tl_n, true_and, and_true, Option.some.injEq, exists_eq_left', Bool.and_self, Bool.true_and, Bool.and_true, Bool.or_true, Bool.true_or, i_10, i_00, if_true, if_false, not_true_eq_false, not_false_eq_true, and_false, false_and, okp_sI, okp_sL, okp_aI, okp_aL, hR_sI, hR_sL, hR_aI, hR_aL, o_14 hw2, a6, jv_mul]
      change Tr sc 18 154 (ent0 154 [.ref 0, .long (jv (upY ((b : Int) ^ L) (afs b tn sx sy (fun m => ww (N + (L - 1 - m))) L) (afs b tn sx sy (fun m => ww (N - 1 - m)) N))), .long (jv ((b : Int) ^ N * plD ((b : Int) ^ L) (afs b tn sx sy (fun m => ww (N + (L - 1 - m))) L)))] h2) _
      rw [c_tell hw2 okY.1 okY.2 okL okL2]
      simp only [x_114_222, x_114_223, cl2_i, cl2_r, cl2_n, cl2_l, tl_s, tl_n, true_and, and_true, Option.some.injEq, exists_eq_left', Bool.and_self, Bool.true_and, Bool.and_true, Bool.or_true, Bool.true_or, i_10, i_00, if_true, if_false, not_true_eq_false, not_false_eq_true, and_false, false_and, okp_sI, okp_sL, okp_aI, okp_aL, hR_sI, hR_sL, hR_aI, hR_aL]
      exact key _ okY.1 okY.2 (by rw [if_neg ew])
end PL
