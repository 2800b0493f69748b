/-! ===== average ===== -/
def sumL (f : Nat → Int32) : Nat → Int64
  | 0 => 0
  | n + 1 => sumL f n + (f n).toInt64
section AV
variable {sc : Nat × (Nat → Int32)} {d : Nat} {Q : PRes → Prop} {h : PH} {k q r : Nat} {x : Int32}
theorem sumL_congr {f g : Nat → Int32} : ∀ (n : Nat), (∀ j, j < n → f j = g j) → sumL f n = sumL g n
  | 0, _ => rfl
  | n + 1, hh => by
    unfold sumL
    rw [sumL_congr n (fun j hj => hh j (by omega)), hh n (by omega)]
theorem c_sum_loop {N : Nat} (ho : okp h k 5 = true) (hq : hR h k 0 = some q) (oq : okp h q 11 = true) (hz : hI h k 1 = nI N) (hN : N ≤ LN q) (hL : LN q < 2 ^ 31) : ∀ (n i : Nat), i + n = N → Tr sc d 45 (4, [some (.ref k), some (.long (sumL (hI h q) i)), none, some (.int (nI i))], [], h) Q = Q (some (.long (sumL (hI h q) N)), h) := by
  intro n
  induction n with
  | zero =>
    intro i hi
    have e : i = N := by omega
    subst e
    rw [x_45_4]
    simp only [x_45_0, x_45_1, x_45_2, x_45_3, x_45_5, x_45_6, x_45_9, x_45_12, x_45_13, x_45_14, x_45_17, x_45_18, x_45_19, x_45_20, x_45_21, x_45_22, x_45_25, x_45_28, x_45_29, ho, hz, true_and]
    rw [if_pos (Int32.le_refl _)]
  | succ n ih =>
    intro i hi
    have hlt : i < N := by omega
    rw [x_45_4]
    simp only [x_45_0, x_45_1, x_45_2, x_45_3, x_45_5, x_45_6, x_45_9, x_45_12, x_45_13, x_45_14, x_45_17, x_45_18, x_45_19, x_45_20, x_45_21, x_45_22, x_45_25, x_45_28, x_45_29, ho, hz, hq, true_and, Option.some.injEq, exists_eq_left', iOk_ok oq, iRd_ok oq, inb_nI (i := i) (n := LN q) (by omega) hL, nI_clamp (n := i) (by omega), nI_1, cl2_r, cl2_n]
    rw [if_neg (nI_ge hlt (by omega))]
    exact ih (i + 1) (by omega)
theorem c_sum {N : Nat} (ho : okp h k 5 = true) (hq : hR h k 0 = some q) (oq : okp h q 11 = true) (hz : hI h k 1 = nI N) (hN : N ≤ LN q) (hL : LN q < 2 ^ 31) : Tr sc d 45 (ent0 45 [.ref k] h) Q = Q (some (.long (sumL (hI h q) N)), h) := by
  rw [e_45]
  simp only [x_45_0, x_45_1, x_45_2, x_45_3, x_45_5, x_45_6, x_45_9, x_45_12, x_45_13, x_45_14, x_45_17, x_45_18, x_45_19, x_45_20, x_45_21, x_45_22, x_45_25, x_45_28, x_45_29, cl2_r, cl2_n]
  exact c_sum_loop ho hq oq hz hN hL N 0 (by omega)
theorem m_avg_loop {N : Nat} {v : Int32} (hw : WF h) (hr : r < 6) (hz : hI h 126 r = nI N) (hN : N ≤ 40) : ∀ (n i : Nat), i + n = N → Tr sc (d + 1) 169 (17, [some (.ref 124), some (.int (nI r)), some (.int v), some (.long (sumL (fun j => hI h 127 (40 * r + j)) i)), none, some (.int (nI i))], [], h) Q = Tr sc (d + 1) 169 (50, [some (.ref 124), some (.int (nI r)), some (.int v), some (.long (sumL (fun j => hI h 127 (40 * r + j)) N)), none, some (.int (nI N))], [], h) Q := by
  intro n
  induction n with
  | zero =>
    intro i hi
    have e : i = N := by omega
    subst e
    rw [x_169_17]
    simp only [x_169_0, x_169_1, x_169_2, x_169_5, x_169_6, x_169_7, x_169_10, x_169_11, x_169_12, x_169_13, x_169_14, x_169_15, x_169_19, x_169_20, x_169_23, x_169_24, x_169_25, x_169_28, x_169_29, x_169_30, x_169_33, x_169_35, x_169_36, x_169_37, x_169_39, x_169_40, x_169_41, x_169_42, x_169_43, x_169_44, x_169_47, x_169_51, x_169_54, x_169_55, x_169_56, x_169_59, x_169_60, x_169_61, x_169_64, x_169_67, x_169_68, x_169_69, x_169_70, x_169_73, x_169_74, x_169_75, x_169_76, x_169_77, x_169_78, x_169_79, x_169_82, o_124 hw, w_124_6 hw, iOk_ok (o_126 hw), iRd_ok (o_126 hw), inb_nI (n := LN 126) hr (by decide), nI_clamp (n := r) (by omega), hz, true_and, Option.some.injEq, exists_eq_left']
    rw [if_pos (Int32.le_refl _)]
  | succ n ih =>
    intro i hi
    have hlt : i < N := by omega
    have g3 : 40 * r + i < 240 := by omega
    rw [x_169_17]
    simp only [x_169_0, x_169_1, x_169_2, x_169_5, x_169_6, x_169_7, x_169_10, x_169_11, x_169_12, x_169_13, x_169_14, x_169_15, x_169_19, x_169_20, x_169_23, x_169_24, x_169_25, x_169_28, x_169_29, x_169_30, x_169_33, x_169_35, x_169_36, x_169_37, x_169_39, x_169_40, x_169_41, x_169_42, x_169_43, x_169_44, x_169_47, x_169_51, x_169_54, x_169_55, x_169_56, x_169_59, x_169_60, x_169_61, x_169_64, x_169_67, x_169_68, x_169_69, x_169_70, x_169_73, x_169_74, x_169_75, x_169_76, x_169_77, x_169_78, x_169_79, x_169_82, o_124 hw, w_124_6 hw, w_124_7 hw, iOk_ok (o_126 hw), iRd_ok (o_126 hw), iOk_ok (o_127 hw), iRd_ok (o_127 hw), inb_nI (n := LN 126) hr (by decide), inb_nI (n := LN 127) g3 (by decide), nI_clamp (n := r) (by omega), nI_clamp (n := 40 * r + i) (by omega), hz, true_and, Option.some.injEq, exists_eq_left', lay_ix (a := r) (b := i) hr (by omega), nI_1, cl2_i, cl2_n]
    rw [if_neg (nI_ge hlt (by omega))]
    exact ih (i + 1) (by omega)
theorem i64_0 {a : Int32} : (a.toInt64 = 0) = (a = 0) := by
  apply propext
  constructor
  · intro e
    have h1 : a.toInt64.toInt = (0 : Int64).toInt := by rw [e]
    rw [Int32.toInt_toInt64] at h1
    exact Int32.toInt_inj.mp (h1.trans rfl)
  · intro e; rw [e]; rfl
theorem both_average (hc : CM h) : Both sc 101 169 [.int x] h := by
  unfold Both
  obtain ⟨hw, hf, hr, ht, hs⟩ := id hc
  by_cases e0 : 0 ≤ x ∧ x < 6
  · obtain ⟨rn, hrn, rfl⟩ := ir_of (n := 6) (by decide) e0
    obtain ⟨w1, w2, w3, w4, w5⟩ := hw.row hrn
    rw [e_101]
    simp only [x_101_0, x_101_1, x_101_4, x_101_7, x_101_8, x_101_9, x_101_10, x_101_13, x_101_14, x_101_15, x_101_18, x_101_21, x_101_22, x_101_23, x_101_26, x_101_27, x_101_28, x_101_31, x_101_32, x_101_33, x_101_36, x_101_39, x_101_40, x_101_41, x_101_44, x_101_45, x_101_46, x_101_47, x_101_50, x_101_51, x_101_52, x_101_55, x_101_56, x_101_59, x_101_60, x_101_61, x_101_64, x_101_65, x_101_66, x_101_67, x_101_70, x_101_71, c_isRow, isRow_t hrn, i_10, if_false, tl_s, o_0 hw, w_0_0 hw, o_1 hw, Bool.true_or, inb_nI (n := LN 1) hrn (by decide), Bool.and_self, nI_clamp (n := rn) (by omega), w1, w3, true_and, Option.some.injEq, exists_eq_left', c_isMiss w3, bI_0, c_refuse_1 hw, c_refuse_4 hw]
    by_cases e1 : hI h (48 + 2 * rn) 1 < 0
    · rw [if_neg (fun q => q e1)]
      have hw1 := WF_refu (f := 1) hw
      rw [e_169]
      simp only [x_169_0, x_169_1, x_169_2, x_169_5, x_169_6, x_169_7, x_169_10, x_169_11, x_169_12, x_169_13, x_169_14, x_169_15, x_169_19, x_169_20, x_169_23, x_169_24, x_169_25, x_169_28, x_169_29, x_169_30, x_169_33, x_169_35, x_169_36, x_169_37, x_169_39, x_169_40, x_169_41, x_169_42, x_169_43, x_169_44, x_169_47, x_169_50, x_169_51, x_169_54, x_169_55, x_169_56, x_169_59, x_169_60, x_169_61, x_169_64, x_169_67, x_169_68, x_169_69, x_169_70, x_169_73, x_169_74, x_169_75, x_169_76, x_169_77, x_169_78, x_169_79, x_169_82, m_askedRow hw1 hrn, o_124 hw1, true_and]
      have e2 : ¬ 0 ≤ hI (refu h 1) 126 rn := by rw [refu_I (by decide) (by decide), ← sz_neg hr hrn]; exact e1
      rw [if_neg e2]
      simp only [tl_s, x_169_0, x_169_1, x_169_2, x_169_5, x_169_6, x_169_7, x_169_10, x_169_11, x_169_12, x_169_13, x_169_14, x_169_15, x_169_19, x_169_20, x_169_23, x_169_24, x_169_25, x_169_28, x_169_29, x_169_30, x_169_33, x_169_35, x_169_36, x_169_37, x_169_39, x_169_40, x_169_41, x_169_42, x_169_43, x_169_44, x_169_47, x_169_50, x_169_51, x_169_54, x_169_55, x_169_56, x_169_59, x_169_60, x_169_61, x_169_64, x_169_67, x_169_68, x_169_69, x_169_70, x_169_73, x_169_74, x_169_75, x_169_76, x_169_77, x_169_78, x_169_79, x_169_82, i_m3, if_false, cl2_i, Option.some.injEq, exists_eq_left', true_and]
      exact cm_ref (by decide) hc
    · rw [if_pos e1]
      have e2 : 0 ≤ hI h 126 rn := Classical.not_not.mp (fun q => e1 (by rw [sz_neg hr hrn]; exact q))
      obtain ⟨e3, e4⟩ := sz_eq hr hrn e2
      obtain ⟨N, hN, hz⟩ := nI_of2 (x := hI h 126 rn) (M := 40) (n := 40) rfl (Int32.not_lt.mpr e2) e4
      have hz1 : hI h (48 + 2 * rn) 1 = nI N := by rw [e3, hz]
      by_cases e5 : N = 0
      · subst e5
        rw [if_pos (by rw [hz1]; rfl)]
        have hw1 := WF_refu (f := 4) hw
        have g1 : hI (refu h 4) 126 rn = nI 0 := by rw [refu_I (by decide) (by decide)]; exact hz
        rw [e_169]
        simp only [x_169_0, x_169_1, x_169_2, x_169_5, x_169_6, x_169_7, x_169_10, x_169_11, x_169_12, x_169_13, x_169_14, x_169_15, x_169_19, x_169_20, x_169_23, x_169_24, x_169_25, x_169_28, x_169_29, x_169_30, x_169_33, x_169_35, x_169_36, x_169_37, x_169_39, x_169_40, x_169_41, x_169_42, x_169_43, x_169_44, x_169_47, x_169_50, x_169_51, x_169_54, x_169_55, x_169_56, x_169_59, x_169_60, x_169_61, x_169_64, x_169_67, x_169_68, x_169_69, x_169_70, x_169_73, x_169_74, x_169_75, x_169_76, x_169_77, x_169_78, x_169_79, x_169_82, m_askedRow hw1 hrn, o_124 hw1, true_and]
        rw [if_pos (by rw [g1]; decide)]
        simp only [tl_s, x_169_0, x_169_1, x_169_2, x_169_5, x_169_6, x_169_7, x_169_10, x_169_11, x_169_12, x_169_13, x_169_14, x_169_15, x_169_19, x_169_20, x_169_23, x_169_24, x_169_25, x_169_28, x_169_29, x_169_30, x_169_33, x_169_35, x_169_36, x_169_37, x_169_39, x_169_40, x_169_41, x_169_42, x_169_43, x_169_44, x_169_47, x_169_50, x_169_51, x_169_54, x_169_55, x_169_56, x_169_59, x_169_60, x_169_61, x_169_64, x_169_67, x_169_68, x_169_69, x_169_70, x_169_73, x_169_74, x_169_75, x_169_76, x_169_77, x_169_78, x_169_79, x_169_82, i_0, if_true, cl2_i, cl2_n, cl2_r, cl2_l]
        have hl := fun Q => m_avg_loop (sc := sc) (d := 18) (Q := Q) (h := refu h 4) (r := rn) (N := 0) (v := 0) hw1 hrn g1 (by decide) 0 0 rfl
        refine (hl _).mpr ?_
        simp only [x_169_0, x_169_1, x_169_2, x_169_5, x_169_6, x_169_7, x_169_10, x_169_11, x_169_12, x_169_13, x_169_14, x_169_15, x_169_19, x_169_20, x_169_23, x_169_24, x_169_25, x_169_28, x_169_29, x_169_30, x_169_33, x_169_35, x_169_36, x_169_37, x_169_39, x_169_40, x_169_41, x_169_42, x_169_43, x_169_44, x_169_47, x_169_50, x_169_51, x_169_54, x_169_55, x_169_56, x_169_59, x_169_60, x_169_61, x_169_64, x_169_67, x_169_68, x_169_69, x_169_70, x_169_73, x_169_74, x_169_75, x_169_76, x_169_77, x_169_78, x_169_79, x_169_82, o_124 hw1, w_124_6 hw1, iOk_ok (o_126 hw1), iRd_ok (o_126 hw1), inb_nI (n := LN 126) hrn (by decide), nI_clamp (n := rn) (by omega), g1, true_and, Option.some.injEq, exists_eq_left', m_meets_4 hw1, tl_s]
        rw [if_pos (show nI 0 = 0 from rfl)]
        exact cm_ref (by decide) hc
      · have nz : ¬ nI N = 0 := nI_ne0 (by omega) (by omega)
        rw [if_neg (by rw [hz1]; exact nz)]
        simp only [x_101_0, x_101_1, x_101_4, x_101_7, x_101_8, x_101_9, x_101_10, x_101_13, x_101_14, x_101_15, x_101_18, x_101_21, x_101_22, x_101_23, x_101_26, x_101_27, x_101_28, x_101_31, x_101_32, x_101_33, x_101_36, x_101_39, x_101_40, x_101_41, x_101_44, x_101_45, x_101_46, x_101_47, x_101_50, x_101_51, x_101_52, x_101_55, x_101_56, x_101_59, x_101_60, x_101_61, x_101_64, x_101_65, x_101_66, x_101_67, x_101_70, x_101_71, tl_s, o_0 hw, w_0_0 hw, o_1 hw, Bool.true_or, inb_nI (n := LN 1) hrn (by decide), Bool.and_self, nI_clamp (n := rn) (by omega), w1, w3, true_and, Option.some.injEq, exists_eq_left', c_sum w3 w2 w4 hz1 (by rw [w5]; exact hN) (by rw [w5]; decide), hz1, i64_0, nz, not_false_eq_true]
        generalize ha : (sumL (hI h (49 + 2 * rn)) N / (nI N).toInt64).toInt32 = a
        have hw1 : WF (sI h 0 15 a) := hw
        have g1 : hI (sI h 0 15 a) 126 rn = nI N := hz
        rw [e_169]
        simp only [x_169_0, x_169_1, x_169_2, x_169_5, x_169_6, x_169_7, x_169_10, x_169_11, x_169_12, x_169_13, x_169_14, x_169_15, x_169_19, x_169_20, x_169_23, x_169_24, x_169_25, x_169_28, x_169_29, x_169_30, x_169_33, x_169_35, x_169_36, x_169_37, x_169_39, x_169_40, x_169_41, x_169_42, x_169_43, x_169_44, x_169_47, x_169_50, x_169_51, x_169_54, x_169_55, x_169_56, x_169_59, x_169_60, x_169_61, x_169_64, x_169_67, x_169_68, x_169_69, x_169_70, x_169_73, x_169_74, x_169_75, x_169_76, x_169_77, x_169_78, x_169_79, x_169_82, m_askedRow hw1 hrn, o_124 hw1, true_and]
        rw [if_pos (show 0 ≤ hI (sI h 0 15 a) 126 rn from e2)]
        simp only [tl_s, x_169_0, x_169_1, x_169_2, x_169_5, x_169_6, x_169_7, x_169_10, x_169_11, x_169_12, x_169_13, x_169_14, x_169_15, x_169_19, x_169_20, x_169_23, x_169_24, x_169_25, x_169_28, x_169_29, x_169_30, x_169_33, x_169_35, x_169_36, x_169_37, x_169_39, x_169_40, x_169_41, x_169_42, x_169_43, x_169_44, x_169_47, x_169_50, x_169_51, x_169_54, x_169_55, x_169_56, x_169_59, x_169_60, x_169_61, x_169_64, x_169_67, x_169_68, x_169_69, x_169_70, x_169_73, x_169_74, x_169_75, x_169_76, x_169_77, x_169_78, x_169_79, x_169_82, i_0, if_true, cl2_i, cl2_n, cl2_r, cl2_l]
        have hl := fun Q => m_avg_loop (sc := sc) (d := 18) (Q := Q) (h := sI h 0 15 a) (r := rn) (N := N) (v := 0) hw1 hrn g1 hN N 0 (by omega)
        refine (hl _).mpr ?_
        simp only [x_169_0, x_169_1, x_169_2, x_169_5, x_169_6, x_169_7, x_169_10, x_169_11, x_169_12, x_169_13, x_169_14, x_169_15, x_169_19, x_169_20, x_169_23, x_169_24, x_169_25, x_169_28, x_169_29, x_169_30, x_169_33, x_169_35, x_169_36, x_169_37, x_169_39, x_169_40, x_169_41, x_169_42, x_169_43, x_169_44, x_169_47, x_169_50, x_169_51, x_169_54, x_169_55, x_169_56, x_169_59, x_169_60, x_169_61, x_169_64, x_169_67, x_169_68, x_169_69, x_169_70, x_169_73, x_169_74, x_169_75, x_169_76, x_169_77, x_169_78, x_169_79, x_169_82, o_124 hw1, w_124_6 hw1, iOk_ok (o_126 hw1), iRd_ok (o_126 hw1), inb_nI (n := LN 126) hrn (by decide), nI_clamp (n := rn) (by omega), g1, true_and, Option.some.injEq, exists_eq_left', i64_0, nz, not_false_eq_true, m_ask hw1, tl_s]
        rw [if_neg id]
        have es : sumL (fun j => hI (sI h 0 15 a) 127 (40 * rn + j)) N = sumL (hI h (49 + 2 * rn)) N := sumL_congr N (fun j hj => (hr rn hrn).2 j (by omega))
        rw [es, ha]
        exact cm_asked hc
  · rw [e_101]
    have hb : bI (0 ≤ x ∧ x < 6) = 0 := bI_f e0
    simp only [x_101_0, x_101_1, x_101_4, x_101_7, x_101_8, x_101_9, x_101_10, x_101_13, x_101_14, x_101_15, x_101_18, x_101_21, x_101_22, x_101_23, x_101_26, x_101_27, x_101_28, x_101_31, x_101_32, x_101_33, x_101_36, x_101_39, x_101_40, x_101_41, x_101_44, x_101_45, x_101_46, x_101_47, x_101_50, x_101_51, x_101_52, x_101_55, x_101_56, x_101_59, x_101_60, x_101_61, x_101_64, x_101_65, x_101_66, x_101_67, x_101_70, x_101_71, c_isRow, hb, i_00, if_true, tl_s]
    rw [e_169]
    simp only [x_169_0, x_169_1, x_169_2, x_169_5, x_169_6, x_169_7, x_169_10, x_169_11, x_169_12, x_169_13, x_169_14, x_169_15, x_169_19, x_169_20, x_169_23, x_169_24, x_169_25, x_169_28, x_169_29, x_169_30, x_169_33, x_169_35, x_169_36, x_169_37, x_169_39, x_169_40, x_169_41, x_169_42, x_169_43, x_169_44, x_169_47, x_169_50, x_169_51, x_169_54, x_169_55, x_169_56, x_169_59, x_169_60, x_169_61, x_169_64, x_169_67, x_169_68, x_169_69, x_169_70, x_169_73, x_169_74, x_169_75, x_169_76, x_169_77, x_169_78, x_169_79, x_169_82, m_askedRow_bad e0, tl_s, i_m1, if_false, cl2_i, o_124 hw, true_and, Option.some.injEq, exists_eq_left']
    exact hc
end AV
