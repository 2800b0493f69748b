/-! ===== put ===== -/
section T2
variable {sc : Nat × (Nat → Int32)} {d : Nat} {Q : PRes → Prop} {h : PH} {k r : Nat} {x i v n : Int32}
theorem both_put (hc : CM h) : Both sc 103 171 [.int x, .int i, .int v] h := by
  unfold Both
  obtain ⟨hw, hf, hr, ht, hs⟩ := id hc
  by_cases e0 : 0 ≤ x ∧ x < 4
  · obtain ⟨rn, hrn, rfl⟩ := ir_of (n := 4) (by decide) e0
    obtain ⟨w1, w2, w3, w4, w5⟩ := hw.text hrn
    rw [e_103]
    simp only [x_103_0, x_103_1, x_103_4, x_103_7, x_103_8, x_103_9, x_103_10, x_103_13, x_103_14, x_103_15, x_103_18, x_103_21, x_103_22, x_103_23, x_103_26, x_103_27, x_103_28, x_103_31, x_103_32, x_103_33, x_103_34, x_103_37, x_103_40, x_103_41, x_103_42, x_103_45, x_103_46, x_103_47, x_103_50, x_103_51, x_103_52, x_103_55, x_103_56, x_103_57, x_103_59, x_103_60, x_103_63, x_103_64, x_103_65, x_103_68, x_103_69, x_103_70, x_103_71, x_103_72, x_103_74, x_103_77, x_103_78, c_isText, isText_t hrn, i_10, if_false, tl_s, o_0 hw, w_0_1 hw, o_2 hw, Bool.true_or, inb_nI (n := LN 2) hrn (by decide), Bool.and_self, nI_clamp (n := rn) (by omega), w1, w2, w3, true_and, Option.some.injEq, exists_eq_left', c_isMiss w3, c_hasPlace w3, bI_0, c_refuse_1 hw, c_refuse_2 hw]
    by_cases e1 : hI h (60 + 2 * rn) 1 < 0
    · rw [if_neg (fun q => q e1)]
      have hw1 := WF_refu (f := 1) hw
      rw [e_171]
      simp only [x_171_0, x_171_1, x_171_2, x_171_5, x_171_7, x_171_9, x_171_12, x_171_14, x_171_15, x_171_16, x_171_17, x_171_18, x_171_21, x_171_22, x_171_23, x_171_24, x_171_25, x_171_28, x_171_31, x_171_32, x_171_33, x_171_36, x_171_37, x_171_38, x_171_41, x_171_43, x_171_44, x_171_45, x_171_46, x_171_47, x_171_48, x_171_50, x_171_51, x_171_54, x_171_56, x_171_57, x_171_58, x_171_59, x_171_60, x_171_61, x_171_62, x_171_63, x_171_65, x_171_68, x_171_69, m_askedText hw1 hrn, o_124 hw1, true_and]
      have e2 : ¬ 0 ≤ hI (refu h 1) 129 rn := by rw [refu_I (by decide) (by decide), ← tz_neg ht hrn]; exact e1
      rw [if_neg e2]
      simp only [tl_s, x_171_0, x_171_1, x_171_2, x_171_5, x_171_7, x_171_9, x_171_12, x_171_14, x_171_15, x_171_16, x_171_17, x_171_18, x_171_21, x_171_22, x_171_23, x_171_24, x_171_25, x_171_28, x_171_31, x_171_32, x_171_33, x_171_36, x_171_37, x_171_38, x_171_41, x_171_43, x_171_44, x_171_45, x_171_46, x_171_47, x_171_48, x_171_50, x_171_51, x_171_54, x_171_56, x_171_57, x_171_58, x_171_59, x_171_60, x_171_61, x_171_62, x_171_63, x_171_65, x_171_68, x_171_69, i_m3, if_false, cl2_i, Option.some.injEq, exists_eq_left', true_and]
      exact cm_ref (by decide) hc
    · rw [if_pos e1]
      have e2 : 0 ≤ hI h 129 rn := Classical.not_not.mp (fun q => e1 (by rw [tz_neg ht hrn]; exact q))
      obtain ⟨e3, e4⟩ := tz_eq ht hrn e2
      rw [e3]
      by_cases e5 : 0 ≤ i ∧ i < hI h 129 rn
      · rw [if_neg (fun q => q e5)]
        obtain ⟨j, hj, rfl⟩ := ix_of (N := 60) (by decide) e4 e5
        have hcl : (nI j).toNatClampNeg = j := nI_clamp (by omega)
        simp only [x_103_0, x_103_1, x_103_4, x_103_7, x_103_8, x_103_9, x_103_10, x_103_13, x_103_14, x_103_15, x_103_18, x_103_21, x_103_22, x_103_23, x_103_26, x_103_27, x_103_28, x_103_31, x_103_32, x_103_33, x_103_34, x_103_37, x_103_40, x_103_41, x_103_42, x_103_45, x_103_46, x_103_47, x_103_50, x_103_51, x_103_52, x_103_55, x_103_56, x_103_57, x_103_59, x_103_60, x_103_63, x_103_64, x_103_65, x_103_68, x_103_69, x_103_70, x_103_71, x_103_72, x_103_74, x_103_77, x_103_78, iOk_ok w4, iRd_ok w4, w5, inb_nI (n := 60) hj (by decide), hcl, true_and, o_0 hw, w_0_1 hw, o_2 hw, Bool.true_or, Bool.and_self, inb_nI (n := LN 2) hrn (by decide), nI_clamp (n := rn) (by omega), w1, w2, w3, w4, Option.some.injEq, exists_eq_left', cl2_i]
        generalize hh : sI h (61 + 2 * rn) j v.toInt8.toInt32 = h1
        have hf1 : Fr (fun a => a = 61 + 2 * rn) h h1 := by rw [← hh]; exact Fr_sI rfl
        have hw1 : WF h1 := Fr_WF hf1 hw
        have g1 : hI h1 129 rn = hI h 129 rn := (hf1.2.2 129 (by omega) rn).1
        have g2 : hI h1 130 (60 * rn + j) = hI h 130 (60 * rn + j) := (hf1.2.2 130 (by omega) _).1
        have g3 : 60 * rn + j < 240 := by omega
        rw [e_171]
        simp only [x_171_0, x_171_1, x_171_2, x_171_5, x_171_7, x_171_9, x_171_12, x_171_14, x_171_15, x_171_16, x_171_17, x_171_18, x_171_21, x_171_22, x_171_23, x_171_24, x_171_25, x_171_28, x_171_31, x_171_32, x_171_33, x_171_36, x_171_37, x_171_38, x_171_41, x_171_43, x_171_44, x_171_45, x_171_46, x_171_47, x_171_48, x_171_50, x_171_51, x_171_54, x_171_56, x_171_57, x_171_58, x_171_59, x_171_60, x_171_61, x_171_62, x_171_63, x_171_65, x_171_68, x_171_69, m_askedText hw1 hrn, o_124 hw1, true_and, g1]
        rw [if_pos e2]
        simp only [tl_s, x_171_0, x_171_1, x_171_2, x_171_5, x_171_7, x_171_9, x_171_12, x_171_14, x_171_15, x_171_16, x_171_17, x_171_18, x_171_21, x_171_22, x_171_23, x_171_24, x_171_25, x_171_28, x_171_31, x_171_32, x_171_33, x_171_36, x_171_37, x_171_38, x_171_41, x_171_43, x_171_44, x_171_45, x_171_46, x_171_47, x_171_48, x_171_50, x_171_51, x_171_54, x_171_56, x_171_57, x_171_58, x_171_59, x_171_60, x_171_61, x_171_62, x_171_63, x_171_65, x_171_68, x_171_69, i_0, if_true, cl2_i, o_124 hw1, w_124_9 hw1, w_124_10 hw1, o_129 hw1, o_130 hw1, iOk_ok (o_129 hw1), iRd_ok (o_129 hw1), iOk_ok (o_130 hw1), iRd_ok (o_130 hw1), inb_nI (n := LN 129) hrn (by decide), inb_nI (n := LN 130) g3 (by decide), nI_clamp (n := 60 * rn + j) (by omega), Bool.and_self, nI_clamp (n := rn) (by omega), Option.some.injEq, exists_eq_left', true_and, g1, g2, m_in, t_le1 e2 e4, bI_t e5, i_10, if_false, put_ix hrn hj, Value.int.injEq]
        have hf2 : Fr (fun a => a = 61 + 2 * rn ∨ a = 130) h (sI h1 130 (60 * rn + j) v.toInt8.toInt32) := (hf1.wk (fun a q => by omega)).tr (Fr_sI (Or.inr rfl))
        refine ⟨by rw [(ht rn hrn).2 j hj], Fr_WF hf2 hw, CMf_fr hf2 (fun a q z => by omega) hf, CMr_fr hf2 (fun a q z => by omega) hr, ?_, CMs_fr hf2 (fun a q z => by omega) hs⟩
        intro r' hr'
        obtain ⟨c1, c2⟩ := ht r' hr'
        rw [← hh]
        refine ⟨?_, fun b hb => ?_⟩
        · simp only [hI_sI, Nat.reduceEqDiff, if_false, show ¬ (60 + 2 * r' = 130) from by omega, show ¬ (60 + 2 * r' = 61 + 2 * rn) from by omega, show ¬ (129 = 61 + 2 * rn) from by omega]
          exact c1
        · simp only [hI_sI, Nat.reduceEqDiff, if_false, if_true, show ¬ (61 + 2 * r' = 130) from by omega, show ¬ (130 = 61 + 2 * rn) from by omega]
          by_cases q1 : r' = rn
          · subst q1
            by_cases q2 : b = j
            · subst q2
              simp only [if_true]
            · rw [if_neg (by omega), if_pos rfl, if_neg q2]
              exact c2 b hb
          · rw [if_neg (by omega), if_neg (by omega)]
            exact c2 b hb
      · rw [if_pos e5]
        have hw1 := WF_refu (f := 2) hw
        have g1 : hI (refu h 2) 129 rn = hI h 129 rn := refu_I (by decide) (by decide)
        rw [e_171]
        simp only [x_171_0, x_171_1, x_171_2, x_171_5, x_171_7, x_171_9, x_171_12, x_171_14, x_171_15, x_171_16, x_171_17, x_171_18, x_171_21, x_171_22, x_171_23, x_171_24, x_171_25, x_171_28, x_171_31, x_171_32, x_171_33, x_171_36, x_171_37, x_171_38, x_171_41, x_171_43, x_171_44, x_171_45, x_171_46, x_171_47, x_171_48, x_171_50, x_171_51, x_171_54, x_171_56, x_171_57, x_171_58, x_171_59, x_171_60, x_171_61, x_171_62, x_171_63, x_171_65, x_171_68, x_171_69, m_askedText hw1 hrn, o_124 hw1, true_and, g1]
        rw [if_pos e2]
        simp only [tl_s, x_171_0, x_171_1, x_171_2, x_171_5, x_171_7, x_171_9, x_171_12, x_171_14, x_171_15, x_171_16, x_171_17, x_171_18, x_171_21, x_171_22, x_171_23, x_171_24, x_171_25, x_171_28, x_171_31, x_171_32, x_171_33, x_171_36, x_171_37, x_171_38, x_171_41, x_171_43, x_171_44, x_171_45, x_171_46, x_171_47, x_171_48, x_171_50, x_171_51, x_171_54, x_171_56, x_171_57, x_171_58, x_171_59, x_171_60, x_171_61, x_171_62, x_171_63, x_171_65, x_171_68, x_171_69, i_0, if_true, cl2_i, o_124 hw1, w_124_9 hw1, iOk_ok (o_129 hw1), iRd_ok (o_129 hw1), inb_nI (n := LN 129) hrn (by decide), nI_clamp (n := rn) (by omega), Option.some.injEq, exists_eq_left', true_and, g1, m_in, t_le1 e2 e4, bI_f e5, i_00, m_meets_2 hw1]
        exact cm_ref (by decide) hc
  · rw [e_103]
    have hb : bI (0 ≤ x ∧ x < 4) = 0 := bI_f e0
    simp only [x_103_0, x_103_1, x_103_4, x_103_7, x_103_8, x_103_9, x_103_10, x_103_13, x_103_14, x_103_15, x_103_18, x_103_21, x_103_22, x_103_23, x_103_26, x_103_27, x_103_28, x_103_31, x_103_32, x_103_33, x_103_34, x_103_37, x_103_40, x_103_41, x_103_42, x_103_45, x_103_46, x_103_47, x_103_50, x_103_51, x_103_52, x_103_55, x_103_56, x_103_57, x_103_59, x_103_60, x_103_63, x_103_64, x_103_65, x_103_68, x_103_69, x_103_70, x_103_71, x_103_72, x_103_74, x_103_77, x_103_78, c_isText, hb, i_00, if_true, tl_s]
    rw [e_171]
    simp only [x_171_0, x_171_1, x_171_2, x_171_5, x_171_7, x_171_9, x_171_12, x_171_14, x_171_15, x_171_16, x_171_17, x_171_18, x_171_21, x_171_22, x_171_23, x_171_24, x_171_25, x_171_28, x_171_31, x_171_32, x_171_33, x_171_36, x_171_37, x_171_38, x_171_41, x_171_43, x_171_44, x_171_45, x_171_46, x_171_47, x_171_48, x_171_50, x_171_51, x_171_54, x_171_56, x_171_57, x_171_58, x_171_59, x_171_60, x_171_61, x_171_62, x_171_63, x_171_65, x_171_68, x_171_69, m_askedText_bad e0, tl_s, i_m1, if_false, cl2_i, o_124 hw, true_and, Option.some.injEq, exists_eq_left']
    exact hc
end T2
