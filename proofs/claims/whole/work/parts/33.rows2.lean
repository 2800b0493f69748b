/-! ===== tear, lay, row, findings: class and model answer alike ===== -/
section R4
variable {sc : Nat × (Nat → Int32)} {d : Nat} {Q : PRes → Prop} {h : PH} {k r : Nat} {x i v n : Int32}
theorem i_m1 : (0 ≤ (-1 : Int32)) = False := by apply propext; decide
theorem i_m3 : (0 ≤ (-3 : Int32)) = False := by apply propext; decide
theorem i_0 : (0 ≤ (0 : Int32)) = True := by apply propext; decide
theorem sz_neg (c : CMr h) (hr : r < 6) : (hI h (48 + 2 * r) 1 < 0) = ¬ (0 ≤ hI h 126 r) := by
  apply propext
  rcases (c r hr).1 with ⟨a, b⟩ | ⟨a, b, e⟩
  · rw [a]
    exact ⟨fun _ => Int32.not_le.mpr b, fun _ => by decide⟩
  · rw [e]
    exact ⟨fun q => absurd a (Int32.not_le.mpr q), fun q => absurd a q⟩
theorem sz_eq (c : CMr h) (hr : r < 6) (hs : 0 ≤ hI h 126 r) : hI h (48 + 2 * r) 1 = hI h 126 r ∧ hI h 126 r ≤ 40 := by
  rcases (c r hr).1 with ⟨a, b⟩ | ⟨a, b, e⟩
  · exact absurd hs (Int32.not_le.mpr b)
  · exact ⟨e.symm, by rw [e]; exact b⟩
theorem CMf_fr {P : Nat → Prop} {h' : PH} (f : Fr P h h') (hp : ∀ a, P a → ¬ (a = 0 ∨ a = 47 ∨ a = 124 ∨ a = 125)) (c : CMf h) : CMf h' := by
  have kI : ∀ a, (a = 0 ∨ a = 47 ∨ a = 124 ∨ a = 125) → ∀ b, hI h' a b = hI h a b := fun a ha b => (f.2.2 a (fun q => hp a q ha) b).1
  have kL : ∀ a, (a = 0 ∨ a = 47 ∨ a = 124 ∨ a = 125) → ∀ b, hL h' a b = hL h a b := fun a ha b => (f.2.2 a (fun q => hp a q ha) b).2
  obtain ⟨f1, f2, f3, f4, f5, f6⟩ := c
  refine ⟨?_, fun g hg => ?_, ?_, ?_, ?_, ?_⟩
  · rw [kI 0 (by omega), kI 124 (by omega)]; exact f1
  · rw [kI 47 (by omega), kI 125 (by omega)]; exact f2 g hg
  · rw [kI 0 (by omega), kI 124 (by omega)]; exact f3
  · rw [kL 0 (by omega), kL 124 (by omega)]; exact f4
  · rw [kL 0 (by omega), kL 124 (by omega)]; exact f5
  · rw [kL 0 (by omega), kL 124 (by omega)]; exact f6
theorem nI6 : (6 : Int32) = nI 6 := rfl
theorem isRow_t (hr : r < 6) : bI (0 ≤ nI r ∧ nI r < 6) = 1 := bI_t (ir_in (n := 6) (by decide) hr)
theorem WF_refu {f : Nat} (hw : WF h) : WF (refu h f) := Fr_WF fr_refu hw
theorem WF_refm {f : Nat} (hw : WF h) : WF (refm h f) := Fr_WF fr_refm hw
theorem refu_I {f a b : Nat} (h0 : a ≠ 0) (h1 : a ≠ 47) : hI (refu h f) a b = hI h a b := by
  unfold refu
  rw [hI_sI, if_neg h1, hI_sI, if_neg h0]
theorem both_tear (hc : CM h) : Both sc 99 167 [.int x] h := by
  unfold Both
  obtain ⟨hw, hf, hr, ht, hs⟩ := id hc
  by_cases e0 : 0 ≤ x ∧ x < 6
  · obtain ⟨rn, hrn, rfl⟩ := ir_of (n := 6) (by decide) e0
    obtain ⟨w1, w2, w3, w4, w5⟩ := hw.row hrn
    rw [e_99]
    simp only [x_99_0, x_99_1, x_99_4, x_99_7, x_99_8, x_99_9, x_99_10, x_99_13, x_99_14, x_99_15, x_99_18, x_99_21, x_99_22, x_99_23, x_99_26, x_99_27, x_99_28, x_99_31, x_99_32, x_99_33, x_99_34, x_99_37, x_99_38, c_isRow, isRow_t hrn, i_10, if_false, tl_s, o_0 hw, w_0_0 hw, o_1 hw, Bool.true_or, inb_nI (n := LN 1) hrn (by decide), Bool.and_self, nI_clamp (n := rn) (by omega), w1, true_and, Option.some.injEq, exists_eq_left', c_isMiss w3, w3, bI_0, c_refuse_1 hw]
    by_cases e1 : hI h (48 + 2 * rn) 1 < 0
    · rw [if_neg (fun q => q e1)]
      have hw1 := WF_refu (f := 1) hw
      rw [e_167]
      simp only [x_167_0, x_167_1, x_167_2, x_167_5, x_167_6, x_167_7, x_167_10, x_167_11, x_167_12, x_167_13, x_167_16, x_167_17, x_167_19, x_167_20, x_167_21, m_askedRow hw1 hrn, o_124 hw1, true_and]
      have e2 : ¬ 0 ≤ hI (refu h 1) 126 rn := by rw [refu_I (by decide) (by decide), ← sz_neg hr hrn]; exact e1
      rw [if_neg e2]
      simp only [tl_s, x_167_0, x_167_1, x_167_2, x_167_5, x_167_6, x_167_7, x_167_10, x_167_11, x_167_12, x_167_13, x_167_16, x_167_17, x_167_19, x_167_20, x_167_21, i_m3, if_false, cl2_i, Option.some.injEq, exists_eq_left', true_and]
      exact cm_ref (by decide) hc
    · rw [if_pos e1]
      generalize hh : sI h (48 + 2 * rn) 1 (-1) = h1
      have hf1 : Fr (fun a => a = 48 + 2 * rn) h h1 := by rw [← hh]; exact Fr_sI rfl
      have hw1 : WF h1 := Fr_WF hf1 hw
      have e2 : 0 ≤ hI h1 126 rn := by
        rw [(hf1.2.2 126 (by omega) rn).1]
        exact Classical.not_not.mp (fun q => e1 (by rw [sz_neg hr hrn]; exact q))
      rw [e_167]
      simp only [x_167_0, x_167_1, x_167_2, x_167_5, x_167_6, x_167_7, x_167_10, x_167_11, x_167_12, x_167_13, x_167_16, x_167_17, x_167_19, x_167_20, x_167_21, m_askedRow hw1 hrn, o_124 hw1, true_and]
      rw [if_pos e2]
      simp only [tl_s, x_167_0, x_167_1, x_167_2, x_167_5, x_167_6, x_167_7, x_167_10, x_167_11, x_167_12, x_167_13, x_167_16, x_167_17, x_167_19, x_167_20, x_167_21, i_0, if_true, cl2_i, o_124 hw1, w_124_6 hw1, o_126 hw1, inb_nI (n := LN 126) hrn (by decide), Bool.and_self, nI_clamp (n := rn) (by omega), Option.some.injEq, exists_eq_left', true_and]
      have hf2 : Fr (fun a => a = 48 + 2 * rn ∨ a = 126) h (sI h1 126 rn (-9)) := (hf1.wk (fun _ => Or.inl)).tr (Fr_sI (Or.inr rfl))
      refine ⟨Fr_WF hf2 hw, ?_, ?_, CMt_fr hf2 (fun a q z => by omega) ht, CMs_fr hf2 (fun a q z => by omega) hs⟩
      · exact CMf_fr hf2 (fun a q z => by omega) hf
      · intro r' hr'
        obtain ⟨c1, c2⟩ := hr r' hr'
        rw [← hh]
        refine ⟨?_, fun j hj => ?_⟩
        · by_cases e3 : r' = rn
          · subst e3
            refine Or.inl ⟨?_, ?_⟩
            · rw [hI_sI, if_neg (by omega), hI_sI, if_pos rfl, if_pos rfl]
            · rw [hI_sI, if_pos rfl, if_pos rfl]; decide
          · rw [hI_sI, if_neg (by omega), hI_sI, if_neg (by omega), hI_sI, if_pos rfl, if_neg e3, hI_sI, if_neg (by omega)]
            exact c1
        · rw [hI_sI, if_neg (by omega), hI_sI, if_neg (by omega), hI_sI, if_neg (by omega), hI_sI, if_neg (by omega)]
          exact c2 j hj
  · rw [e_99]
    have hb : bI (0 ≤ x ∧ x < 6) = 0 := bI_f e0
    simp only [x_99_0, x_99_1, x_99_4, x_99_7, x_99_8, x_99_9, x_99_10, x_99_13, x_99_14, x_99_15, x_99_18, x_99_21, x_99_22, x_99_23, x_99_26, x_99_27, x_99_28, x_99_31, x_99_32, x_99_33, x_99_34, x_99_37, x_99_38, c_isRow, hb, i_00, if_true, tl_s]
    rw [e_167]
    simp only [x_167_0, x_167_1, x_167_2, x_167_5, x_167_6, x_167_7, x_167_10, x_167_11, x_167_12, x_167_13, x_167_16, x_167_17, x_167_19, x_167_20, x_167_21, m_askedRow_bad e0, tl_s, i_m1, if_false, cl2_i, o_124 hw, true_and, Option.some.injEq, exists_eq_left']
    exact hc
theorem i40 : ((40 : Int32)).toInt = 40 := rfl
/-- an index of a row that is there -/
theorem ix_of {s : Int32} {N : Nat} (hN : N < 2 ^ 31) (hs : s ≤ nI N) (hi : 0 ≤ i ∧ i < s) : ∃ j, j < N ∧ i = nI j := by
  refine ir_of hN ⟨hi.1, ?_⟩
  have h1 := Int32.lt_iff_toInt_lt.mp hi.2
  have h2 := Int32.le_iff_toInt_le.mp hs
  exact Int32.lt_iff_toInt_lt.mpr (by omega)
theorem lay_ix {a b : Nat} (ha : a < 6) (hb : b < 40) : 40 * nI a + nI b = nI (40 * a + b) := by
  rw [show (40 : Int32) = nI 40 from rfl, pk_mul, nI_add]
theorem i_le1 {s : Int32} (hs : 0 ≤ s) (hs2 : s ≤ 40) : (0 ≤ i ∧ i ≤ s - 1) = (0 ≤ i ∧ i < s) := by
  apply propext
  have e : (s - 1).toInt = s.toInt - 1 := by
    rw [Int32.toInt_sub]
    have h1 := Int32.le_iff_toInt_le.mp hs
    have h2 := Int32.le_iff_toInt_le.mp hs2
    have e0 : (0 : Int32).toInt = 0 := rfl
    have e1 : (1 : Int32).toInt = 1 := rfl
    rw [i40] at h2
    rw [e0] at h1
    rw [e1]
    apply Int.bmod_eq_of_le <;> omega
  constructor
  · rintro ⟨q1, q2⟩
    have q3 := Int32.le_iff_toInt_le.mp q2
    exact ⟨q1, Int32.lt_iff_toInt_lt.mpr (by omega)⟩
  · rintro ⟨q1, q2⟩
    have q3 := Int32.lt_iff_toInt_lt.mp q2
    exact ⟨q1, Int32.le_iff_toInt_le.mpr (by omega)⟩
theorem both_lay (hc : CM h) : Both sc 98 166 [.int x, .int i, .int v] h := by
  unfold Both
  obtain ⟨hw, hf, hr, ht, hs⟩ := id hc
  by_cases e0 : 0 ≤ x ∧ x < 6
  · obtain ⟨rn, hrn, rfl⟩ := ir_of (n := 6) (by decide) e0
    obtain ⟨w1, w2, w3, w4, w5⟩ := hw.row hrn
    rw [e_98]
    simp only [x_98_0, x_98_1, x_98_4, x_98_7, x_98_8, x_98_9, x_98_10, x_98_13, x_98_14, x_98_15, x_98_18, x_98_21, x_98_22, x_98_23, x_98_26, x_98_27, x_98_28, x_98_31, x_98_32, x_98_33, x_98_34, x_98_37, x_98_40, x_98_41, x_98_42, x_98_45, x_98_46, x_98_47, x_98_48, x_98_51, x_98_52, x_98_53, x_98_56, x_98_57, x_98_58, x_98_61, x_98_62, x_98_65, x_98_66, x_98_67, x_98_70, x_98_71, x_98_72, x_98_73, x_98_74, c_isRow, isRow_t hrn, i_10, if_false, tl_s, o_0 hw, w_0_0 hw, o_1 hw, Bool.true_or, inb_nI (n := LN 1) hrn (by decide), Bool.and_self, nI_clamp (n := rn) (by omega), w1, w2, w3, true_and, Option.some.injEq, exists_eq_left', c_isMiss w3, c_hasPlace w3, bI_0, c_refuse_1 hw, c_refuse_2 hw]
    by_cases e1 : hI h (48 + 2 * rn) 1 < 0
    · rw [if_neg (fun q => q e1)]
      have hw1 := WF_refu (f := 1) hw
      rw [e_166]
      simp only [x_166_0, x_166_1, x_166_2, x_166_5, x_166_7, x_166_9, x_166_12, x_166_14, x_166_15, x_166_16, x_166_17, x_166_18, x_166_21, x_166_22, x_166_23, x_166_24, x_166_25, x_166_28, x_166_31, x_166_32, x_166_33, x_166_36, x_166_37, x_166_38, x_166_39, x_166_42, x_166_44, x_166_45, x_166_46, x_166_47, x_166_48, x_166_49, x_166_52, x_166_53, x_166_56, x_166_58, x_166_59, x_166_60, x_166_61, x_166_62, x_166_63, x_166_64, x_166_65, m_askedRow hw1 hrn, o_124 hw1, true_and]
      have e2 : ¬ 0 ≤ hI (refu h 1) 126 rn := by rw [refu_I (by decide) (by decide), ← sz_neg hr hrn]; exact e1
      rw [if_neg e2]
      simp only [tl_s, x_166_0, x_166_1, x_166_2, x_166_5, x_166_7, x_166_9, x_166_12, x_166_14, x_166_15, x_166_16, x_166_17, x_166_18, x_166_21, x_166_22, x_166_23, x_166_24, x_166_25, x_166_28, x_166_31, x_166_32, x_166_33, x_166_36, x_166_37, x_166_38, x_166_39, x_166_42, x_166_44, x_166_45, x_166_46, x_166_47, x_166_48, x_166_49, x_166_52, x_166_53, x_166_56, x_166_58, x_166_59, x_166_60, x_166_61, x_166_62, x_166_63, x_166_64, x_166_65, i_m3, if_false, cl2_i, Option.some.injEq, exists_eq_left', true_and]
      exact cm_ref (by decide) hc
    · rw [if_pos e1]
      have e2 : 0 ≤ hI h 126 rn := Classical.not_not.mp (fun q => e1 (by rw [sz_neg hr hrn]; exact q))
      obtain ⟨e3, e4⟩ := sz_eq hr hrn e2
      rw [e3]
      by_cases e5 : 0 ≤ i ∧ i < hI h 126 rn
      · rw [if_neg (fun q => q e5)]
        obtain ⟨j, hj, rfl⟩ := ix_of (N := 40) (by decide) e4 e5
        have hcl : (nI j).toNatClampNeg = j := nI_clamp (by omega)
        simp only [x_98_0, x_98_1, x_98_4, x_98_7, x_98_8, x_98_9, x_98_10, x_98_13, x_98_14, x_98_15, x_98_18, x_98_21, x_98_22, x_98_23, x_98_26, x_98_27, x_98_28, x_98_31, x_98_32, x_98_33, x_98_34, x_98_37, x_98_40, x_98_41, x_98_42, x_98_45, x_98_46, x_98_47, x_98_48, x_98_51, x_98_52, x_98_53, x_98_56, x_98_57, x_98_58, x_98_61, x_98_62, x_98_65, x_98_66, x_98_67, x_98_70, x_98_71, x_98_72, x_98_73, x_98_74, iOk_ok w4, iRd_ok w4, w5, inb_nI (n := 40) hj (by decide), hcl, true_and, okp_sI, o_0 hw, hR_sI, w_0_0 hw, o_1 hw, Bool.true_or, Bool.and_self, inb_nI (n := LN 1) hrn (by decide), nI_clamp (n := rn) (by omega), w1, w2, w3, w4, Option.some.injEq, exists_eq_left']
        generalize hh : sI (sI h 0 15 (hI h (49 + 2 * rn) j)) (49 + 2 * rn) j v = h1
        have hf1 : Fr (fun a => a = 0 ∨ a = 49 + 2 * rn) h h1 := by rw [← hh]; exact (Fr_sI (Or.inl rfl)).tr (Fr_sI (Or.inr rfl))
        have hw1 : WF h1 := Fr_WF hf1 hw
        have g1 : hI h1 126 rn = hI h 126 rn := (hf1.2.2 126 (by omega) rn).1
        have g2 : hI h1 127 (40 * rn + j) = hI h 127 (40 * rn + j) := (hf1.2.2 127 (by omega) _).1
        have g3 : 40 * rn + j < 240 := by omega
        rw [e_166]
        simp only [x_166_0, x_166_1, x_166_2, x_166_5, x_166_7, x_166_9, x_166_12, x_166_14, x_166_15, x_166_16, x_166_17, x_166_18, x_166_21, x_166_22, x_166_23, x_166_24, x_166_25, x_166_28, x_166_31, x_166_32, x_166_33, x_166_36, x_166_37, x_166_38, x_166_39, x_166_42, x_166_44, x_166_45, x_166_46, x_166_47, x_166_48, x_166_49, x_166_52, x_166_53, x_166_56, x_166_58, x_166_59, x_166_60, x_166_61, x_166_62, x_166_63, x_166_64, x_166_65, m_askedRow hw1 hrn, o_124 hw1, true_and, g1]
        rw [if_pos e2]
        simp only [tl_s, x_166_0, x_166_1, x_166_2, x_166_5, x_166_7, x_166_9, x_166_12, x_166_14, x_166_15, x_166_16, x_166_17, x_166_18, x_166_21, x_166_22, x_166_23, x_166_24, x_166_25, x_166_28, x_166_31, x_166_32, x_166_33, x_166_36, x_166_37, x_166_38, x_166_39, x_166_42, x_166_44, x_166_45, x_166_46, x_166_47, x_166_48, x_166_49, x_166_52, x_166_53, x_166_56, x_166_58, x_166_59, x_166_60, x_166_61, x_166_62, x_166_63, x_166_64, x_166_65, i_0, if_true, cl2_i, o_124 hw1, w_124_6 hw1, w_124_7 hw1, o_126 hw1, o_127 hw1, iOk_ok (o_126 hw1), iRd_ok (o_126 hw1), iOk_ok (o_127 hw1), iRd_ok (o_127 hw1), inb_nI (n := LN 126) hrn (by decide), inb_nI (n := LN 127) g3 (by decide), nI_clamp (n := 40 * rn + j) (by omega), Bool.and_self, nI_clamp (n := rn) (by omega), Option.some.injEq, exists_eq_left', true_and, g1, g2, m_in, i_le1 e2 e4, bI_t e5, i_10, if_false, lay_ix hrn hj, okp_sI, hR_sI]
        have hf2 : Fr (fun a => a = 0 ∨ a = 49 + 2 * rn ∨ a = 124 ∨ a = 127) h (sI (sI h1 124 2 (hI h 127 (40 * rn + j))) 127 (40 * rn + j) v) := (hf1.wk (fun a q => by omega)).tr ((Fr_sI (Or.inr (Or.inr (Or.inl rfl)))).tr (Fr_sI (Or.inr (Or.inr (Or.inr rfl)))))
        refine ⟨Fr_WF hf2 hw, ?_, ?_, CMt_fr hf2 (fun a q z => by omega) ht, CMs_fr hf2 (fun a q z => by omega) hs⟩
        · obtain ⟨f1, f2, f3, f4, f5, f6⟩ := hf
          rw [← hh]
          simp only [CMf, hI_sI, hL_sI, Nat.reduceEqDiff, if_false, if_true, show ¬ (0 = 49 + 2 * rn) from by omega, show ¬ (124 = 49 + 2 * rn) from by omega, show ¬ (47 = 49 + 2 * rn) from by omega, show ¬ (125 = 49 + 2 * rn) from by omega]
          exact ⟨f1, f2, ((hr rn hrn).2 j hj).symm, f4, f5, f6⟩
        · intro r' hr'
          obtain ⟨c1, c2⟩ := hr r' hr'
          rw [← hh]
          refine ⟨?_, fun b hb => ?_⟩
          · simp only [hI_sI, Nat.reduceEqDiff, if_false, show ¬ (48 + 2 * r' = 127) from by omega, show ¬ (48 + 2 * r' = 124) from by omega, show ¬ (48 + 2 * r' = 49 + 2 * rn) from by omega, show ¬ (48 + 2 * r' = 0) from by omega, show ¬ (126 = 49 + 2 * rn) from by omega]
            exact c1
          · simp only [hI_sI, Nat.reduceEqDiff, if_false, if_true, show ¬ (49 + 2 * r' = 127) from by omega, show ¬ (49 + 2 * r' = 124) from by omega, show ¬ (49 + 2 * r' = 0) from by omega, show ¬ (127 = 49 + 2 * rn) from by omega]
            by_cases q1 : r' = rn
            · subst q1
              by_cases q2 : b = j
              · subst q2
                simp only [if_true]
              · rw [if_neg (by omega), if_pos rfl, if_neg q2]
                exact c2 b hb
            · rw [if_neg (by omega), if_neg (by omega)]
              exact c2 b hb
      · rw [if_pos e5]
        have hw1 := WF_refu (f := 2) hw
        have g1 : hI (refu h 2) 126 rn = hI h 126 rn := refu_I (by decide) (by decide)
        rw [e_166]
        simp only [x_166_0, x_166_1, x_166_2, x_166_5, x_166_7, x_166_9, x_166_12, x_166_14, x_166_15, x_166_16, x_166_17, x_166_18, x_166_21, x_166_22, x_166_23, x_166_24, x_166_25, x_166_28, x_166_31, x_166_32, x_166_33, x_166_36, x_166_37, x_166_38, x_166_39, x_166_42, x_166_44, x_166_45, x_166_46, x_166_47, x_166_48, x_166_49, x_166_52, x_166_53, x_166_56, x_166_58, x_166_59, x_166_60, x_166_61, x_166_62, x_166_63, x_166_64, x_166_65, m_askedRow hw1 hrn, o_124 hw1, true_and, g1]
        rw [if_pos e2]
        simp only [tl_s, x_166_0, x_166_1, x_166_2, x_166_5, x_166_7, x_166_9, x_166_12, x_166_14, x_166_15, x_166_16, x_166_17, x_166_18, x_166_21, x_166_22, x_166_23, x_166_24, x_166_25, x_166_28, x_166_31, x_166_32, x_166_33, x_166_36, x_166_37, x_166_38, x_166_39, x_166_42, x_166_44, x_166_45, x_166_46, x_166_47, x_166_48, x_166_49, x_166_52, x_166_53, x_166_56, x_166_58, x_166_59, x_166_60, x_166_61, x_166_62, x_166_63, x_166_64, x_166_65, i_0, if_true, cl2_i, o_124 hw1, w_124_6 hw1, iOk_ok (o_126 hw1), iRd_ok (o_126 hw1), inb_nI (n := LN 126) hrn (by decide), nI_clamp (n := rn) (by omega), Option.some.injEq, exists_eq_left', true_and, g1, m_in, i_le1 e2 e4, bI_f e5, i_00, m_meets_2 hw1]
        exact cm_ref (by decide) hc
  · rw [e_98]
    have hb : bI (0 ≤ x ∧ x < 6) = 0 := bI_f e0
    simp only [x_98_0, x_98_1, x_98_4, x_98_7, x_98_8, x_98_9, x_98_10, x_98_13, x_98_14, x_98_15, x_98_18, x_98_21, x_98_22, x_98_23, x_98_26, x_98_27, x_98_28, x_98_31, x_98_32, x_98_33, x_98_34, x_98_37, x_98_40, x_98_41, x_98_42, x_98_45, x_98_46, x_98_47, x_98_48, x_98_51, x_98_52, x_98_53, x_98_56, x_98_57, x_98_58, x_98_61, x_98_62, x_98_65, x_98_66, x_98_67, x_98_70, x_98_71, x_98_72, x_98_73, x_98_74, c_isRow, hb, i_00, if_true, tl_s]
    rw [e_166]
    simp only [x_166_0, x_166_1, x_166_2, x_166_5, x_166_7, x_166_9, x_166_12, x_166_14, x_166_15, x_166_16, x_166_17, x_166_18, x_166_21, x_166_22, x_166_23, x_166_24, x_166_25, x_166_28, x_166_31, x_166_32, x_166_33, x_166_36, x_166_37, x_166_38, x_166_39, x_166_42, x_166_44, x_166_45, x_166_46, x_166_47, x_166_48, x_166_49, x_166_52, x_166_53, x_166_56, x_166_58, x_166_59, x_166_60, x_166_61, x_166_62, x_166_63, x_166_64, x_166_65, m_askedRow_bad e0, tl_s, i_m1, if_false, cl2_i, o_124 hw, true_and, Option.some.injEq, exists_eq_left']
    exact hc
end R4
