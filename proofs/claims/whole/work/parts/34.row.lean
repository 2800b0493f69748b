/-! ===== findings, row ===== -/
section R5
variable {sc : Nat × (Nat → Int32)} {d : Nat} {Q : PRes → Prop} {h : PH} {k r : Nat} {x i v n : Int32}
theorem nI1 : (1 : Int32) = nI 1 := rfl
theorem nI5 : (5 : Int32) = nI 5 := rfl
theorem both_findings (hc : CM h) : Both sc 139 248 [.int x] h := by
  unfold Both
  obtain ⟨hw, hf, hr, ht, hs⟩ := id hc
  by_cases e0 : 1 ≤ x ∧ x ≤ 5
  · obtain ⟨j, hj, rfl⟩ : ∃ j, j < 6 ∧ x = nI j := by
      have h1 := Int32.le_iff_toInt_le.mp e0.1
      have h2 := Int32.le_iff_toInt_le.mp e0.2
      have z1 : (1 : Int32).toInt = 1 := rfl
      have z5 : (5 : Int32).toInt = 5 := rfl
      have z0 : (0 : Int32).toInt = 0 := rfl
      exact ir_of (n := 6) (by decide) ⟨Int32.le_iff_toInt_le.mpr (by omega), Int32.lt_iff_toInt_lt.mpr (by rw [show (nI 6).toInt = 6 from rfl]; omega)⟩
    rw [e_139]
    simp only [x_139_0, x_139_1, x_139_2, x_139_5, x_139_6, x_139_7, x_139_10, x_139_11, x_139_14, x_139_15, x_139_18, x_139_19, x_139_20]
    rw [if_neg (Int32.not_lt.mpr e0.1), if_pos e0.2]
    simp only [x_139_0, x_139_1, x_139_2, x_139_5, x_139_6, x_139_7, x_139_10, x_139_11, x_139_14, x_139_15, x_139_18, x_139_19, x_139_20, o_0 hw, w_0_13 hw, iOk_ok (o_47 hw), iRd_ok (o_47 hw), inb_nI (n := LN 47) hj (by decide), nI_clamp (n := j) (by omega), true_and, Option.some.injEq, exists_eq_left']
    rw [e_248]
    simp only [x_248_0, x_248_1, x_248_2, x_248_3, x_248_6, x_248_9, x_248_10, x_248_13, x_248_14, x_248_15, x_248_18, x_248_19, m_in, tl_s, bI_t e0, i_10, if_false, o_124 hw, w_124_1 hw, iOk_ok (o_125 hw), iRd_ok (o_125 hw), inb_nI (n := LN 125) hj (by decide), nI_clamp (n := j) (by omega), true_and, Option.some.injEq, exists_eq_left', Value.int.injEq]
    exact ⟨(hf.2.1 j hj).symm, hc⟩
  · rw [e_139]
    simp only [x_139_0, x_139_1, x_139_2, x_139_5, x_139_6, x_139_7, x_139_10, x_139_11, x_139_14, x_139_15, x_139_18, x_139_19, x_139_20]
    have hcls : ∀ {A : Prop}, (if x < 1 then A else if x ≤ 5 then (okp h 0 9 = true ∧ ∃ q, hR h 0 13 = some q ∧ iOk sc h q x ∧ Tr sc 19 248 (ent0 248 [.ref 124, .int x] h) (fun r2 => (∃ v, some (Value.int (iRd sc h q x)) = some v ∧ r2.1 = some v) ∧ CM r2.2)) else A) = A := by
      intro A
      by_cases q1 : x < 1
      · rw [if_pos q1]
      · rw [if_neg q1, if_neg (fun q2 => e0 ⟨Int32.not_lt.mp q1, q2⟩)]
    rw [hcls]
    rw [e_248]
    simp only [x_248_0, x_248_1, x_248_2, x_248_3, x_248_6, x_248_9, x_248_10, x_248_13, x_248_14, x_248_15, x_248_18, x_248_19, m_in, tl_s, bI_f e0, i_00, if_true, true_and, Option.some.injEq, exists_eq_left']
    exact hc
theorem m_row_loop (hw : WF h) (hr : r < 6) : ∀ (m i : Nat), i + m = 40 → ∀ f : Nat → Int32, Tr sc d 165 (34, [some (.ref 124), some (.int (nI r)), some (.int n), some (.int (nI i))], [], aI h 127 f) Q = Q (some (.int n), aI h 127 (fun b => if 40 * r + i ≤ b ∧ b < 40 * r + 40 then 0 else f b)) := by
  intro m
  induction m with
  | zero =>
    intro i hi f
    have e : i = 40 := by omega
    subst e
    rw [x_165_34]
    simp only [x_165_0, x_165_1, x_165_4, x_165_7, x_165_8, x_165_10, x_165_13, x_165_14, x_165_15, x_165_16, x_165_19, x_165_20, x_165_21, x_165_24, x_165_25, x_165_26, x_165_29, x_165_30, x_165_31, x_165_32, x_165_33, x_165_35, x_165_37, x_165_40, x_165_41, x_165_44, x_165_46, x_165_47, x_165_48, x_165_49, x_165_50, x_165_51, x_165_52, x_165_55, x_165_58, x_165_59]
    rw [if_pos (show (40 : Int32) ≤ nI 40 from by decide)]
    congr 3
    funext b
    rw [if_neg (by omega)]
  | succ m ih =>
    intro i hi f
    have hlt : i < 40 := by omega
    have hw1 : WF (aI h 127 f) := hw
    have g3 : 40 * r + i < 240 := by omega
    rw [x_165_34]
    simp only [x_165_0, x_165_1, x_165_4, x_165_7, x_165_8, x_165_10, x_165_13, x_165_14, x_165_15, x_165_16, x_165_19, x_165_20, x_165_21, x_165_24, x_165_25, x_165_26, x_165_29, x_165_30, x_165_31, x_165_32, x_165_33, x_165_35, x_165_37, x_165_40, x_165_41, x_165_44, x_165_46, x_165_47, x_165_48, x_165_49, x_165_50, x_165_51, x_165_52, x_165_55, x_165_58, x_165_59, cl2_i, o_124 hw1, w_124_7 hw1, o_127 hw1, true_and, Option.some.injEq, exists_eq_left', lay_ix hr hlt, inb_nI (n := LN 127) g3 (by decide), nI_clamp (n := 40 * r + i) (by omega), Bool.and_self, nI_1, sI_aI]
    rw [if_neg (show ¬ (40 : Int32) ≤ nI i from nI_ge hlt (by decide)), ih (i + 1) (by omega)]
    congr 3
    funext b
    by_cases e1 : b = 40 * r + i
    · rw [if_neg (by omega), if_pos e1, if_pos (by omega)]
    · by_cases e2 : 40 * r + (i + 1) ≤ b ∧ b < 40 * r + 40
      · rw [if_pos e2, if_pos (by omega)]
      · rw [if_neg e2, if_neg e1, if_neg (by omega)]
theorem both_row (hc : CM h) : Both sc 97 165 [.int x, .int n] h := by
  unfold Both
  obtain ⟨hw, hf, hr, ht, hs⟩ := id hc
  by_cases e0 : 0 ≤ x ∧ x < 6
  · obtain ⟨rn, hrn, rfl⟩ := ir_of (n := 6) (by decide) e0
    obtain ⟨w1, w2, w3, w4, w5⟩ := hw.row hrn
    have hb : bI (0 ≤ nI rn ∧ nI rn ≤ 5) = 1 := bI_t ⟨nI_pos' (by omega), nI_le (a := rn) (b := 5) (by omega) (by decide)⟩
    rw [e_97]
    simp only [x_97_0, x_97_1, x_97_4, x_97_7, x_97_8, x_97_10, x_97_13, x_97_14, x_97_15, x_97_16, x_97_19, x_97_20, x_97_21, x_97_24, x_97_25, x_97_26, x_97_29, x_97_30, x_97_31, x_97_32, x_97_33, x_97_36, x_97_37, c_isRow, isRow_t hrn, i_10, if_false, tl_s]
    by_cases e1 : n ≤ 40
    · rw [if_pos e1]
      by_cases e2 : 0 ≤ n
      · rw [if_pos e2]
        simp only [x_97_0, x_97_1, x_97_4, x_97_7, x_97_8, x_97_10, x_97_13, x_97_14, x_97_15, x_97_16, x_97_19, x_97_20, x_97_21, x_97_24, x_97_25, x_97_26, x_97_29, x_97_30, x_97_31, x_97_32, x_97_33, x_97_36, x_97_37, tl_n, o_0 hw, w_0_0 hw, o_1 hw, Bool.true_or, inb_nI (n := LN 1) hrn (by decide), Bool.and_self, nI_clamp (n := rn) (by omega), w1, w3, true_and, Option.some.injEq, exists_eq_left', c_open w3 w2 w4 (show LN (49 + 2 * rn) < 2 ^ 31 by rw [w5]; decide)]
        generalize hh : sI (aI h (49 + 2 * rn) (fun b => if b < LN (49 + 2 * rn) then 0 else hI h (49 + 2 * rn) b)) (48 + 2 * rn) 1 n = h1
        have hf1 : Fr (fun a => a = 48 + 2 * rn ∨ a = 49 + 2 * rn) h h1 := by rw [← hh]; exact (Fr_aI (Or.inr rfl)).tr (Fr_sI (Or.inl rfl))
        have hw1 : WF h1 := Fr_WF hf1 hw
        rw [e_165]
        simp only [x_165_0, x_165_1, x_165_4, x_165_7, x_165_8, x_165_10, x_165_13, x_165_14, x_165_15, x_165_16, x_165_19, x_165_20, x_165_21, x_165_24, x_165_25, x_165_26, x_165_29, x_165_30, x_165_31, x_165_32, x_165_33, x_165_35, x_165_37, x_165_40, x_165_41, x_165_44, x_165_46, x_165_47, x_165_48, x_165_49, x_165_50, x_165_51, x_165_52, x_165_55, x_165_58, x_165_59, m_isRow, hb, tl_s, i_10, if_false]
        rw [if_pos e1, if_pos e2]
        simp only [x_165_0, x_165_1, x_165_4, x_165_7, x_165_8, x_165_10, x_165_13, x_165_14, x_165_15, x_165_16, x_165_19, x_165_20, x_165_21, x_165_24, x_165_25, x_165_26, x_165_29, x_165_30, x_165_31, x_165_32, x_165_33, x_165_35, x_165_37, x_165_40, x_165_41, x_165_44, x_165_46, x_165_47, x_165_48, x_165_49, x_165_50, x_165_51, x_165_52, x_165_55, x_165_58, x_165_59, o_124 hw1, w_124_6 hw1, o_126 hw1, true_and, Option.some.injEq, exists_eq_left', inb_nI (n := LN 126) hrn (by decide), nI_clamp (n := rn) (by omega), Bool.and_self, cl2_i]
        have hl := fun Q => m_row_loop (sc := sc) (d := 19) (Q := Q) (n := n) (h := sI h1 126 rn n) (r := rn) hw1 hrn 40 0 (by omega) (hI (sI h1 126 rn n) 127)
        simp only [aI_id] at hl
        refine (hl _).mpr ?_
        refine ⟨rfl, ?_⟩
        generalize hh2 : aI (sI h1 126 rn n) 127 (fun b => if 40 * rn + 0 ≤ b ∧ b < 40 * rn + 40 then 0 else hI (sI h1 126 rn n) 127 b) = h2
        have hf2 : Fr (fun a => a = 48 + 2 * rn ∨ a = 49 + 2 * rn ∨ a = 126 ∨ a = 127) h h2 := by
          rw [← hh2]
          exact (hf1.wk (fun a q => by omega)).tr ((Fr_sI (Or.inr (Or.inr (Or.inl rfl)))).tr (Fr_aI (Or.inr (Or.inr (Or.inr rfl)))))
        refine ⟨Fr_WF hf2 hw, CMf_fr hf2 (fun a q z => by omega) hf, ?_, CMt_fr hf2 (fun a q z => by omega) ht, CMs_fr hf2 (fun a q z => by omega) hs⟩
        intro r' hr'
        obtain ⟨c1, c2⟩ := hr r' hr'
        rw [← hh2, ← hh]
        refine ⟨?_, fun b hb9 => ?_⟩
        · simp only [hI_sI, hI_aI, Nat.reduceEqDiff, if_false, if_true, show ¬ (48 + 2 * r' = 127) from by omega, show ¬ (48 + 2 * r' = 126) from by omega, show ¬ (48 + 2 * r' = 49 + 2 * rn) from by omega, show ¬ (126 = 48 + 2 * rn) from by omega, show ¬ (126 = 49 + 2 * rn) from by omega]
          by_cases q1 : r' = rn
          · subst q1
            simp only [if_true]
            exact Or.inr ⟨e2, e1, trivial⟩
          · rw [if_neg (show ¬ 48 + 2 * r' = 48 + 2 * rn by omega), if_neg q1]
            exact c1
        · simp only [hI_sI, hI_aI, Nat.reduceEqDiff, if_false, if_true, show ¬ (49 + 2 * r' = 127) from by omega, show ¬ (49 + 2 * r' = 126) from by omega, show ¬ (49 + 2 * r' = 48 + 2 * rn) from by omega, show ¬ (127 = 48 + 2 * rn) from by omega, show ¬ (127 = 49 + 2 * rn) from by omega]
          by_cases q1 : r' = rn
          · subst q1
            rw [if_pos (by omega), if_pos rfl, if_pos (by rw [w5]; exact hb9)]
          · rw [if_neg (by omega), if_neg (by omega)]
            exact c2 b hb9
      · rw [if_neg e2]
        simp only [x_97_0, x_97_1, x_97_4, x_97_7, x_97_8, x_97_10, x_97_13, x_97_14, x_97_15, x_97_16, x_97_19, x_97_20, x_97_21, x_97_24, x_97_25, x_97_26, x_97_29, x_97_30, x_97_31, x_97_32, x_97_33, x_97_36, x_97_37, o_0 hw, true_and, c_refuse_5 hw, tl_s]
        have hw1 := WF_refu (f := 5) hw
        rw [e_165]
        simp only [x_165_0, x_165_1, x_165_4, x_165_7, x_165_8, x_165_10, x_165_13, x_165_14, x_165_15, x_165_16, x_165_19, x_165_20, x_165_21, x_165_24, x_165_25, x_165_26, x_165_29, x_165_30, x_165_31, x_165_32, x_165_33, x_165_35, x_165_37, x_165_40, x_165_41, x_165_44, x_165_46, x_165_47, x_165_48, x_165_49, x_165_50, x_165_51, x_165_52, x_165_55, x_165_58, x_165_59, m_isRow, hb, tl_s, i_10, if_false]
        rw [if_pos e1, if_neg e2]
        simp only [x_165_0, x_165_1, x_165_4, x_165_7, x_165_8, x_165_10, x_165_13, x_165_14, x_165_15, x_165_16, x_165_19, x_165_20, x_165_21, x_165_24, x_165_25, x_165_26, x_165_29, x_165_30, x_165_31, x_165_32, x_165_33, x_165_35, x_165_37, x_165_40, x_165_41, x_165_44, x_165_46, x_165_47, x_165_48, x_165_49, x_165_50, x_165_51, x_165_52, x_165_55, x_165_58, x_165_59, o_124 hw1, true_and, m_meets_5 hw1, tl_s, Option.some.injEq, exists_eq_left']
        exact cm_ref (by decide) hc
    · rw [if_neg e1]
      rw [e_165]
      simp only [x_165_0, x_165_1, x_165_4, x_165_7, x_165_8, x_165_10, x_165_13, x_165_14, x_165_15, x_165_16, x_165_19, x_165_20, x_165_21, x_165_24, x_165_25, x_165_26, x_165_29, x_165_30, x_165_31, x_165_32, x_165_33, x_165_35, x_165_37, x_165_40, x_165_41, x_165_44, x_165_46, x_165_47, x_165_48, x_165_49, x_165_50, x_165_51, x_165_52, x_165_55, x_165_58, x_165_59, m_isRow, hb, tl_s, i_10, if_false]
      rw [if_neg e1]
      simp only [x_165_0, x_165_1, x_165_4, x_165_7, x_165_8, x_165_10, x_165_13, x_165_14, x_165_15, x_165_16, x_165_19, x_165_20, x_165_21, x_165_24, x_165_25, x_165_26, x_165_29, x_165_30, x_165_31, x_165_32, x_165_33, x_165_35, x_165_37, x_165_40, x_165_41, x_165_44, x_165_46, x_165_47, x_165_48, x_165_49, x_165_50, x_165_51, x_165_52, x_165_55, x_165_58, x_165_59, Option.some.injEq, exists_eq_left', true_and]
      exact hc
  · rw [e_97]
    have hb : bI (0 ≤ x ∧ x < 6) = 0 := bI_f e0
    have hb2 : bI (0 ≤ x ∧ x ≤ 5) = 0 := bI_f (fun z => e0 ⟨z.1, Int32.lt_iff_toInt_lt.mpr (by have h1 := Int32.le_iff_toInt_le.mp z.2; have z5 : (5 : Int32).toInt = 5 := rfl; have z6 : (6 : Int32).toInt = 6 := rfl; omega)⟩)
    simp only [x_97_0, x_97_1, x_97_4, x_97_7, x_97_8, x_97_10, x_97_13, x_97_14, x_97_15, x_97_16, x_97_19, x_97_20, x_97_21, x_97_24, x_97_25, x_97_26, x_97_29, x_97_30, x_97_31, x_97_32, x_97_33, x_97_36, x_97_37, c_isRow, hb, i_00, if_true, tl_s]
    rw [e_165]
    simp only [x_165_0, x_165_1, x_165_4, x_165_7, x_165_8, x_165_10, x_165_13, x_165_14, x_165_15, x_165_16, x_165_19, x_165_20, x_165_21, x_165_24, x_165_25, x_165_26, x_165_29, x_165_30, x_165_31, x_165_32, x_165_33, x_165_35, x_165_37, x_165_40, x_165_41, x_165_44, x_165_46, x_165_47, x_165_48, x_165_49, x_165_50, x_165_51, x_165_52, x_165_55, x_165_58, x_165_59, m_isRow, hb2, tl_s, i_00, if_true, true_and, Option.some.injEq, exists_eq_left']
    exact hc
end R5
